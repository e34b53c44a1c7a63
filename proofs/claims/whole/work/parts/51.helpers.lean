/-! the law: its helpers -/
theorem cst_xIO : Cond.castable xIO xIO ∈ qNg := List.mem_filter.mpr ⟨List.mem_of_getElem? (i := 342) (by decide +kernel), rfl⟩
theorem x5_xIO : xIO ∈ qX5 := List.mem_of_getElem? (i := 0) rfl
theorem cst_xIA : Cond.castable xIA xIA ∈ qNg := List.mem_filter.mpr ⟨List.mem_of_getElem? (i := 231) (by decide +kernel), rfl⟩
theorem x5_xIA : xIA ∈ qX5 := List.mem_of_getElem? (i := 1) rfl
theorem cst_xUO : Cond.castable xUO xUO ∈ qNg := List.mem_filter.mpr ⟨List.mem_of_getElem? (i := 375) (by decide +kernel), rfl⟩
theorem x5_xUO : xUO ∈ qX5 := List.mem_of_getElem? (i := 2) rfl
theorem cst_xIS : Cond.castable xIS xIS ∈ qNg := List.mem_filter.mpr ⟨List.mem_of_getElem? (i := 305) (by decide +kernel), rfl⟩
theorem x5_xIS : xIS ∈ qX5 := List.mem_of_getElem? (i := 3) rfl
theorem cst_xNS : Cond.castable xNS xNS ∈ qNg := List.mem_filter.mpr ⟨List.mem_of_getElem? (i := 482) (by decide +kernel), rfl⟩
theorem x5_xNS : xNS ∈ qX5 := List.mem_of_getElem? (i := 4) rfl
theorem ne_xIO_xIA : xIO ≠ xIA := by decide +kernel
theorem ne_xIO_xUO : xIO ≠ xUO := by decide +kernel
theorem ne_xIO_xIS : xIO ≠ xIS := by decide +kernel
theorem ne_xIO_xNS : xIO ≠ xNS := by decide +kernel
theorem ne_xIA_xIO : xIA ≠ xIO := by decide +kernel
theorem ne_xIA_xUO : xIA ≠ xUO := by decide +kernel
theorem ne_xIA_xIS : xIA ≠ xIS := by decide +kernel
theorem ne_xIA_xNS : xIA ≠ xNS := by decide +kernel
theorem ne_xUO_xIO : xUO ≠ xIO := by decide +kernel
theorem ne_xUO_xIA : xUO ≠ xIA := by decide +kernel
theorem ne_xUO_xIS : xUO ≠ xIS := by decide +kernel
theorem ne_xUO_xNS : xUO ≠ xNS := by decide +kernel
theorem ne_xIS_xIO : xIS ≠ xIO := by decide +kernel
theorem ne_xIS_xIA : xIS ≠ xIA := by decide +kernel
theorem ne_xIS_xUO : xIS ≠ xUO := by decide +kernel
theorem ne_xIS_xNS : xIS ≠ xNS := by decide +kernel
theorem ne_xNS_xIO : xNS ≠ xIO := by decide +kernel
theorem ne_xNS_xIA : xNS ≠ xIA := by decide +kernel
theorem ne_xNS_xUO : xNS ≠ xUO := by decide +kernel
theorem ne_xNS_xIS : xNS ≠ xIS := by decide +kernel
theorem clL_13 : Cond.classLink RL 13 xIA ∈ qAW := qm 223 (by decide +kernel) rfl
theorem clL_15 : Cond.classLink RL 15 xIS ∈ qAW := qm 224 (by decide +kernel) rfl
theorem clL_21 : Cond.classLink RL 21 xIO ∈ qAW := qm 326 (by decide +kernel) rfl
theorem clL_23 : Cond.classLink RL 23 xUO ∈ qAW := qm 327 (by decide +kernel) rfl
theorem clL_43 : Cond.classLink RL 43 xNS ∈ qAW := qm 474 (by decide +kernel) rfl
theorem mL_addStack : qMtH yL_addStack cL_addStack 4 (some .int) [(0, 9, 12, 13), (0, 9, 15, 15)] 3 := ⟨qm 222 (by decide +kernel) rfl, qm 221 (by decide +kernel) rfl, qm 41 (by decide +kernel) rfl, (by decide +kernel), (by decide +kernel)⟩
theorem mL_addBox : qMtH yL_addBox cL_addBox 5 (some .int) [(0, 10, 13, 21), (0, 10, 17, 13), (0, 10, 21, 23), (0, 10, 25, 15)] 4 := ⟨qm 325 (by decide +kernel) rfl, qm 324 (by decide +kernel) rfl, qm 41 (by decide +kernel) rfl, (by decide +kernel), (by decide +kernel)⟩
theorem mL_weight : qMtH yL_weight cL_weight 4 (some .int) [(0, 9, 12, 21)] 3 := ⟨qm 413 (by decide +kernel) rfl, qm 412 (by decide +kernel) rfl, qm 41 (by decide +kernel) rfl, (by decide +kernel), (by decide +kernel)⟩
theorem mL_stackOf : qMtH yL_stackOf cL_stackOf 4 (some .int) [(0, 9, 12, 21)] 3 := ⟨qm 426 (by decide +kernel) rfl, qm 425 (by decide +kernel) rfl, qm 41 (by decide +kernel) rfl, (by decide +kernel), (by decide +kernel)⟩
theorem mL_level : qMtH yL_level cL_level 4 (some .int) [(0, 9, 12, 21)] 3 := ⟨qm 433 (by decide +kernel) rfl, qm 432 (by decide +kernel) rfl, qm 41 (by decide +kernel) rfl, (by decide +kernel), (by decide +kernel)⟩
theorem mL_above : qMtH yL_above cL_above 4 (some .int) [(0, 9, 12, 21)] 3 := ⟨qm 453 (by decide +kernel) rfl, qm 452 (by decide +kernel) rfl, qm 41 (by decide +kernel) rfl, (by decide +kernel), (by decide +kernel)⟩
theorem mL_height : qMtH yL_height cL_height 4 (some .int) [(0, 9, 12, 21)] 3 := ⟨qm 465 (by decide +kernel) rfl, qm 464 (by decide +kernel) rfl, qm 41 (by decide +kernel) rfl, (by decide +kernel), (by decide +kernel)⟩
theorem mL_boxAt : qMtH yL_boxAt cL_boxAt 5 (some .int) [(0, 10, 13, 21), (0, 10, 17, 43)] 4 := ⟨qm 473 (by decide +kernel) rfl, qm 472 (by decide +kernel) rfl, qm 41 (by decide +kernel) rfl, (by decide +kernel), (by decide +kernel)⟩
theorem mL_hold : qMtH yL_hold cL_hold 6 (some .int) [(0, 12, 15, 21), (0, 12, 19, 13)] 5 := ⟨qm 498 (by decide +kernel) rfl, qm 497 (by decide +kernel) rfl, qm 41 (by decide +kernel) rfl, (by decide +kernel), (by decide +kernel)⟩
theorem mL_release : qMtH yL_release cL_release 4 (some .int) [(0, 9, 12, 21), (0, 9, 15, 15)] 3 := ⟨qm 544 (by decide +kernel) rfl, qm 543 (by decide +kernel) rfl, qm 41 (by decide +kernel) rfl, (by decide +kernel), (by decide +kernel)⟩
theorem mL_holdOf : qMtH yL_holdOf cL_holdOf 4 (some .int) [(0, 9, 12, 21)] 3 := ⟨qm 555 (by decide +kernel) rfl, qm 554 (by decide +kernel) rfl, qm 41 (by decide +kernel) rfl, (by decide +kernel), (by decide +kernel)⟩
theorem mL_heldUntil : qMtH yL_heldUntil cL_heldUntil 4 (some .int) [(0, 9, 12, 21), (0, 9, 15, 43)] 3 := ⟨qm 563 (by decide +kernel) rfl, qm 562 (by decide +kernel) rfl, qm 41 (by decide +kernel) rfl, (by decide +kernel), (by decide +kernel)⟩
theorem mL_pinnedAbove : qMtH yL_pinnedAbove cL_pinnedAbove 4 (some .int) [(0, 9, 12, 21)] 3 := ⟨qm 570 (by decide +kernel) rfl, qm 569 (by decide +kernel) rfl, qm 41 (by decide +kernel) rfl, (by decide +kernel), (by decide +kernel)⟩
theorem mL_why : qMtH yL_why cL_why 5 (some .int) [(0, 10, 13, 21)] 4 := ⟨qm 585 (by decide +kernel) rfl, qm 584 (by decide +kernel) rfl, qm 41 (by decide +kernel) rfl, (by decide +kernel), (by decide +kernel)⟩
theorem mL_move : qMtH yL_move cL_move 5 (some .int) [(0, 10, 13, 21), (0, 10, 17, 23)] 4 := ⟨qm 597 (by decide +kernel) rfl, qm 596 (by decide +kernel) rfl, qm 41 (by decide +kernel) rfl, (by decide +kernel), (by decide +kernel)⟩
theorem mL_planLength : qMtH yL_planLength cL_planLength 4 (some .int) [(0, 9, 12, 21), (0, 9, 15, 43)] 3 := ⟨qm 618 (by decide +kernel) rfl, qm 617 (by decide +kernel) rfl, qm 41 (by decide +kernel) rfl, (by decide +kernel), (by decide +kernel)⟩
theorem mL_planByTrying : qMtH yL_planByTrying cL_planByTrying 4 (some .int) [(0, 9, 12, 21), (0, 9, 15, 43)] 3 := ⟨qm 700 (by decide +kernel) rfl, qm 699 (by decide +kernel) rfl, qm 41 (by decide +kernel) rfl, (by decide +kernel), (by decide +kernel)⟩
theorem mL_planBox : qMtH yL_planBox cL_planBox 5 (some .int) [(0, 10, 13, 21), (0, 10, 17, 43)] 4 := ⟨qm 714 (by decide +kernel) rfl, qm 713 (by decide +kernel) rfl, qm 41 (by decide +kernel) rfl, (by decide +kernel), (by decide +kernel)⟩
theorem mL_planStack : qMtH yL_planStack cL_planStack 5 (some .int) [(0, 10, 13, 21), (0, 10, 17, 43)] 4 := ⟨qm 730 (by decide +kernel) rfl, qm 729 (by decide +kernel) rfl, qm 41 (by decide +kernel) rfl, (by decide +kernel), (by decide +kernel)⟩
theorem mL_dig : qMtH yL_dig cL_dig 4 (some .int) [(0, 9, 12, 21), (0, 9, 15, 43)] 3 := ⟨qm 741 (by decide +kernel) rfl, qm 740 (by decide +kernel) rfl, qm 41 (by decide +kernel) rfl, (by decide +kernel), (by decide +kernel)⟩
theorem mL_book : qMtH yL_book cL_book 6 (some .int) [(0, 12, 15, 21), (0, 12, 19, 13), (0, 12, 23, 23), (0, 12, 27, 15)] 5 := ⟨qm 752 (by decide +kernel) rfl, qm 751 (by decide +kernel) rfl, qm 41 (by decide +kernel) rfl, (by decide +kernel), (by decide +kernel)⟩
theorem mL_cancel : qMtH yL_cancel cL_cancel 4 (some .int) [(0, 9, 12, 21), (0, 9, 15, 15)] 3 := ⟨qm 780 (by decide +kernel) rfl, qm 779 (by decide +kernel) rfl, qm 41 (by decide +kernel) rfl, (by decide +kernel), (by decide +kernel)⟩
theorem mL_stateOf : qMtH yL_stateOf cL_stateOf 4 (some .int) [(0, 9, 12, 21)] 3 := ⟨qm 801 (by decide +kernel) rfl, qm 800 (by decide +kernel) rfl, qm 41 (by decide +kernel) rfl, (by decide +kernel), (by decide +kernel)⟩
theorem mL_appointmentOf : qMtH yL_appointmentOf cL_appointmentOf 4 (some .int) [(0, 9, 12, 21), (0, 9, 15, 43)] 3 := ⟨qm 808 (by decide +kernel) rfl, qm 807 (by decide +kernel) rfl, qm 41 (by decide +kernel) rfl, (by decide +kernel), (by decide +kernel)⟩
theorem mL_inLane : qMtH yL_inLane cL_inLane 5 (some .int) [(0, 10, 13, 21), (0, 10, 17, 13)] 4 := ⟨qm 816 (by decide +kernel) rfl, qm 815 (by decide +kernel) rfl, qm 41 (by decide +kernel) rfl, (by decide +kernel), (by decide +kernel)⟩
theorem mL_firstHour : qMtH yL_firstHour cL_firstHour 4 (some .int) [(0, 9, 12, 21), (0, 9, 15, 43)] 3 := ⟨qm 824 (by decide +kernel) rfl, qm 823 (by decide +kernel) rfl, qm 41 (by decide +kernel) rfl, (by decide +kernel), (by decide +kernel)⟩
theorem mL_pass : qMtH yL_pass cL_pass 4 (some .int) [(0, 9, 12, 13)] 3 := ⟨qm 837 (by decide +kernel) rfl, qm 836 (by decide +kernel) rfl, qm 41 (by decide +kernel) rfl, (by decide +kernel), (by decide +kernel)⟩
theorem mL_doneShare : qMtH yL_doneShare cL_doneShare 3 (some .int) [(0, 8, 11, 43)] 2 := ⟨qm 858 (by decide +kernel) rfl, qm 857 (by decide +kernel) rfl, qm 41 (by decide +kernel) rfl, (by decide +kernel), (by decide +kernel)⟩
theorem xin_addStack {g g1 : qHp} {rc : Int} {E : String} (h : cX_addStack g rc E g1) : xin [xIA, xIS] E := by
  obtain ⟨h, -⟩ := h
  rcases h with ⟨rfl, -⟩ | ⟨rfl, -⟩
  · exact Or.inl rfl
  · exact Or.inr (Or.inl rfl)
set_option maxRecDepth 20000 in
theorem KL_addStack (g : qHp) (rc : Int) (hrc : -2147483648 ≤ rc ∧ rc < 2147483648)  : qC yL_addStack (.codeWith yL_addStack cL_addStack 4 (some .int) [(0, 9, 12, 13), (0, 9, 15, 15)]) 7 1 (fun ad => [.ref (ad 0), .int (iI rc), .ref (ad 36)]) g (qPi (fun (kc : Int) (g' : qHp) => hlQ [xIA, xIS] (cP_addStack g rc) (cX_addStack g rc) kc g')) qNo := by
  refine q_methH (by decide +kernel) rfl (fun _ => (Nat.le_of_ble_eq_true rfl)) (fun X ω C => ?_)
  refine q_loc [(0, .ref (ω.1 0)), (1, .int (iI rc)), (2, .ref (ω.1 36))] ⟨rfl, rfl, rfl, trivial⟩ ?_
  refine q_aload_n C 2 dL_addStack_0 rfl rfl ?_
  refine q_iconst C dL_addStack_1 ?_
  refine q_aload_n C 0 dL_addStack_2 rfl rfl ?_
  refine q_iload_n C 1 dL_addStack_3 rfl rfl ?_
  refine q_ViT (P := cP_addStack g rc) (PX' := cX_addStack g rc) C (KX5_addStack _ _ (by omega) ) mX5_addStack ml_L_7 dL_addStack_4 (by decide) (by decide) rfl rfl rfl (Nat.le_of_ble_eq_true rfl) rfl (by decide) rfl rfl (fun E g1 hx => ?_) (fun v g1 lv uv hv => ?_)
  · have hi := xin_addStack hx
    rcases hi with rfl | rfl | hi
    · refine q_catch C [] ⟨0, 9, 12, 13⟩ [⟨0, 9, 15, 15⟩] rfl x5_xIA (fun z hz => by cases hz) (by decide) (by decide) clL_13 cst_xIA (h := 12) rfl (fun q => ?_)
      refine q_astore_n C 3 dL_addStack_12 rfl (by decide) ?_
      refine q_iconst C dL_addStack_13 ?_
      exact q_iretI C dL_addStack_14 (by omega) (by omega) (Or.inr ⟨_, hx, Or.inl ⟨rfl, rfl⟩⟩)
    · refine q_catch C [⟨0, 9, 12, 13⟩] ⟨0, 9, 15, 15⟩ [] rfl x5_xIS (fun z hz => by simp only [List.mem_cons, List.not_mem_nil, or_false] at hz; rcases hz with rfl; (· exact ⟨by decide, xIA, clL_13, x5_xIA, ne_xIS_xIA⟩)) (by decide) (by decide) clL_15 cst_xIS (h := 15) rfl (fun q => ?_)
      refine q_astore_n C 3 dL_addStack_15 rfl (by decide) ?_
      refine q_iconst C dL_addStack_16 ?_
      exact q_iretI C dL_addStack_17 (by omega) (by omega) (Or.inr ⟨_, hx, Or.inr (Or.inl ⟨rfl, rfl⟩)⟩)
    · exact hi.elim
  · refine q_i2l C dL_addStack_7 (by omega) ?_
    refine q_last C (b := 36) (n := 1) rfl (by decide) (by decide) (by omega) (show (-9223372036854775808) ≤ _ ∧ _ ≤ 9223372036854775807 from by omega) dL_addStack_8 ?_
    refine q_goto C 18 dL_addStack_9 (by decide) ?_
    refine q_iconst C dL_addStack_18 ?_
    exact q_iretI C dL_addStack_19 (by omega) (by omega) (Or.inl ⟨rfl, v, g1, hv, rfl⟩)
theorem xin_addBox {g g1 : qHp} {w s : Int} {E : String} (h : cX_addBox g w s E g1) : xin [xIO, xIA, xUO, xIS] E := by
  obtain ⟨h, -⟩ := h
  rcases h with ⟨rfl, -⟩ | ⟨rfl, -⟩ | ⟨rfl, -⟩ | ⟨rfl, -⟩
  · exact Or.inl rfl
  · exact Or.inr (Or.inl rfl)
  · exact Or.inr (Or.inr (Or.inl rfl))
  · exact Or.inr (Or.inr (Or.inr (Or.inl rfl)))
set_option maxRecDepth 20000 in
theorem KL_addBox (g : qHp) (w : Int) (hw : -2147483648 ≤ w ∧ w < 2147483648) (s : Int) (hs : -2147483648 ≤ s ∧ s < 2147483648)  : qC yL_addBox (.codeWith yL_addBox cL_addBox 5 (some .int) [(0, 10, 13, 21), (0, 10, 17, 13), (0, 10, 21, 23), (0, 10, 25, 15)]) 8 2 (fun ad => [.ref (ad 0), .int (iI w), .int (iI s), .ref (ad 36)]) g (qPi (fun (kc : Int) (g' : qHp) => hlQ [xIO, xIA, xUO, xIS] (cP_addBox g w s) (cX_addBox g w s) kc g')) qNo := by
  refine q_methH (by decide +kernel) rfl (fun _ => (Nat.le_of_ble_eq_true rfl)) (fun X ω C => ?_)
  refine q_loc [(0, .ref (ω.1 0)), (1, .int (iI w)), (2, .int (iI s)), (3, .ref (ω.1 36))] ⟨rfl, rfl, rfl, rfl, trivial⟩ ?_
  refine q_aload_n C 3 dL_addBox_0 rfl rfl ?_
  refine q_iconst C dL_addBox_1 ?_
  refine q_aload_n C 0 dL_addBox_2 rfl rfl ?_
  refine q_iload_n C 1 dL_addBox_3 rfl rfl ?_
  refine q_iload_n C 2 dL_addBox_4 rfl rfl ?_
  refine q_ViT (P := cP_addBox g w s) (PX' := cX_addBox g w s) C (KX5_addBox _ _ (by omega) _ (by omega) ) mX5_addBox ml_L_17 dL_addBox_5 (by decide) (by decide) rfl rfl rfl (Nat.le_of_ble_eq_true rfl) rfl (by decide) rfl rfl (fun E g1 hx => ?_) (fun v g1 lv uv hv => ?_)
  · have hi := xin_addBox hx
    rcases hi with rfl | rfl | rfl | rfl | hi
    · refine q_catch C [] ⟨0, 10, 13, 21⟩ [⟨0, 10, 17, 13⟩, ⟨0, 10, 21, 23⟩, ⟨0, 10, 25, 15⟩] rfl x5_xIO (fun z hz => by cases hz) (by decide) (by decide) clL_21 cst_xIO (h := 13) rfl (fun q => ?_)
      refine q_astore C dL_addBox_13 (by decide) ?_
      refine q_iconst C dL_addBox_15 ?_
      exact q_iretI C dL_addBox_16 (by omega) (by omega) (Or.inr ⟨_, hx, Or.inl ⟨rfl, rfl⟩⟩)
    · refine q_catch C [⟨0, 10, 13, 21⟩] ⟨0, 10, 17, 13⟩ [⟨0, 10, 21, 23⟩, ⟨0, 10, 25, 15⟩] rfl x5_xIA (fun z hz => by simp only [List.mem_cons, List.not_mem_nil, or_false] at hz; rcases hz with rfl; (· exact ⟨by decide, xIO, clL_21, x5_xIO, ne_xIA_xIO⟩)) (by decide) (by decide) clL_13 cst_xIA (h := 17) rfl (fun q => ?_)
      refine q_astore C dL_addBox_17 (by decide) ?_
      refine q_iconst C dL_addBox_19 ?_
      exact q_iretI C dL_addBox_20 (by omega) (by omega) (Or.inr ⟨_, hx, Or.inr (Or.inl ⟨rfl, rfl⟩)⟩)
    · refine q_catch C [⟨0, 10, 13, 21⟩, ⟨0, 10, 17, 13⟩] ⟨0, 10, 21, 23⟩ [⟨0, 10, 25, 15⟩] rfl x5_xUO (fun z hz => by simp only [List.mem_cons, List.not_mem_nil, or_false] at hz; rcases hz with rfl | rfl; (· exact ⟨by decide, xIO, clL_21, x5_xIO, ne_xUO_xIO⟩); (· exact ⟨by decide, xIA, clL_13, x5_xIA, ne_xUO_xIA⟩)) (by decide) (by decide) clL_23 cst_xUO (h := 21) rfl (fun q => ?_)
      refine q_astore C dL_addBox_21 (by decide) ?_
      refine q_iconst C dL_addBox_23 ?_
      exact q_iretI C dL_addBox_24 (by omega) (by omega) (Or.inr ⟨_, hx, Or.inr (Or.inr (Or.inl ⟨rfl, rfl⟩))⟩)
    · refine q_catch C [⟨0, 10, 13, 21⟩, ⟨0, 10, 17, 13⟩, ⟨0, 10, 21, 23⟩] ⟨0, 10, 25, 15⟩ [] rfl x5_xIS (fun z hz => by simp only [List.mem_cons, List.not_mem_nil, or_false] at hz; rcases hz with rfl | rfl | rfl; (· exact ⟨by decide, xIO, clL_21, x5_xIO, ne_xIS_xIO⟩); (· exact ⟨by decide, xIA, clL_13, x5_xIA, ne_xIS_xIA⟩); (· exact ⟨by decide, xUO, clL_23, x5_xUO, ne_xIS_xUO⟩)) (by decide) (by decide) clL_15 cst_xIS (h := 25) rfl (fun q => ?_)
      refine q_astore C dL_addBox_25 (by decide) ?_
      refine q_iconst C dL_addBox_27 ?_
      exact q_iretI C dL_addBox_28 (by omega) (by omega) (Or.inr ⟨_, hx, Or.inr (Or.inr (Or.inr (Or.inl ⟨rfl, rfl⟩)))⟩)
    · exact hi.elim
  · refine q_i2l C dL_addBox_8 (by omega) ?_
    refine q_last C (b := 36) (n := 1) rfl (by decide) (by decide) (by omega) (show (-9223372036854775808) ≤ _ ∧ _ ≤ 9223372036854775807 from by omega) dL_addBox_9 ?_
    refine q_goto C 29 dL_addBox_10 (by decide) ?_
    refine q_iconst C dL_addBox_29 ?_
    exact q_iretI C dL_addBox_30 (by omega) (by omega) (Or.inl ⟨rfl, v, g1, hv, rfl⟩)
theorem xin_weight {g g1 : qHp} {x : Int} {E : String} (h : cX_weight g x E g1) : xin [xIO] E := by
  obtain ⟨h, -⟩ := h
  rcases h with ⟨rfl, -⟩
  · exact Or.inl rfl
set_option maxRecDepth 20000 in
theorem KL_weight (g : qHp) (x : Int) (hx : -2147483648 ≤ x ∧ x < 2147483648)  : qC yL_weight (.codeWith yL_weight cL_weight 4 (some .int) [(0, 9, 12, 21)]) 8 1 (fun ad => [.ref (ad 0), .int (iI x), .ref (ad 36)]) g (qPi (fun (kc : Int) (g' : qHp) => hlQ [xIO] (cP_weight g x) (cX_weight g x) kc g')) qNo := by
  refine q_methH (by decide +kernel) rfl (fun _ => (Nat.le_of_ble_eq_true rfl)) (fun X ω C => ?_)
  refine q_loc [(0, .ref (ω.1 0)), (1, .int (iI x)), (2, .ref (ω.1 36))] ⟨rfl, rfl, rfl, trivial⟩ ?_
  refine q_aload_n C 2 dL_weight_0 rfl rfl ?_
  refine q_iconst C dL_weight_1 ?_
  refine q_aload_n C 0 dL_weight_2 rfl rfl ?_
  refine q_iload_n C 1 dL_weight_3 rfl rfl ?_
  refine q_ViT (P := cP_weight g x) (PX' := cX_weight g x) C (KX5_weight _ _ (by omega) ) mX5_weight ml_L_25 dL_weight_4 (by decide) (by decide) rfl rfl rfl (Nat.le_of_ble_eq_true rfl) rfl (by decide) rfl rfl (fun E g1 hx => ?_) (fun v g1 lv uv hv => ?_)
  · have hi := xin_weight hx
    rcases hi with rfl | hi
    · refine q_catch C [] ⟨0, 9, 12, 21⟩ [] rfl x5_xIO (fun z hz => by cases hz) (by decide) (by decide) clL_21 cst_xIO (h := 12) rfl (fun q => ?_)
      refine q_astore_n C 3 dL_weight_12 rfl (by decide) ?_
      refine q_iconst C dL_weight_13 ?_
      exact q_iretI C dL_weight_14 (by omega) (by omega) (Or.inr ⟨_, hx, Or.inl ⟨rfl, rfl⟩⟩)
    · exact hi.elim
  · refine q_i2l C dL_weight_7 (by omega) ?_
    refine q_last C (b := 36) (n := 1) rfl (by decide) (by decide) (by omega) (show (-9223372036854775808) ≤ _ ∧ _ ≤ 9223372036854775807 from by omega) dL_weight_8 ?_
    refine q_goto C 15 dL_weight_9 (by decide) ?_
    refine q_iconst C dL_weight_15 ?_
    exact q_iretI C dL_weight_16 (by omega) (by omega) (Or.inl ⟨rfl, v, g1, hv, rfl⟩)
theorem xin_stackOf {g g1 : qHp} {x : Int} {E : String} (h : cX_stackOf g x E g1) : xin [xIO] E := by
  obtain ⟨h, -⟩ := h
  rcases h with ⟨rfl, -⟩
  · exact Or.inl rfl
set_option maxRecDepth 20000 in
theorem KL_stackOf (g : qHp) (x : Int) (hx : -2147483648 ≤ x ∧ x < 2147483648)  : qC yL_stackOf (.codeWith yL_stackOf cL_stackOf 4 (some .int) [(0, 9, 12, 21)]) 8 1 (fun ad => [.ref (ad 0), .int (iI x), .ref (ad 36)]) g (qPi (fun (kc : Int) (g' : qHp) => hlQ [xIO] (cP_stackOf g x) (cX_stackOf g x) kc g')) qNo := by
  refine q_methH (by decide +kernel) rfl (fun _ => (Nat.le_of_ble_eq_true rfl)) (fun X ω C => ?_)
  refine q_loc [(0, .ref (ω.1 0)), (1, .int (iI x)), (2, .ref (ω.1 36))] ⟨rfl, rfl, rfl, trivial⟩ ?_
  refine q_aload_n C 2 dL_stackOf_0 rfl rfl ?_
  refine q_iconst C dL_stackOf_1 ?_
  refine q_aload_n C 0 dL_stackOf_2 rfl rfl ?_
  refine q_iload_n C 1 dL_stackOf_3 rfl rfl ?_
  refine q_ViT (P := cP_stackOf g x) (PX' := cX_stackOf g x) C (KX5_stackOf _ _ (by omega) ) mX5_stackOf ml_L_28 dL_stackOf_4 (by decide) (by decide) rfl rfl rfl (Nat.le_of_ble_eq_true rfl) rfl (by decide) rfl rfl (fun E g1 hx => ?_) (fun v g1 lv uv hv => ?_)
  · have hi := xin_stackOf hx
    rcases hi with rfl | hi
    · refine q_catch C [] ⟨0, 9, 12, 21⟩ [] rfl x5_xIO (fun z hz => by cases hz) (by decide) (by decide) clL_21 cst_xIO (h := 12) rfl (fun q => ?_)
      refine q_astore_n C 3 dL_stackOf_12 rfl (by decide) ?_
      refine q_iconst C dL_stackOf_13 ?_
      exact q_iretI C dL_stackOf_14 (by omega) (by omega) (Or.inr ⟨_, hx, Or.inl ⟨rfl, rfl⟩⟩)
    · exact hi.elim
  · refine q_i2l C dL_stackOf_7 (by omega) ?_
    refine q_last C (b := 36) (n := 1) rfl (by decide) (by decide) (by omega) (show (-9223372036854775808) ≤ _ ∧ _ ≤ 9223372036854775807 from by omega) dL_stackOf_8 ?_
    refine q_goto C 15 dL_stackOf_9 (by decide) ?_
    refine q_iconst C dL_stackOf_15 ?_
    exact q_iretI C dL_stackOf_16 (by omega) (by omega) (Or.inl ⟨rfl, v, g1, hv, rfl⟩)
theorem xin_level {g g1 : qHp} {x : Int} {E : String} (h : cX_level g x E g1) : xin [xIO] E := by
  obtain ⟨h, -⟩ := h
  rcases h with ⟨rfl, -⟩
  · exact Or.inl rfl
set_option maxRecDepth 20000 in
theorem KL_level (g : qHp) (x : Int) (hx : -2147483648 ≤ x ∧ x < 2147483648)  : qC yL_level (.codeWith yL_level cL_level 4 (some .int) [(0, 9, 12, 21)]) 8 1 (fun ad => [.ref (ad 0), .int (iI x), .ref (ad 36)]) g (qPi (fun (kc : Int) (g' : qHp) => hlQ [xIO] (cP_level g x) (cX_level g x) kc g')) qNo := by
  refine q_methH (by decide +kernel) rfl (fun _ => (Nat.le_of_ble_eq_true rfl)) (fun X ω C => ?_)
  refine q_loc [(0, .ref (ω.1 0)), (1, .int (iI x)), (2, .ref (ω.1 36))] ⟨rfl, rfl, rfl, trivial⟩ ?_
  refine q_aload_n C 2 dL_level_0 rfl rfl ?_
  refine q_iconst C dL_level_1 ?_
  refine q_aload_n C 0 dL_level_2 rfl rfl ?_
  refine q_iload_n C 1 dL_level_3 rfl rfl ?_
  refine q_ViT (P := cP_level g x) (PX' := cX_level g x) C (KX5_level _ _ (by omega) ) mX5_level ml_L_31 dL_level_4 (by decide) (by decide) rfl rfl rfl (Nat.le_of_ble_eq_true rfl) rfl (by decide) rfl rfl (fun E g1 hx => ?_) (fun v g1 lv uv hv => ?_)
  · have hi := xin_level hx
    rcases hi with rfl | hi
    · refine q_catch C [] ⟨0, 9, 12, 21⟩ [] rfl x5_xIO (fun z hz => by cases hz) (by decide) (by decide) clL_21 cst_xIO (h := 12) rfl (fun q => ?_)
      refine q_astore_n C 3 dL_level_12 rfl (by decide) ?_
      refine q_iconst C dL_level_13 ?_
      exact q_iretI C dL_level_14 (by omega) (by omega) (Or.inr ⟨_, hx, Or.inl ⟨rfl, rfl⟩⟩)
    · exact hi.elim
  · refine q_i2l C dL_level_7 (by omega) ?_
    refine q_last C (b := 36) (n := 1) rfl (by decide) (by decide) (by omega) (show (-9223372036854775808) ≤ _ ∧ _ ≤ 9223372036854775807 from by omega) dL_level_8 ?_
    refine q_goto C 15 dL_level_9 (by decide) ?_
    refine q_iconst C dL_level_15 ?_
    exact q_iretI C dL_level_16 (by omega) (by omega) (Or.inl ⟨rfl, v, g1, hv, rfl⟩)
theorem xin_above {g g1 : qHp} {x : Int} {E : String} (h : cX_above g x E g1) : xin [xIO] E := by
  obtain ⟨h, -⟩ := h
  rcases h with ⟨rfl, -⟩
  · exact Or.inl rfl
set_option maxRecDepth 20000 in
theorem KL_above (g : qHp) (x : Int) (hx : -2147483648 ≤ x ∧ x < 2147483648)  : qC yL_above (.codeWith yL_above cL_above 4 (some .int) [(0, 9, 12, 21)]) 8 1 (fun ad => [.ref (ad 0), .int (iI x), .ref (ad 36)]) g (qPi (fun (kc : Int) (g' : qHp) => hlQ [xIO] (cP_above g x) (cX_above g x) kc g')) qNo := by
  refine q_methH (by decide +kernel) rfl (fun _ => (Nat.le_of_ble_eq_true rfl)) (fun X ω C => ?_)
  refine q_loc [(0, .ref (ω.1 0)), (1, .int (iI x)), (2, .ref (ω.1 36))] ⟨rfl, rfl, rfl, trivial⟩ ?_
  refine q_aload_n C 2 dL_above_0 rfl rfl ?_
  refine q_iconst C dL_above_1 ?_
  refine q_aload_n C 0 dL_above_2 rfl rfl ?_
  refine q_iload_n C 1 dL_above_3 rfl rfl ?_
  refine q_ViT (P := cP_above g x) (PX' := cX_above g x) C (KX5_above _ _ (by omega) ) mX5_above ml_L_34 dL_above_4 (by decide) (by decide) rfl rfl rfl (Nat.le_of_ble_eq_true rfl) rfl (by decide) rfl rfl (fun E g1 hx => ?_) (fun v g1 lv uv hv => ?_)
  · have hi := xin_above hx
    rcases hi with rfl | hi
    · refine q_catch C [] ⟨0, 9, 12, 21⟩ [] rfl x5_xIO (fun z hz => by cases hz) (by decide) (by decide) clL_21 cst_xIO (h := 12) rfl (fun q => ?_)
      refine q_astore_n C 3 dL_above_12 rfl (by decide) ?_
      refine q_iconst C dL_above_13 ?_
      exact q_iretI C dL_above_14 (by omega) (by omega) (Or.inr ⟨_, hx, Or.inl ⟨rfl, rfl⟩⟩)
    · exact hi.elim
  · refine q_i2l C dL_above_7 (by omega) ?_
    refine q_last C (b := 36) (n := 1) rfl (by decide) (by decide) (by omega) (show (-9223372036854775808) ≤ _ ∧ _ ≤ 9223372036854775807 from by omega) dL_above_8 ?_
    refine q_goto C 15 dL_above_9 (by decide) ?_
    refine q_iconst C dL_above_15 ?_
    exact q_iretI C dL_above_16 (by omega) (by omega) (Or.inl ⟨rfl, v, g1, hv, rfl⟩)
theorem xin_height {g g1 : qHp} {s : Int} {E : String} (h : cX_height g s E g1) : xin [xIO] E := by
  obtain ⟨h, -⟩ := h
  rcases h with ⟨rfl, -⟩
  · exact Or.inl rfl
set_option maxRecDepth 20000 in
theorem KL_height (g : qHp) (s : Int) (hs : -2147483648 ≤ s ∧ s < 2147483648)  : qC yL_height (.codeWith yL_height cL_height 4 (some .int) [(0, 9, 12, 21)]) 8 1 (fun ad => [.ref (ad 0), .int (iI s), .ref (ad 36)]) g (qPi (fun (kc : Int) (g' : qHp) => hlQ [xIO] (cP_height g s) (cX_height g s) kc g')) qNo := by
  refine q_methH (by decide +kernel) rfl (fun _ => (Nat.le_of_ble_eq_true rfl)) (fun X ω C => ?_)
  refine q_loc [(0, .ref (ω.1 0)), (1, .int (iI s)), (2, .ref (ω.1 36))] ⟨rfl, rfl, rfl, trivial⟩ ?_
  refine q_aload_n C 2 dL_height_0 rfl rfl ?_
  refine q_iconst C dL_height_1 ?_
  refine q_aload_n C 0 dL_height_2 rfl rfl ?_
  refine q_iload_n C 1 dL_height_3 rfl rfl ?_
  refine q_ViT (P := cP_height g s) (PX' := cX_height g s) C (KX5_height _ _ (by omega) ) mX5_height ml_L_37 dL_height_4 (by decide) (by decide) rfl rfl rfl (Nat.le_of_ble_eq_true rfl) rfl (by decide) rfl rfl (fun E g1 hx => ?_) (fun v g1 lv uv hv => ?_)
  · have hi := xin_height hx
    rcases hi with rfl | hi
    · refine q_catch C [] ⟨0, 9, 12, 21⟩ [] rfl x5_xIO (fun z hz => by cases hz) (by decide) (by decide) clL_21 cst_xIO (h := 12) rfl (fun q => ?_)
      refine q_astore_n C 3 dL_height_12 rfl (by decide) ?_
      refine q_iconst C dL_height_13 ?_
      exact q_iretI C dL_height_14 (by omega) (by omega) (Or.inr ⟨_, hx, Or.inl ⟨rfl, rfl⟩⟩)
    · exact hi.elim
  · refine q_i2l C dL_height_7 (by omega) ?_
    refine q_last C (b := 36) (n := 1) rfl (by decide) (by decide) (by omega) (show (-9223372036854775808) ≤ _ ∧ _ ≤ 9223372036854775807 from by omega) dL_height_8 ?_
    refine q_goto C 15 dL_height_9 (by decide) ?_
    refine q_iconst C dL_height_15 ?_
    exact q_iretI C dL_height_16 (by omega) (by omega) (Or.inl ⟨rfl, v, g1, hv, rfl⟩)
theorem xin_boxAt {g g1 : qHp} {s k : Int} {E : String} (h : cX_boxAt g s k E g1) : xin [xIO, xNS] E := by
  obtain ⟨h, -⟩ := h
  rcases h with ⟨rfl, -⟩ | ⟨rfl, -⟩
  · exact Or.inl rfl
  · exact Or.inr (Or.inl rfl)
set_option maxRecDepth 20000 in
theorem KL_boxAt (g : qHp) (s : Int) (hs : -2147483648 ≤ s ∧ s < 2147483648) (k : Int) (hk : -2147483648 ≤ k ∧ k < 2147483648)  : qC yL_boxAt (.codeWith yL_boxAt cL_boxAt 5 (some .int) [(0, 10, 13, 21), (0, 10, 17, 43)]) 8 2 (fun ad => [.ref (ad 0), .int (iI s), .int (iI k), .ref (ad 36)]) g (qPi (fun (kc : Int) (g' : qHp) => hlQ [xIO, xNS] (cP_boxAt g s k) (cX_boxAt g s k) kc g')) qNo := by
  refine q_methH (by decide +kernel) rfl (fun _ => (Nat.le_of_ble_eq_true rfl)) (fun X ω C => ?_)
  refine q_loc [(0, .ref (ω.1 0)), (1, .int (iI s)), (2, .int (iI k)), (3, .ref (ω.1 36))] ⟨rfl, rfl, rfl, rfl, trivial⟩ ?_
  refine q_aload_n C 3 dL_boxAt_0 rfl rfl ?_
  refine q_iconst C dL_boxAt_1 ?_
  refine q_aload_n C 0 dL_boxAt_2 rfl rfl ?_
  refine q_iload_n C 1 dL_boxAt_3 rfl rfl ?_
  refine q_iload_n C 2 dL_boxAt_4 rfl rfl ?_
  refine q_ViT (P := cP_boxAt g s k) (PX' := cX_boxAt g s k) C (KX5_boxAt _ _ (by omega) _ (by omega) ) mX5_boxAt ml_L_40 dL_boxAt_5 (by decide) (by decide) rfl rfl rfl (Nat.le_of_ble_eq_true rfl) rfl (by decide) rfl rfl (fun E g1 hx => ?_) (fun v g1 lv uv hv => ?_)
  · have hi := xin_boxAt hx
    rcases hi with rfl | rfl | hi
    · refine q_catch C [] ⟨0, 10, 13, 21⟩ [⟨0, 10, 17, 43⟩] rfl x5_xIO (fun z hz => by cases hz) (by decide) (by decide) clL_21 cst_xIO (h := 13) rfl (fun q => ?_)
      refine q_astore C dL_boxAt_13 (by decide) ?_
      refine q_iconst C dL_boxAt_15 ?_
      exact q_iretI C dL_boxAt_16 (by omega) (by omega) (Or.inr ⟨_, hx, Or.inl ⟨rfl, rfl⟩⟩)
    · refine q_catch C [⟨0, 10, 13, 21⟩] ⟨0, 10, 17, 43⟩ [] rfl x5_xNS (fun z hz => by simp only [List.mem_cons, List.not_mem_nil, or_false] at hz; rcases hz with rfl; (· exact ⟨by decide, xIO, clL_21, x5_xIO, ne_xNS_xIO⟩)) (by decide) (by decide) clL_43 cst_xNS (h := 17) rfl (fun q => ?_)
      refine q_astore C dL_boxAt_17 (by decide) ?_
      refine q_iconst C dL_boxAt_19 ?_
      exact q_iretI C dL_boxAt_20 (by omega) (by omega) (Or.inr ⟨_, hx, Or.inr (Or.inl ⟨rfl, rfl⟩)⟩)
    · exact hi.elim
  · refine q_i2l C dL_boxAt_8 (by omega) ?_
    refine q_last C (b := 36) (n := 1) rfl (by decide) (by decide) (by omega) (show (-9223372036854775808) ≤ _ ∧ _ ≤ 9223372036854775807 from by omega) dL_boxAt_9 ?_
    refine q_goto C 21 dL_boxAt_10 (by decide) ?_
    refine q_iconst C dL_boxAt_21 ?_
    exact q_iretI C dL_boxAt_22 (by omega) (by omega) (Or.inl ⟨rfl, v, g1, hv, rfl⟩)
theorem xin_hold {g g1 : qHp} {x kd ut : Int} {E : String} (h : cX_hold g x kd ut E g1) : xin [xIO, xIA] E := by
  obtain ⟨h, -⟩ := h
  rcases h with ⟨rfl, -⟩ | ⟨rfl, -⟩
  · exact Or.inl rfl
  · exact Or.inr (Or.inl rfl)
set_option maxRecDepth 20000 in
theorem KL_hold (g : qHp) (x : Int) (hx : -2147483648 ≤ x ∧ x < 2147483648) (kd : Int) (hkd : -2147483648 ≤ kd ∧ kd < 2147483648) (ut : Int) (hut : -2147483648 ≤ ut ∧ ut < 2147483648) (hk2 : 0 ≤ kd ∧ kd < 65536) (hco : inY g x → 0 ≤ x ∧ x < g 1 3) : qC yL_hold (.codeWith yL_hold cL_hold 6 (some .int) [(0, 12, 15, 21), (0, 12, 19, 13)]) 8 3 (fun ad => [.ref (ad 0), .int (iI x), .int (iI kd), .int (iI ut), .ref (ad 36)]) g (qPi (fun (kc : Int) (g' : qHp) => hlQ [xIO, xIA] (cP_hold g x kd ut) (cX_hold g x kd ut) kc g')) qNo := by
  refine q_methH (by decide +kernel) rfl (fun _ => (Nat.le_of_ble_eq_true rfl)) (fun X ω C => ?_)
  refine q_loc [(0, .ref (ω.1 0)), (1, .int (iI x)), (2, .int (iI kd)), (3, .int (iI ut)), (4, .ref (ω.1 36))] ⟨rfl, rfl, rfl, rfl, rfl, trivial⟩ ?_
  refine q_aload C dL_hold_0 rfl ?_
  refine q_iconst C dL_hold_2 ?_
  refine q_aload_n C 0 dL_hold_3 rfl rfl ?_
  refine q_iload_n C 1 dL_hold_4 rfl rfl ?_
  refine q_iload_n C 2 dL_hold_5 rfl rfl ?_
  refine q_iload_n C 3 dL_hold_6 rfl rfl ?_
  refine q_ViT (P := cP_hold g x kd ut) (PX' := cX_hold g x kd ut) C (KX5_hold _ _ (by omega) _ (by omega) _ (by omega) hk2 hco) mX5_hold ml_L_45 dL_hold_7 (by decide) (by decide) rfl rfl rfl (Nat.le_of_ble_eq_true rfl) rfl (by decide) rfl rfl (fun E g1 hx => ?_) (fun v g1 lv uv hv => ?_)
  · have hi := xin_hold hx
    rcases hi with rfl | rfl | hi
    · refine q_catch C [] ⟨0, 12, 15, 21⟩ [⟨0, 12, 19, 13⟩] rfl x5_xIO (fun z hz => by cases hz) (by decide) (by decide) clL_21 cst_xIO (h := 15) rfl (fun q => ?_)
      refine q_astore C dL_hold_15 (by decide) ?_
      refine q_iconst C dL_hold_17 ?_
      exact q_iretI C dL_hold_18 (by omega) (by omega) (Or.inr ⟨_, hx, Or.inl ⟨rfl, rfl⟩⟩)
    · refine q_catch C [⟨0, 12, 15, 21⟩] ⟨0, 12, 19, 13⟩ [] rfl x5_xIA (fun z hz => by simp only [List.mem_cons, List.not_mem_nil, or_false] at hz; rcases hz with rfl; (· exact ⟨by decide, xIO, clL_21, x5_xIO, ne_xIA_xIO⟩)) (by decide) (by decide) clL_13 cst_xIA (h := 19) rfl (fun q => ?_)
      refine q_astore C dL_hold_19 (by decide) ?_
      refine q_iconst C dL_hold_21 ?_
      exact q_iretI C dL_hold_22 (by omega) (by omega) (Or.inr ⟨_, hx, Or.inr (Or.inl ⟨rfl, rfl⟩)⟩)
    · exact hi.elim
  · refine q_i2l C dL_hold_10 (by omega) ?_
    refine q_last C (b := 36) (n := 1) rfl (by decide) (by decide) (by omega) (show (-9223372036854775808) ≤ _ ∧ _ ≤ 9223372036854775807 from by omega) dL_hold_11 ?_
    refine q_goto C 23 dL_hold_12 (by decide) ?_
    refine q_iconst C dL_hold_23 ?_
    exact q_iretI C dL_hold_24 (by omega) (by omega) (Or.inl ⟨rfl, v, g1, hv, rfl⟩)
theorem xin_release {g g1 : qHp} {x : Int} {E : String} (h : cX_release g x E g1) : xin [xIO, xIS] E := by
  obtain ⟨h, -⟩ := h
  rcases h with ⟨rfl, -⟩ | ⟨rfl, -⟩
  · exact Or.inl rfl
  · exact Or.inr (Or.inl rfl)
set_option maxRecDepth 20000 in
theorem KL_release (g : qHp) (x : Int) (hx : -2147483648 ≤ x ∧ x < 2147483648) (hco : inY g x → 0 ≤ x ∧ x < g 1 3) : qC yL_release (.codeWith yL_release cL_release 4 (some .int) [(0, 9, 12, 21), (0, 9, 15, 15)]) 8 2 (fun ad => [.ref (ad 0), .int (iI x), .ref (ad 36)]) g (qPi (fun (kc : Int) (g' : qHp) => hlQ [xIO, xIS] (cP_release g x) (cX_release g x) kc g')) qNo := by
  refine q_methH (by decide +kernel) rfl (fun _ => (Nat.le_of_ble_eq_true rfl)) (fun X ω C => ?_)
  refine q_loc [(0, .ref (ω.1 0)), (1, .int (iI x)), (2, .ref (ω.1 36))] ⟨rfl, rfl, rfl, trivial⟩ ?_
  refine q_aload_n C 2 dL_release_0 rfl rfl ?_
  refine q_iconst C dL_release_1 ?_
  refine q_aload_n C 0 dL_release_2 rfl rfl ?_
  refine q_iload_n C 1 dL_release_3 rfl rfl ?_
  refine q_ViT (P := cP_release g x) (PX' := cX_release g x) C (KX5_release _ _ (by omega) hco) mX5_release ml_L_49 dL_release_4 (by decide) (by decide) rfl rfl rfl (Nat.le_of_ble_eq_true rfl) rfl (by decide) rfl rfl (fun E g1 hx => ?_) (fun v g1 lv uv hv => ?_)
  · have hi := xin_release hx
    rcases hi with rfl | rfl | hi
    · refine q_catch C [] ⟨0, 9, 12, 21⟩ [⟨0, 9, 15, 15⟩] rfl x5_xIO (fun z hz => by cases hz) (by decide) (by decide) clL_21 cst_xIO (h := 12) rfl (fun q => ?_)
      refine q_astore_n C 3 dL_release_12 rfl (by decide) ?_
      refine q_iconst C dL_release_13 ?_
      exact q_iretI C dL_release_14 (by omega) (by omega) (Or.inr ⟨_, hx, Or.inl ⟨rfl, rfl⟩⟩)
    · refine q_catch C [⟨0, 9, 12, 21⟩] ⟨0, 9, 15, 15⟩ [] rfl x5_xIS (fun z hz => by simp only [List.mem_cons, List.not_mem_nil, or_false] at hz; rcases hz with rfl; (· exact ⟨by decide, xIO, clL_21, x5_xIO, ne_xIS_xIO⟩)) (by decide) (by decide) clL_15 cst_xIS (h := 15) rfl (fun q => ?_)
      refine q_astore_n C 3 dL_release_15 rfl (by decide) ?_
      refine q_iconst C dL_release_16 ?_
      exact q_iretI C dL_release_17 (by omega) (by omega) (Or.inr ⟨_, hx, Or.inr (Or.inl ⟨rfl, rfl⟩)⟩)
    · exact hi.elim
  · refine q_i2l C dL_release_7 (by omega) ?_
    refine q_last C (b := 36) (n := 1) rfl (by decide) (by decide) (by omega) (show (-9223372036854775808) ≤ _ ∧ _ ≤ 9223372036854775807 from by omega) dL_release_8 ?_
    refine q_goto C 18 dL_release_9 (by decide) ?_
    refine q_iconst C dL_release_18 ?_
    exact q_iretI C dL_release_19 (by omega) (by omega) (Or.inl ⟨rfl, v, g1, hv, rfl⟩)
theorem xin_holdOf {g g1 : qHp} {x : Int} {E : String} (h : cX_holdOf g x E g1) : xin [xIO] E := by
  obtain ⟨h, -⟩ := h
  rcases h with ⟨rfl, -⟩
  · exact Or.inl rfl
set_option maxRecDepth 20000 in
theorem KL_holdOf (g : qHp) (x : Int) (hx : -2147483648 ≤ x ∧ x < 2147483648)  : qC yL_holdOf (.codeWith yL_holdOf cL_holdOf 4 (some .int) [(0, 9, 12, 21)]) 8 1 (fun ad => [.ref (ad 0), .int (iI x), .ref (ad 36)]) g (qPi (fun (kc : Int) (g' : qHp) => hlQ [xIO] (cP_holdOf g x) (cX_holdOf g x) kc g')) qNo := by
  refine q_methH (by decide +kernel) rfl (fun _ => (Nat.le_of_ble_eq_true rfl)) (fun X ω C => ?_)
  refine q_loc [(0, .ref (ω.1 0)), (1, .int (iI x)), (2, .ref (ω.1 36))] ⟨rfl, rfl, rfl, trivial⟩ ?_
  refine q_aload_n C 2 dL_holdOf_0 rfl rfl ?_
  refine q_iconst C dL_holdOf_1 ?_
  refine q_aload_n C 0 dL_holdOf_2 rfl rfl ?_
  refine q_iload_n C 1 dL_holdOf_3 rfl rfl ?_
  refine q_ViT (P := cP_holdOf g x) (PX' := cX_holdOf g x) C (KX5_holdOf _ _ (by omega) ) mX5_holdOf ml_L_52 dL_holdOf_4 (by decide) (by decide) rfl rfl rfl (Nat.le_of_ble_eq_true rfl) rfl (by decide) rfl rfl (fun E g1 hx => ?_) (fun v g1 lv uv hv => ?_)
  · have hi := xin_holdOf hx
    rcases hi with rfl | hi
    · refine q_catch C [] ⟨0, 9, 12, 21⟩ [] rfl x5_xIO (fun z hz => by cases hz) (by decide) (by decide) clL_21 cst_xIO (h := 12) rfl (fun q => ?_)
      refine q_astore_n C 3 dL_holdOf_12 rfl (by decide) ?_
      refine q_iconst C dL_holdOf_13 ?_
      exact q_iretI C dL_holdOf_14 (by omega) (by omega) (Or.inr ⟨_, hx, Or.inl ⟨rfl, rfl⟩⟩)
    · exact hi.elim
  · refine q_i2l C dL_holdOf_7 (by omega) ?_
    refine q_last C (b := 36) (n := 1) rfl (by decide) (by decide) (by omega) (show (-9223372036854775808) ≤ _ ∧ _ ≤ 9223372036854775807 from by omega) dL_holdOf_8 ?_
    refine q_goto C 15 dL_holdOf_9 (by decide) ?_
    refine q_iconst C dL_holdOf_15 ?_
    exact q_iretI C dL_holdOf_16 (by omega) (by omega) (Or.inl ⟨rfl, v, g1, hv, rfl⟩)
theorem xin_heldUntil {g g1 : qHp} {x : Int} {E : String} (h : cX_heldUntil g x E g1) : xin [xIO, xNS] E := by
  obtain ⟨h, -⟩ := h
  rcases h with ⟨rfl, -⟩ | ⟨rfl, -⟩
  · exact Or.inl rfl
  · exact Or.inr (Or.inl rfl)
set_option maxRecDepth 20000 in
theorem KL_heldUntil (g : qHp) (x : Int) (hx : -2147483648 ≤ x ∧ x < 2147483648)  : qC yL_heldUntil (.codeWith yL_heldUntil cL_heldUntil 4 (some .int) [(0, 9, 12, 21), (0, 9, 15, 43)]) 8 2 (fun ad => [.ref (ad 0), .int (iI x), .ref (ad 36)]) g (qPi (fun (kc : Int) (g' : qHp) => hlQ [xIO, xNS] (cP_heldUntil g x) (cX_heldUntil g x) kc g')) qNo := by
  refine q_methH (by decide +kernel) rfl (fun _ => (Nat.le_of_ble_eq_true rfl)) (fun X ω C => ?_)
  refine q_loc [(0, .ref (ω.1 0)), (1, .int (iI x)), (2, .ref (ω.1 36))] ⟨rfl, rfl, rfl, trivial⟩ ?_
  refine q_aload_n C 2 dL_heldUntil_0 rfl rfl ?_
  refine q_iconst C dL_heldUntil_1 ?_
  refine q_aload_n C 0 dL_heldUntil_2 rfl rfl ?_
  refine q_iload_n C 1 dL_heldUntil_3 rfl rfl ?_
  refine q_ViT (P := cP_heldUntil g x) (PX' := cX_heldUntil g x) C (KX5_heldUntil _ _ (by omega) ) mX5_heldUntil ml_L_56 dL_heldUntil_4 (by decide) (by decide) rfl rfl rfl (Nat.le_of_ble_eq_true rfl) rfl (by decide) rfl rfl (fun E g1 hx => ?_) (fun v g1 lv uv hv => ?_)
  · have hi := xin_heldUntil hx
    rcases hi with rfl | rfl | hi
    · refine q_catch C [] ⟨0, 9, 12, 21⟩ [⟨0, 9, 15, 43⟩] rfl x5_xIO (fun z hz => by cases hz) (by decide) (by decide) clL_21 cst_xIO (h := 12) rfl (fun q => ?_)
      refine q_astore_n C 3 dL_heldUntil_12 rfl (by decide) ?_
      refine q_iconst C dL_heldUntil_13 ?_
      exact q_iretI C dL_heldUntil_14 (by omega) (by omega) (Or.inr ⟨_, hx, Or.inl ⟨rfl, rfl⟩⟩)
    · refine q_catch C [⟨0, 9, 12, 21⟩] ⟨0, 9, 15, 43⟩ [] rfl x5_xNS (fun z hz => by simp only [List.mem_cons, List.not_mem_nil, or_false] at hz; rcases hz with rfl; (· exact ⟨by decide, xIO, clL_21, x5_xIO, ne_xNS_xIO⟩)) (by decide) (by decide) clL_43 cst_xNS (h := 15) rfl (fun q => ?_)
      refine q_astore_n C 3 dL_heldUntil_15 rfl (by decide) ?_
      refine q_iconst C dL_heldUntil_16 ?_
      exact q_iretI C dL_heldUntil_17 (by omega) (by omega) (Or.inr ⟨_, hx, Or.inr (Or.inl ⟨rfl, rfl⟩)⟩)
    · exact hi.elim
  · refine q_i2l C dL_heldUntil_7 (by omega) ?_
    refine q_last C (b := 36) (n := 1) rfl (by decide) (by decide) (by omega) (show (-9223372036854775808) ≤ _ ∧ _ ≤ 9223372036854775807 from by omega) dL_heldUntil_8 ?_
    refine q_goto C 18 dL_heldUntil_9 (by decide) ?_
    refine q_iconst C dL_heldUntil_18 ?_
    exact q_iretI C dL_heldUntil_19 (by omega) (by omega) (Or.inl ⟨rfl, v, g1, hv, rfl⟩)
theorem xin_pinnedAbove {g g1 : qHp} {x : Int} {E : String} (h : cX_pinnedAbove g x E g1) : xin [xIO] E := by
  obtain ⟨h, -⟩ := h
  rcases h with ⟨rfl, -⟩
  · exact Or.inl rfl
set_option maxRecDepth 20000 in
theorem KL_pinnedAbove (g : qHp) (x : Int) (hx : -2147483648 ≤ x ∧ x < 2147483648)  : qC yL_pinnedAbove (.codeWith yL_pinnedAbove cL_pinnedAbove 4 (some .int) [(0, 9, 12, 21)]) 8 1 (fun ad => [.ref (ad 0), .int (iI x), .ref (ad 36)]) g (qPi (fun (kc : Int) (g' : qHp) => hlQ [xIO] (cP_pinnedAbove g x) (cX_pinnedAbove g x) kc g')) qNo := by
  refine q_methH (by decide +kernel) rfl (fun _ => (Nat.le_of_ble_eq_true rfl)) (fun X ω C => ?_)
  refine q_loc [(0, .ref (ω.1 0)), (1, .int (iI x)), (2, .ref (ω.1 36))] ⟨rfl, rfl, rfl, trivial⟩ ?_
  refine q_aload_n C 2 dL_pinnedAbove_0 rfl rfl ?_
  refine q_iconst C dL_pinnedAbove_1 ?_
  refine q_aload_n C 0 dL_pinnedAbove_2 rfl rfl ?_
  refine q_iload_n C 1 dL_pinnedAbove_3 rfl rfl ?_
  refine q_ViT (P := cP_pinnedAbove g x) (PX' := cX_pinnedAbove g x) C (KX5_pinnedAbove _ _ (by omega) ) mX5_pinnedAbove ml_L_59 dL_pinnedAbove_4 (by decide) (by decide) rfl rfl rfl (Nat.le_of_ble_eq_true rfl) rfl (by decide) rfl rfl (fun E g1 hx => ?_) (fun v g1 lv uv hv => ?_)
  · have hi := xin_pinnedAbove hx
    rcases hi with rfl | hi
    · refine q_catch C [] ⟨0, 9, 12, 21⟩ [] rfl x5_xIO (fun z hz => by cases hz) (by decide) (by decide) clL_21 cst_xIO (h := 12) rfl (fun q => ?_)
      refine q_astore_n C 3 dL_pinnedAbove_12 rfl (by decide) ?_
      refine q_iconst C dL_pinnedAbove_13 ?_
      exact q_iretI C dL_pinnedAbove_14 (by omega) (by omega) (Or.inr ⟨_, hx, Or.inl ⟨rfl, rfl⟩⟩)
    · exact hi.elim
  · refine q_i2l C dL_pinnedAbove_7 (by omega) ?_
    refine q_last C (b := 36) (n := 1) rfl (by decide) (by decide) (by omega) (show (-9223372036854775808) ≤ _ ∧ _ ≤ 9223372036854775807 from by omega) dL_pinnedAbove_8 ?_
    refine q_goto C 15 dL_pinnedAbove_9 (by decide) ?_
    refine q_iconst C dL_pinnedAbove_15 ?_
    exact q_iretI C dL_pinnedAbove_16 (by omega) (by omega) (Or.inl ⟨rfl, v, g1, hv, rfl⟩)
theorem xin_why {g g1 : qHp} {x s : Int} {E : String} (h : cX_why g x s E g1) : xin [xIO] E := by
  obtain ⟨h, -⟩ := h
  rcases h with ⟨rfl, -⟩
  · exact Or.inl rfl
set_option maxRecDepth 20000 in
theorem KL_why (g : qHp) (x : Int) (hx : -2147483648 ≤ x ∧ x < 2147483648) (s : Int) (hs : -2147483648 ≤ s ∧ s < 2147483648)  : qC yL_why (.codeWith yL_why cL_why 5 (some .int) [(0, 10, 13, 21)]) 8 2 (fun ad => [.ref (ad 0), .int (iI x), .int (iI s), .ref (ad 36)]) g (qPi (fun (kc : Int) (g' : qHp) => hlQ [xIO] (cP_why g x s) (cX_why g x s) kc g')) qNo := by
  refine q_methH (by decide +kernel) rfl (fun _ => (Nat.le_of_ble_eq_true rfl)) (fun X ω C => ?_)
  refine q_loc [(0, .ref (ω.1 0)), (1, .int (iI x)), (2, .int (iI s)), (3, .ref (ω.1 36))] ⟨rfl, rfl, rfl, rfl, trivial⟩ ?_
  refine q_aload_n C 3 dL_why_0 rfl rfl ?_
  refine q_iconst C dL_why_1 ?_
  refine q_aload_n C 0 dL_why_2 rfl rfl ?_
  refine q_iload_n C 1 dL_why_3 rfl rfl ?_
  refine q_iload_n C 2 dL_why_4 rfl rfl ?_
  refine q_ViT (P := cP_why g x s) (PX' := cX_why g x s) C (KX5_why _ _ (by omega) _ (by omega) ) mX5_why ml_L_62 dL_why_5 (by decide) (by decide) rfl rfl rfl (Nat.le_of_ble_eq_true rfl) rfl (by decide) rfl rfl (fun E g1 hx => ?_) (fun v g1 lv uv hv => ?_)
  · have hi := xin_why hx
    rcases hi with rfl | hi
    · refine q_catch C [] ⟨0, 10, 13, 21⟩ [] rfl x5_xIO (fun z hz => by cases hz) (by decide) (by decide) clL_21 cst_xIO (h := 13) rfl (fun q => ?_)
      refine q_astore C dL_why_13 (by decide) ?_
      refine q_iconst C dL_why_15 ?_
      exact q_iretI C dL_why_16 (by omega) (by omega) (Or.inr ⟨_, hx, Or.inl ⟨rfl, rfl⟩⟩)
    · exact hi.elim
  · refine q_i2l C dL_why_8 (by omega) ?_
    refine q_last C (b := 36) (n := 1) rfl (by decide) (by decide) (by omega) (show (-9223372036854775808) ≤ _ ∧ _ ≤ 9223372036854775807 from by omega) dL_why_9 ?_
    refine q_goto C 17 dL_why_10 (by decide) ?_
    refine q_iconst C dL_why_17 ?_
    exact q_iretI C dL_why_18 (by omega) (by omega) (Or.inl ⟨rfl, v, g1, hv, rfl⟩)
theorem xin_move {g g1 : qHp} {x s : Int} {E : String} (h : cX_move g x s E g1) : xin [xIO, xUO] E := by
  obtain ⟨h, -⟩ := h
  rcases h with ⟨rfl, -⟩ | ⟨rfl, -⟩
  · exact Or.inl rfl
  · exact Or.inr (Or.inl rfl)
set_option maxRecDepth 20000 in
theorem KL_move (g : qHp) (x : Int) (hx : -2147483648 ≤ x ∧ x < 2147483648) (s : Int) (hs : -2147483648 ≤ s ∧ s < 2147483648) (hyo : yOK (g 5 5) (g 6) (g 7) (g 8) (g 9)) : qC yL_move (.codeWith yL_move cL_move 5 (some .int) [(0, 10, 13, 21), (0, 10, 17, 23)]) 8 3 (fun ad => [.ref (ad 0), .int (iI x), .int (iI s), .ref (ad 36)]) g (qPi (fun (kc : Int) (g' : qHp) => hlQ [xIO, xUO] (cP_move g x s) (cX_move g x s) kc g')) qNo := by
  refine q_methH (by decide +kernel) rfl (fun _ => (Nat.le_of_ble_eq_true rfl)) (fun X ω C => ?_)
  refine q_loc [(0, .ref (ω.1 0)), (1, .int (iI x)), (2, .int (iI s)), (3, .ref (ω.1 36))] ⟨rfl, rfl, rfl, rfl, trivial⟩ ?_
  refine q_aload_n C 3 dL_move_0 rfl rfl ?_
  refine q_iconst C dL_move_1 ?_
  refine q_aload_n C 0 dL_move_2 rfl rfl ?_
  refine q_iload_n C 1 dL_move_3 rfl rfl ?_
  refine q_iload_n C 2 dL_move_4 rfl rfl ?_
  refine q_ViT (P := cP_move g x s) (PX' := cX_move g x s) C (KX5_move _ _ (by omega) _ (by omega) hyo) mX5_move ml_L_66 dL_move_5 (by decide) (by decide) rfl rfl rfl (Nat.le_of_ble_eq_true rfl) rfl (by decide) rfl rfl (fun E g1 hx => ?_) (fun v g1 lv uv hv => ?_)
  · have hi := xin_move hx
    rcases hi with rfl | rfl | hi
    · refine q_catch C [] ⟨0, 10, 13, 21⟩ [⟨0, 10, 17, 23⟩] rfl x5_xIO (fun z hz => by cases hz) (by decide) (by decide) clL_21 cst_xIO (h := 13) rfl (fun q => ?_)
      refine q_astore C dL_move_13 (by decide) ?_
      refine q_iconst C dL_move_15 ?_
      exact q_iretI C dL_move_16 (by omega) (by omega) (Or.inr ⟨_, hx, Or.inl ⟨rfl, rfl⟩⟩)
    · refine q_catch C [⟨0, 10, 13, 21⟩] ⟨0, 10, 17, 23⟩ [] rfl x5_xUO (fun z hz => by simp only [List.mem_cons, List.not_mem_nil, or_false] at hz; rcases hz with rfl; (· exact ⟨by decide, xIO, clL_21, x5_xIO, ne_xUO_xIO⟩)) (by decide) (by decide) clL_23 cst_xUO (h := 17) rfl (fun q => ?_)
      refine q_astore C dL_move_17 (by decide) ?_
      refine q_iconst C dL_move_19 ?_
      exact q_iretI C dL_move_20 (by omega) (by omega) (Or.inr ⟨_, hx, Or.inr (Or.inl ⟨rfl, rfl⟩)⟩)
    · exact hi.elim
  · refine q_i2l C dL_move_8 (by omega) ?_
    refine q_last C (b := 36) (n := 1) rfl (by decide) (by decide) (by omega) (show (-9223372036854775808) ≤ _ ∧ _ ≤ 9223372036854775807 from by omega) dL_move_9 ?_
    refine q_goto C 21 dL_move_10 (by decide) ?_
    refine q_iconst C dL_move_21 ?_
    exact q_iretI C dL_move_22 (by omega) (by omega) (Or.inl ⟨rfl, v, g1, hv, rfl⟩)
theorem xin_planLength {g g1 : qHp} {b : Int} {E : String} (h : cX_planLength g b E g1) : xin [xIO, xNS] E := by
  rcases h with ⟨rfl, -⟩ | ⟨rfl, -⟩
  · exact Or.inl rfl
  · exact Or.inr (Or.inl rfl)
set_option maxRecDepth 20000 in
theorem KL_planLength (g : qHp) (b : Int) (hb : -2147483648 ≤ b ∧ b < 2147483648) (hyo : yOK (g 5 5) (g 6) (g 7) (g 8) (g 9)) : qC yL_planLength (.codeWith yL_planLength cL_planLength 4 (some .int) [(0, 9, 12, 21), (0, 9, 15, 43)]) 9 2 (fun ad => [.ref (ad 0), .int (iI b), .ref (ad 36)]) g (qPi (fun (kc : Int) (g' : qHp) => hlQ [xIO, xNS] (cP_planLength g b) (cX_planLength g b) kc g')) qNo := by
  refine q_methH (by decide +kernel) rfl (fun _ => (Nat.le_of_ble_eq_true rfl)) (fun X ω C => ?_)
  refine q_loc [(0, .ref (ω.1 0)), (1, .int (iI b)), (2, .ref (ω.1 36))] ⟨rfl, rfl, rfl, trivial⟩ ?_
  refine q_aload_n C 2 dL_planLength_0 rfl rfl ?_
  refine q_iconst C dL_planLength_1 ?_
  refine q_aload_n C 0 dL_planLength_2 rfl rfl ?_
  refine q_iload_n C 1 dL_planLength_3 rfl rfl ?_
  refine q_ViT (P := cP_planLength g b) (PX' := cX_planLength g b) C (KX5_planLength _ _ (by omega) hyo) mX5_planLength ml_L_69 dL_planLength_4 (by decide) (by decide) rfl rfl rfl (Nat.le_of_ble_eq_true rfl) rfl (by decide) rfl rfl (fun E g1 hx => ?_) (fun v g1 lv uv hv => ?_)
  · have hi := xin_planLength hx
    rcases hi with rfl | rfl | hi
    · refine q_catch C [] ⟨0, 9, 12, 21⟩ [⟨0, 9, 15, 43⟩] rfl x5_xIO (fun z hz => by cases hz) (by decide) (by decide) clL_21 cst_xIO (h := 12) rfl (fun q => ?_)
      refine q_astore_n C 3 dL_planLength_12 rfl (by decide) ?_
      refine q_iconst C dL_planLength_13 ?_
      exact q_iretI C dL_planLength_14 (by omega) (by omega) (Or.inr ⟨_, hx, Or.inl ⟨rfl, rfl⟩⟩)
    · refine q_catch C [⟨0, 9, 12, 21⟩] ⟨0, 9, 15, 43⟩ [] rfl x5_xNS (fun z hz => by simp only [List.mem_cons, List.not_mem_nil, or_false] at hz; rcases hz with rfl; (· exact ⟨by decide, xIO, clL_21, x5_xIO, ne_xNS_xIO⟩)) (by decide) (by decide) clL_43 cst_xNS (h := 15) rfl (fun q => ?_)
      refine q_astore_n C 3 dL_planLength_15 rfl (by decide) ?_
      refine q_iconst C dL_planLength_16 ?_
      exact q_iretI C dL_planLength_17 (by omega) (by omega) (Or.inr ⟨_, hx, Or.inr (Or.inl ⟨rfl, rfl⟩)⟩)
    · exact hi.elim
  · refine q_i2l C dL_planLength_7 (by omega) ?_
    refine q_last C (b := 36) (n := 1) rfl (by decide) (by decide) (by omega) (show (-9223372036854775808) ≤ _ ∧ _ ≤ 9223372036854775807 from by omega) dL_planLength_8 ?_
    refine q_goto C 18 dL_planLength_9 (by decide) ?_
    refine q_iconst C dL_planLength_18 ?_
    exact q_iretI C dL_planLength_19 (by omega) (by omega) (Or.inl ⟨rfl, v, g1, hv, rfl⟩)
theorem xin_planByTrying {g g1 : qHp} {b : Int} {E : String} (h : cX_planByTrying g b E g1) : xin [xIO, xNS] E := by
  rcases h with ⟨rfl, -⟩ | ⟨rfl, -⟩
  · exact Or.inl rfl
  · exact Or.inr (Or.inl rfl)
set_option maxRecDepth 20000 in
theorem KL_planByTrying (g : qHp) (b : Int) (hb : -2147483648 ≤ b ∧ b < 2147483648) (hyo : yOK (g 5 5) (g 6) (g 7) (g 8) (g 9)) : qC yL_planByTrying (.codeWith yL_planByTrying cL_planByTrying 4 (some .int) [(0, 9, 12, 21), (0, 9, 15, 43)]) 11 2 (fun ad => [.ref (ad 0), .int (iI b), .ref (ad 36)]) g (qPi (fun (kc : Int) (g' : qHp) => hlQ [xIO, xNS] (cP_planByTrying g b) (cX_planByTrying g b) kc g')) qNo := by
  refine q_methH (by decide +kernel) rfl (fun _ => (Nat.le_of_ble_eq_true rfl)) (fun X ω C => ?_)
  refine q_loc [(0, .ref (ω.1 0)), (1, .int (iI b)), (2, .ref (ω.1 36))] ⟨rfl, rfl, rfl, trivial⟩ ?_
  refine q_aload_n C 2 dL_planByTrying_0 rfl rfl ?_
  refine q_iconst C dL_planByTrying_1 ?_
  refine q_aload_n C 0 dL_planByTrying_2 rfl rfl ?_
  refine q_iload_n C 1 dL_planByTrying_3 rfl rfl ?_
  refine q_ViT (P := cP_planByTrying g b) (PX' := cX_planByTrying g b) C (KX5_planByTrying _ _ (by omega) hyo) mX5_planByTrying ml_L_72 dL_planByTrying_4 (by decide) (by decide) rfl rfl rfl (Nat.le_of_ble_eq_true rfl) rfl (by decide) rfl rfl (fun E g1 hx => ?_) (fun v g1 lv uv hv => ?_)
  · have hi := xin_planByTrying hx
    rcases hi with rfl | rfl | hi
    · refine q_catch C [] ⟨0, 9, 12, 21⟩ [⟨0, 9, 15, 43⟩] rfl x5_xIO (fun z hz => by cases hz) (by decide) (by decide) clL_21 cst_xIO (h := 12) rfl (fun q => ?_)
      refine q_astore_n C 3 dL_planByTrying_12 rfl (by decide) ?_
      refine q_iconst C dL_planByTrying_13 ?_
      exact q_iretI C dL_planByTrying_14 (by omega) (by omega) (Or.inr ⟨_, hx, Or.inl ⟨rfl, rfl⟩⟩)
    · refine q_catch C [⟨0, 9, 12, 21⟩] ⟨0, 9, 15, 43⟩ [] rfl x5_xNS (fun z hz => by simp only [List.mem_cons, List.not_mem_nil, or_false] at hz; rcases hz with rfl; (· exact ⟨by decide, xIO, clL_21, x5_xIO, ne_xNS_xIO⟩)) (by decide) (by decide) clL_43 cst_xNS (h := 15) rfl (fun q => ?_)
      refine q_astore_n C 3 dL_planByTrying_15 rfl (by decide) ?_
      refine q_iconst C dL_planByTrying_16 ?_
      exact q_iretI C dL_planByTrying_17 (by omega) (by omega) (Or.inr ⟨_, hx, Or.inr (Or.inl ⟨rfl, rfl⟩)⟩)
    · exact hi.elim
  · refine q_i2l C dL_planByTrying_7 (by omega) ?_
    refine q_last C (b := 36) (n := 1) rfl (by decide) (by decide) (by omega) (show (-9223372036854775808) ≤ _ ∧ _ ≤ 9223372036854775807 from by omega) dL_planByTrying_8 ?_
    refine q_goto C 18 dL_planByTrying_9 (by decide) ?_
    refine q_iconst C dL_planByTrying_18 ?_
    exact q_iretI C dL_planByTrying_19 (by omega) (by omega) (Or.inl ⟨rfl, v, g1, hv, rfl⟩)
theorem xin_planBox {g g1 : qHp} {b i : Int} {E : String} (h : cX_planBox g b i E g1) : xin [xIO, xNS] E := by
  rcases h with (⟨rfl, -⟩ | ⟨rfl, -⟩) | ⟨rfl, -⟩
  · exact Or.inl rfl
  · exact Or.inr (Or.inl rfl)
  · exact Or.inr (Or.inl rfl)
set_option maxRecDepth 20000 in
theorem KL_planBox (g : qHp) (b : Int) (hb : -2147483648 ≤ b ∧ b < 2147483648) (i : Int) (hi : -2147483648 ≤ i ∧ i < 2147483648) (hyo : yOK (g 5 5) (g 6) (g 7) (g 8) (g 9)) : qC yL_planBox (.codeWith yL_planBox cL_planBox 5 (some .int) [(0, 10, 13, 21), (0, 10, 17, 43)]) 9 3 (fun ad => [.ref (ad 0), .int (iI b), .int (iI i), .ref (ad 36)]) g (qPi (fun (kc : Int) (g' : qHp) => hlQ [xIO, xNS] (cP_planBox g b i) (cX_planBox g b i) kc g')) qNo := by
  refine q_methH (by decide +kernel) rfl (fun _ => (Nat.le_of_ble_eq_true rfl)) (fun X ω C => ?_)
  refine q_loc [(0, .ref (ω.1 0)), (1, .int (iI b)), (2, .int (iI i)), (3, .ref (ω.1 36))] ⟨rfl, rfl, rfl, rfl, trivial⟩ ?_
  refine q_aload_n C 3 dL_planBox_0 rfl rfl ?_
  refine q_iconst C dL_planBox_1 ?_
  refine q_aload_n C 0 dL_planBox_2 rfl rfl ?_
  refine q_iload_n C 1 dL_planBox_3 rfl rfl ?_
  refine q_iload_n C 2 dL_planBox_4 rfl rfl ?_
  refine q_ViT (P := cP_planBox g b i) (PX' := cX_planBox g b i) C (KX5_planBox _ _ (by omega) _ (by omega) hyo) mX5_planBox ml_L_75 dL_planBox_5 (by decide) (by decide) rfl rfl rfl (Nat.le_of_ble_eq_true rfl) rfl (by decide) rfl rfl (fun E g1 hx => ?_) (fun v g1 lv uv hv => ?_)
  · have hi := xin_planBox hx
    rcases hi with rfl | rfl | hi
    · refine q_catch C [] ⟨0, 10, 13, 21⟩ [⟨0, 10, 17, 43⟩] rfl x5_xIO (fun z hz => by cases hz) (by decide) (by decide) clL_21 cst_xIO (h := 13) rfl (fun q => ?_)
      refine q_astore C dL_planBox_13 (by decide) ?_
      refine q_iconst C dL_planBox_15 ?_
      exact q_iretI C dL_planBox_16 (by omega) (by omega) (Or.inr ⟨_, hx, Or.inl ⟨rfl, rfl⟩⟩)
    · refine q_catch C [⟨0, 10, 13, 21⟩] ⟨0, 10, 17, 43⟩ [] rfl x5_xNS (fun z hz => by simp only [List.mem_cons, List.not_mem_nil, or_false] at hz; rcases hz with rfl; (· exact ⟨by decide, xIO, clL_21, x5_xIO, ne_xNS_xIO⟩)) (by decide) (by decide) clL_43 cst_xNS (h := 17) rfl (fun q => ?_)
      refine q_astore C dL_planBox_17 (by decide) ?_
      refine q_iconst C dL_planBox_19 ?_
      exact q_iretI C dL_planBox_20 (by omega) (by omega) (Or.inr ⟨_, hx, Or.inr (Or.inl ⟨rfl, rfl⟩)⟩)
    · exact hi.elim
  · refine q_i2l C dL_planBox_8 (by omega) ?_
    refine q_last C (b := 36) (n := 1) rfl (by decide) (by decide) (by omega) (show (-9223372036854775808) ≤ _ ∧ _ ≤ 9223372036854775807 from by omega) dL_planBox_9 ?_
    refine q_goto C 21 dL_planBox_10 (by decide) ?_
    refine q_iconst C dL_planBox_21 ?_
    exact q_iretI C dL_planBox_22 (by omega) (by omega) (Or.inl ⟨rfl, v, g1, hv, rfl⟩)
theorem xin_planStack {g g1 : qHp} {b i : Int} {E : String} (h : cX_planStack g b i E g1) : xin [xIO, xNS] E := by
  rcases h with (⟨rfl, -⟩ | ⟨rfl, -⟩) | ⟨rfl, -⟩
  · exact Or.inl rfl
  · exact Or.inr (Or.inl rfl)
  · exact Or.inr (Or.inl rfl)
set_option maxRecDepth 20000 in
theorem KL_planStack (g : qHp) (b : Int) (hb : -2147483648 ≤ b ∧ b < 2147483648) (i : Int) (hi : -2147483648 ≤ i ∧ i < 2147483648) (hyo : yOK (g 5 5) (g 6) (g 7) (g 8) (g 9)) : qC yL_planStack (.codeWith yL_planStack cL_planStack 5 (some .int) [(0, 10, 13, 21), (0, 10, 17, 43)]) 9 3 (fun ad => [.ref (ad 0), .int (iI b), .int (iI i), .ref (ad 36)]) g (qPi (fun (kc : Int) (g' : qHp) => hlQ [xIO, xNS] (cP_planStack g b i) (cX_planStack g b i) kc g')) qNo := by
  refine q_methH (by decide +kernel) rfl (fun _ => (Nat.le_of_ble_eq_true rfl)) (fun X ω C => ?_)
  refine q_loc [(0, .ref (ω.1 0)), (1, .int (iI b)), (2, .int (iI i)), (3, .ref (ω.1 36))] ⟨rfl, rfl, rfl, rfl, trivial⟩ ?_
  refine q_aload_n C 3 dL_planStack_0 rfl rfl ?_
  refine q_iconst C dL_planStack_1 ?_
  refine q_aload_n C 0 dL_planStack_2 rfl rfl ?_
  refine q_iload_n C 1 dL_planStack_3 rfl rfl ?_
  refine q_iload_n C 2 dL_planStack_4 rfl rfl ?_
  refine q_ViT (P := cP_planStack g b i) (PX' := cX_planStack g b i) C (KX5_planStack _ _ (by omega) _ (by omega) hyo) mX5_planStack ml_L_78 dL_planStack_5 (by decide) (by decide) rfl rfl rfl (Nat.le_of_ble_eq_true rfl) rfl (by decide) rfl rfl (fun E g1 hx => ?_) (fun v g1 lv uv hv => ?_)
  · have hi := xin_planStack hx
    rcases hi with rfl | rfl | hi
    · refine q_catch C [] ⟨0, 10, 13, 21⟩ [⟨0, 10, 17, 43⟩] rfl x5_xIO (fun z hz => by cases hz) (by decide) (by decide) clL_21 cst_xIO (h := 13) rfl (fun q => ?_)
      refine q_astore C dL_planStack_13 (by decide) ?_
      refine q_iconst C dL_planStack_15 ?_
      exact q_iretI C dL_planStack_16 (by omega) (by omega) (Or.inr ⟨_, hx, Or.inl ⟨rfl, rfl⟩⟩)
    · refine q_catch C [⟨0, 10, 13, 21⟩] ⟨0, 10, 17, 43⟩ [] rfl x5_xNS (fun z hz => by simp only [List.mem_cons, List.not_mem_nil, or_false] at hz; rcases hz with rfl; (· exact ⟨by decide, xIO, clL_21, x5_xIO, ne_xNS_xIO⟩)) (by decide) (by decide) clL_43 cst_xNS (h := 17) rfl (fun q => ?_)
      refine q_astore C dL_planStack_17 (by decide) ?_
      refine q_iconst C dL_planStack_19 ?_
      exact q_iretI C dL_planStack_20 (by omega) (by omega) (Or.inr ⟨_, hx, Or.inr (Or.inl ⟨rfl, rfl⟩)⟩)
    · exact hi.elim
  · refine q_i2l C dL_planStack_8 (by omega) ?_
    refine q_last C (b := 36) (n := 1) rfl (by decide) (by decide) (by omega) (show (-9223372036854775808) ≤ _ ∧ _ ≤ 9223372036854775807 from by omega) dL_planStack_9 ?_
    refine q_goto C 21 dL_planStack_10 (by decide) ?_
    refine q_iconst C dL_planStack_21 ?_
    exact q_iretI C dL_planStack_22 (by omega) (by omega) (Or.inl ⟨rfl, v, g1, hv, rfl⟩)
theorem xin_dig {g g1 : qHp} {b : Int} {E : String} (h : cX_dig g b E g1) : xin [xIO, xNS] E := by
  rcases h with ⟨rfl, -⟩ | ⟨rfl, -⟩
  · exact Or.inl rfl
  · exact Or.inr (Or.inl rfl)
set_option maxRecDepth 20000 in
theorem KL_dig (g : qHp) (b : Int) (hb : -2147483648 ≤ b ∧ b < 2147483648) (hyo : yOK (g 5 5) (g 6) (g 7) (g 8) (g 9)) : qC yL_dig (.codeWith yL_dig cL_dig 4 (some .int) [(0, 9, 12, 21), (0, 9, 15, 43)]) 9 2 (fun ad => [.ref (ad 0), .int (iI b), .ref (ad 36)]) g (qPi (fun (kc : Int) (g' : qHp) => hlQ [xIO, xNS] (cP_dig g b) (cX_dig g b) kc g')) qNo := by
  refine q_methH (by decide +kernel) rfl (fun _ => (Nat.le_of_ble_eq_true rfl)) (fun X ω C => ?_)
  refine q_loc [(0, .ref (ω.1 0)), (1, .int (iI b)), (2, .ref (ω.1 36))] ⟨rfl, rfl, rfl, trivial⟩ ?_
  refine q_aload_n C 2 dL_dig_0 rfl rfl ?_
  refine q_iconst C dL_dig_1 ?_
  refine q_aload_n C 0 dL_dig_2 rfl rfl ?_
  refine q_iload_n C 1 dL_dig_3 rfl rfl ?_
  refine q_ViT (P := cP_dig g b) (PX' := cX_dig g b) C (KX5_dig _ _ (by omega) hyo) mX5_dig ml_L_81 dL_dig_4 (by decide) (by decide) rfl rfl rfl (Nat.le_of_ble_eq_true rfl) rfl (by decide) rfl rfl (fun E g1 hx => ?_) (fun v g1 lv uv hv => ?_)
  · have hi := xin_dig hx
    rcases hi with rfl | rfl | hi
    · refine q_catch C [] ⟨0, 9, 12, 21⟩ [⟨0, 9, 15, 43⟩] rfl x5_xIO (fun z hz => by cases hz) (by decide) (by decide) clL_21 cst_xIO (h := 12) rfl (fun q => ?_)
      refine q_astore_n C 3 dL_dig_12 rfl (by decide) ?_
      refine q_iconst C dL_dig_13 ?_
      exact q_iretI C dL_dig_14 (by omega) (by omega) (Or.inr ⟨_, hx, Or.inl ⟨rfl, rfl⟩⟩)
    · refine q_catch C [⟨0, 9, 12, 21⟩] ⟨0, 9, 15, 43⟩ [] rfl x5_xNS (fun z hz => by simp only [List.mem_cons, List.not_mem_nil, or_false] at hz; rcases hz with rfl; (· exact ⟨by decide, xIO, clL_21, x5_xIO, ne_xNS_xIO⟩)) (by decide) (by decide) clL_43 cst_xNS (h := 15) rfl (fun q => ?_)
      refine q_astore_n C 3 dL_dig_15 rfl (by decide) ?_
      refine q_iconst C dL_dig_16 ?_
      exact q_iretI C dL_dig_17 (by omega) (by omega) (Or.inr ⟨_, hx, Or.inr (Or.inl ⟨rfl, rfl⟩)⟩)
    · exact hi.elim
  · refine q_i2l C dL_dig_7 (by omega) ?_
    refine q_last C (b := 36) (n := 1) rfl (by decide) (by decide) (by omega) (show (-9223372036854775808) ≤ _ ∧ _ ≤ 9223372036854775807 from by omega) dL_dig_8 ?_
    refine q_goto C 18 dL_dig_9 (by decide) ?_
    refine q_iconst C dL_dig_18 ?_
    exact q_iretI C dL_dig_19 (by omega) (by omega) (Or.inl ⟨rfl, v, g1, hv, rfl⟩)
theorem xin_book {g g1 : qHp} {x h l : Int} {E : String} (h : cX_book g x h l E g1) : xin [xIO, xIA, xUO, xIS] E := by
  obtain ⟨h, -⟩ := h
  rcases h with ⟨rfl, -⟩ | ⟨rfl, -⟩ | ⟨rfl, -⟩ | ⟨rfl, -⟩
  · exact Or.inl rfl
  · exact Or.inr (Or.inl rfl)
  · exact Or.inr (Or.inr (Or.inl rfl))
  · exact Or.inr (Or.inr (Or.inr (Or.inl rfl)))
set_option maxRecDepth 20000 in
theorem KL_book (g : qHp) (x : Int) (hx : -2147483648 ≤ x ∧ x < 2147483648) (h : Int) (hh : -2147483648 ≤ h ∧ h < 2147483648) (l : Int) (hl : -2147483648 ≤ l ∧ l < 2147483648)  : qC yL_book (.codeWith yL_book cL_book 6 (some .int) [(0, 12, 15, 21), (0, 12, 19, 13), (0, 12, 23, 23), (0, 12, 27, 15)]) 8 3 (fun ad => [.ref (ad 0), .int (iI x), .int (iI h), .int (iI l), .ref (ad 36)]) g (qPi (fun (kc : Int) (g' : qHp) => hlQ [xIO, xIA, xUO, xIS] (cP_book g x h l) (cX_book g x h l) kc g')) qNo := by
  refine q_methH (by decide +kernel) rfl (fun _ => (Nat.le_of_ble_eq_true rfl)) (fun X ω C => ?_)
  refine q_loc [(0, .ref (ω.1 0)), (1, .int (iI x)), (2, .int (iI h)), (3, .int (iI l)), (4, .ref (ω.1 36))] ⟨rfl, rfl, rfl, rfl, rfl, trivial⟩ ?_
  refine q_aload C dL_book_0 rfl ?_
  refine q_iconst C dL_book_2 ?_
  refine q_aload_n C 0 dL_book_3 rfl rfl ?_
  refine q_iload_n C 1 dL_book_4 rfl rfl ?_
  refine q_iload_n C 2 dL_book_5 rfl rfl ?_
  refine q_iload_n C 3 dL_book_6 rfl rfl ?_
  refine q_ViT (P := cP_book g x h l) (PX' := cX_book g x h l) C (KX5_book _ _ (by omega) _ (by omega) _ (by omega) ) mX5_book ml_L_84 dL_book_7 (by decide) (by decide) rfl rfl rfl (Nat.le_of_ble_eq_true rfl) rfl (by decide) rfl rfl (fun E g1 hx => ?_) (fun v g1 lv uv hv => ?_)
  · have hi := xin_book hx
    rcases hi with rfl | rfl | rfl | rfl | hi
    · refine q_catch C [] ⟨0, 12, 15, 21⟩ [⟨0, 12, 19, 13⟩, ⟨0, 12, 23, 23⟩, ⟨0, 12, 27, 15⟩] rfl x5_xIO (fun z hz => by cases hz) (by decide) (by decide) clL_21 cst_xIO (h := 15) rfl (fun q => ?_)
      refine q_astore C dL_book_15 (by decide) ?_
      refine q_iconst C dL_book_17 ?_
      exact q_iretI C dL_book_18 (by omega) (by omega) (Or.inr ⟨_, hx, Or.inl ⟨rfl, rfl⟩⟩)
    · refine q_catch C [⟨0, 12, 15, 21⟩] ⟨0, 12, 19, 13⟩ [⟨0, 12, 23, 23⟩, ⟨0, 12, 27, 15⟩] rfl x5_xIA (fun z hz => by simp only [List.mem_cons, List.not_mem_nil, or_false] at hz; rcases hz with rfl; (· exact ⟨by decide, xIO, clL_21, x5_xIO, ne_xIA_xIO⟩)) (by decide) (by decide) clL_13 cst_xIA (h := 19) rfl (fun q => ?_)
      refine q_astore C dL_book_19 (by decide) ?_
      refine q_iconst C dL_book_21 ?_
      exact q_iretI C dL_book_22 (by omega) (by omega) (Or.inr ⟨_, hx, Or.inr (Or.inl ⟨rfl, rfl⟩)⟩)
    · refine q_catch C [⟨0, 12, 15, 21⟩, ⟨0, 12, 19, 13⟩] ⟨0, 12, 23, 23⟩ [⟨0, 12, 27, 15⟩] rfl x5_xUO (fun z hz => by simp only [List.mem_cons, List.not_mem_nil, or_false] at hz; rcases hz with rfl | rfl; (· exact ⟨by decide, xIO, clL_21, x5_xIO, ne_xUO_xIO⟩); (· exact ⟨by decide, xIA, clL_13, x5_xIA, ne_xUO_xIA⟩)) (by decide) (by decide) clL_23 cst_xUO (h := 23) rfl (fun q => ?_)
      refine q_astore C dL_book_23 (by decide) ?_
      refine q_iconst C dL_book_25 ?_
      exact q_iretI C dL_book_26 (by omega) (by omega) (Or.inr ⟨_, hx, Or.inr (Or.inr (Or.inl ⟨rfl, rfl⟩))⟩)
    · refine q_catch C [⟨0, 12, 15, 21⟩, ⟨0, 12, 19, 13⟩, ⟨0, 12, 23, 23⟩] ⟨0, 12, 27, 15⟩ [] rfl x5_xIS (fun z hz => by simp only [List.mem_cons, List.not_mem_nil, or_false] at hz; rcases hz with rfl | rfl | rfl; (· exact ⟨by decide, xIO, clL_21, x5_xIO, ne_xIS_xIO⟩); (· exact ⟨by decide, xIA, clL_13, x5_xIA, ne_xIS_xIA⟩); (· exact ⟨by decide, xUO, clL_23, x5_xUO, ne_xIS_xUO⟩)) (by decide) (by decide) clL_15 cst_xIS (h := 27) rfl (fun q => ?_)
      refine q_astore C dL_book_27 (by decide) ?_
      refine q_iconst C dL_book_29 ?_
      exact q_iretI C dL_book_30 (by omega) (by omega) (Or.inr ⟨_, hx, Or.inr (Or.inr (Or.inr (Or.inl ⟨rfl, rfl⟩)))⟩)
    · exact hi.elim
  · refine q_i2l C dL_book_10 (by omega) ?_
    refine q_last C (b := 36) (n := 1) rfl (by decide) (by decide) (by omega) (show (-9223372036854775808) ≤ _ ∧ _ ≤ 9223372036854775807 from by omega) dL_book_11 ?_
    refine q_goto C 31 dL_book_12 (by decide) ?_
    refine q_iconst C dL_book_31 ?_
    exact q_iretI C dL_book_32 (by omega) (by omega) (Or.inl ⟨rfl, v, g1, hv, rfl⟩)
theorem xin_cancel {g g1 : qHp} {a : Int} {E : String} (h : cX_cancel g a E g1) : xin [xIO, xIS] E := by
  obtain ⟨h, -⟩ := h
  rcases h with ⟨rfl, -⟩ | ⟨rfl, -⟩
  · exact Or.inl rfl
  · exact Or.inr (Or.inl rfl)
set_option maxRecDepth 20000 in
theorem KL_cancel (g : qHp) (a : Int) (ha : -2147483648 ≤ a ∧ a < 2147483648)  : qC yL_cancel (.codeWith yL_cancel cL_cancel 4 (some .int) [(0, 9, 12, 21), (0, 9, 15, 15)]) 8 2 (fun ad => [.ref (ad 0), .int (iI a), .ref (ad 36)]) g (qPi (fun (kc : Int) (g' : qHp) => hlQ [xIO, xIS] (cP_cancel g a) (cX_cancel g a) kc g')) qNo := by
  refine q_methH (by decide +kernel) rfl (fun _ => (Nat.le_of_ble_eq_true rfl)) (fun X ω C => ?_)
  refine q_loc [(0, .ref (ω.1 0)), (1, .int (iI a)), (2, .ref (ω.1 36))] ⟨rfl, rfl, rfl, trivial⟩ ?_
  refine q_aload_n C 2 dL_cancel_0 rfl rfl ?_
  refine q_iconst C dL_cancel_1 ?_
  refine q_aload_n C 0 dL_cancel_2 rfl rfl ?_
  refine q_iload_n C 1 dL_cancel_3 rfl rfl ?_
  refine q_ViT (P := cP_cancel g a) (PX' := cX_cancel g a) C (KX5_cancel _ _ (by omega) ) mX5_cancel ml_L_88 dL_cancel_4 (by decide) (by decide) rfl rfl rfl (Nat.le_of_ble_eq_true rfl) rfl (by decide) rfl rfl (fun E g1 hx => ?_) (fun v g1 lv uv hv => ?_)
  · have hi := xin_cancel hx
    rcases hi with rfl | rfl | hi
    · refine q_catch C [] ⟨0, 9, 12, 21⟩ [⟨0, 9, 15, 15⟩] rfl x5_xIO (fun z hz => by cases hz) (by decide) (by decide) clL_21 cst_xIO (h := 12) rfl (fun q => ?_)
      refine q_astore_n C 3 dL_cancel_12 rfl (by decide) ?_
      refine q_iconst C dL_cancel_13 ?_
      exact q_iretI C dL_cancel_14 (by omega) (by omega) (Or.inr ⟨_, hx, Or.inl ⟨rfl, rfl⟩⟩)
    · refine q_catch C [⟨0, 9, 12, 21⟩] ⟨0, 9, 15, 15⟩ [] rfl x5_xIS (fun z hz => by simp only [List.mem_cons, List.not_mem_nil, or_false] at hz; rcases hz with rfl; (· exact ⟨by decide, xIO, clL_21, x5_xIO, ne_xIS_xIO⟩)) (by decide) (by decide) clL_15 cst_xIS (h := 15) rfl (fun q => ?_)
      refine q_astore_n C 3 dL_cancel_15 rfl (by decide) ?_
      refine q_iconst C dL_cancel_16 ?_
      exact q_iretI C dL_cancel_17 (by omega) (by omega) (Or.inr ⟨_, hx, Or.inr (Or.inl ⟨rfl, rfl⟩)⟩)
    · exact hi.elim
  · refine q_i2l C dL_cancel_7 (by omega) ?_
    refine q_last C (b := 36) (n := 1) rfl (by decide) (by decide) (by omega) (show (-9223372036854775808) ≤ _ ∧ _ ≤ 9223372036854775807 from by omega) dL_cancel_8 ?_
    refine q_goto C 18 dL_cancel_9 (by decide) ?_
    refine q_iconst C dL_cancel_18 ?_
    exact q_iretI C dL_cancel_19 (by omega) (by omega) (Or.inl ⟨rfl, v, g1, hv, rfl⟩)
theorem xin_stateOf {g g1 : qHp} {a : Int} {E : String} (h : cX_stateOf g a E g1) : xin [xIO] E := by
  obtain ⟨h, -⟩ := h
  rcases h with ⟨rfl, -⟩
  · exact Or.inl rfl
set_option maxRecDepth 20000 in
theorem KL_stateOf (g : qHp) (a : Int) (ha : -2147483648 ≤ a ∧ a < 2147483648)  : qC yL_stateOf (.codeWith yL_stateOf cL_stateOf 4 (some .int) [(0, 9, 12, 21)]) 8 1 (fun ad => [.ref (ad 0), .int (iI a), .ref (ad 36)]) g (qPi (fun (kc : Int) (g' : qHp) => hlQ [xIO] (cP_stateOf g a) (cX_stateOf g a) kc g')) qNo := by
  refine q_methH (by decide +kernel) rfl (fun _ => (Nat.le_of_ble_eq_true rfl)) (fun X ω C => ?_)
  refine q_loc [(0, .ref (ω.1 0)), (1, .int (iI a)), (2, .ref (ω.1 36))] ⟨rfl, rfl, rfl, trivial⟩ ?_
  refine q_aload_n C 2 dL_stateOf_0 rfl rfl ?_
  refine q_iconst C dL_stateOf_1 ?_
  refine q_aload_n C 0 dL_stateOf_2 rfl rfl ?_
  refine q_iload_n C 1 dL_stateOf_3 rfl rfl ?_
  refine q_ViT (P := cP_stateOf g a) (PX' := cX_stateOf g a) C (KX5_stateOf _ _ (by omega) ) mX5_stateOf ml_L_91 dL_stateOf_4 (by decide) (by decide) rfl rfl rfl (Nat.le_of_ble_eq_true rfl) rfl (by decide) rfl rfl (fun E g1 hx => ?_) (fun v g1 lv uv hv => ?_)
  · have hi := xin_stateOf hx
    rcases hi with rfl | hi
    · refine q_catch C [] ⟨0, 9, 12, 21⟩ [] rfl x5_xIO (fun z hz => by cases hz) (by decide) (by decide) clL_21 cst_xIO (h := 12) rfl (fun q => ?_)
      refine q_astore_n C 3 dL_stateOf_12 rfl (by decide) ?_
      refine q_iconst C dL_stateOf_13 ?_
      exact q_iretI C dL_stateOf_14 (by omega) (by omega) (Or.inr ⟨_, hx, Or.inl ⟨rfl, rfl⟩⟩)
    · exact hi.elim
  · refine q_i2l C dL_stateOf_7 (by omega) ?_
    refine q_last C (b := 36) (n := 1) rfl (by decide) (by decide) (by omega) (show (-9223372036854775808) ≤ _ ∧ _ ≤ 9223372036854775807 from by omega) dL_stateOf_8 ?_
    refine q_goto C 15 dL_stateOf_9 (by decide) ?_
    refine q_iconst C dL_stateOf_15 ?_
    exact q_iretI C dL_stateOf_16 (by omega) (by omega) (Or.inl ⟨rfl, v, g1, hv, rfl⟩)
theorem xin_appointmentOf {g g1 : qHp} {x : Int} {E : String} (h : cX_appointmentOf g x E g1) : xin [xIO, xNS] E := by
  obtain ⟨h, -⟩ := h
  rcases h with ⟨rfl, -⟩ | ⟨rfl, -⟩
  · exact Or.inl rfl
  · exact Or.inr (Or.inl rfl)
set_option maxRecDepth 20000 in
theorem KL_appointmentOf (g : qHp) (x : Int) (hx : -2147483648 ≤ x ∧ x < 2147483648)  : qC yL_appointmentOf (.codeWith yL_appointmentOf cL_appointmentOf 4 (some .int) [(0, 9, 12, 21), (0, 9, 15, 43)]) 8 2 (fun ad => [.ref (ad 0), .int (iI x), .ref (ad 36)]) g (qPi (fun (kc : Int) (g' : qHp) => hlQ [xIO, xNS] (cP_appointmentOf g x) (cX_appointmentOf g x) kc g')) qNo := by
  refine q_methH (by decide +kernel) rfl (fun _ => (Nat.le_of_ble_eq_true rfl)) (fun X ω C => ?_)
  refine q_loc [(0, .ref (ω.1 0)), (1, .int (iI x)), (2, .ref (ω.1 36))] ⟨rfl, rfl, rfl, trivial⟩ ?_
  refine q_aload_n C 2 dL_appointmentOf_0 rfl rfl ?_
  refine q_iconst C dL_appointmentOf_1 ?_
  refine q_aload_n C 0 dL_appointmentOf_2 rfl rfl ?_
  refine q_iload_n C 1 dL_appointmentOf_3 rfl rfl ?_
  refine q_ViT (P := cP_appointmentOf g x) (PX' := cX_appointmentOf g x) C (KX5_appointmentOf _ _ (by omega) ) mX5_appointmentOf ml_L_94 dL_appointmentOf_4 (by decide) (by decide) rfl rfl rfl (Nat.le_of_ble_eq_true rfl) rfl (by decide) rfl rfl (fun E g1 hx => ?_) (fun v g1 lv uv hv => ?_)
  · have hi := xin_appointmentOf hx
    rcases hi with rfl | rfl | hi
    · refine q_catch C [] ⟨0, 9, 12, 21⟩ [⟨0, 9, 15, 43⟩] rfl x5_xIO (fun z hz => by cases hz) (by decide) (by decide) clL_21 cst_xIO (h := 12) rfl (fun q => ?_)
      refine q_astore_n C 3 dL_appointmentOf_12 rfl (by decide) ?_
      refine q_iconst C dL_appointmentOf_13 ?_
      exact q_iretI C dL_appointmentOf_14 (by omega) (by omega) (Or.inr ⟨_, hx, Or.inl ⟨rfl, rfl⟩⟩)
    · refine q_catch C [⟨0, 9, 12, 21⟩] ⟨0, 9, 15, 43⟩ [] rfl x5_xNS (fun z hz => by simp only [List.mem_cons, List.not_mem_nil, or_false] at hz; rcases hz with rfl; (· exact ⟨by decide, xIO, clL_21, x5_xIO, ne_xNS_xIO⟩)) (by decide) (by decide) clL_43 cst_xNS (h := 15) rfl (fun q => ?_)
      refine q_astore_n C 3 dL_appointmentOf_15 rfl (by decide) ?_
      refine q_iconst C dL_appointmentOf_16 ?_
      exact q_iretI C dL_appointmentOf_17 (by omega) (by omega) (Or.inr ⟨_, hx, Or.inr (Or.inl ⟨rfl, rfl⟩)⟩)
    · exact hi.elim
  · refine q_i2l C dL_appointmentOf_7 (by omega) ?_
    refine q_last C (b := 36) (n := 1) rfl (by decide) (by decide) (by omega) (show (-9223372036854775808) ≤ _ ∧ _ ≤ 9223372036854775807 from by omega) dL_appointmentOf_8 ?_
    refine q_goto C 18 dL_appointmentOf_9 (by decide) ?_
    refine q_iconst C dL_appointmentOf_18 ?_
    exact q_iretI C dL_appointmentOf_19 (by omega) (by omega) (Or.inl ⟨rfl, v, g1, hv, rfl⟩)
theorem xin_inLane {g g1 : qHp} {l h : Int} {E : String} (h : cX_inLane g l h E g1) : xin [xIO, xIA] E := by
  obtain ⟨h, -⟩ := h
  rcases h with ⟨rfl, -⟩ | ⟨rfl, -⟩
  · exact Or.inl rfl
  · exact Or.inr (Or.inl rfl)
set_option maxRecDepth 20000 in
theorem KL_inLane (g : qHp) (l : Int) (hl : -2147483648 ≤ l ∧ l < 2147483648) (h : Int) (hh : -2147483648 ≤ h ∧ h < 2147483648)  : qC yL_inLane (.codeWith yL_inLane cL_inLane 5 (some .int) [(0, 10, 13, 21), (0, 10, 17, 13)]) 8 2 (fun ad => [.ref (ad 0), .int (iI l), .int (iI h), .ref (ad 36)]) g (qPi (fun (kc : Int) (g' : qHp) => hlQ [xIO, xIA] (cP_inLane g l h) (cX_inLane g l h) kc g')) qNo := by
  refine q_methH (by decide +kernel) rfl (fun _ => (Nat.le_of_ble_eq_true rfl)) (fun X ω C => ?_)
  refine q_loc [(0, .ref (ω.1 0)), (1, .int (iI l)), (2, .int (iI h)), (3, .ref (ω.1 36))] ⟨rfl, rfl, rfl, rfl, trivial⟩ ?_
  refine q_aload_n C 3 dL_inLane_0 rfl rfl ?_
  refine q_iconst C dL_inLane_1 ?_
  refine q_aload_n C 0 dL_inLane_2 rfl rfl ?_
  refine q_iload_n C 1 dL_inLane_3 rfl rfl ?_
  refine q_iload_n C 2 dL_inLane_4 rfl rfl ?_
  refine q_ViT (P := cP_inLane g l h) (PX' := cX_inLane g l h) C (KX5_inLane _ _ (by omega) _ (by omega) ) mX5_inLane ml_L_97 dL_inLane_5 (by decide) (by decide) rfl rfl rfl (Nat.le_of_ble_eq_true rfl) rfl (by decide) rfl rfl (fun E g1 hx => ?_) (fun v g1 lv uv hv => ?_)
  · have hi := xin_inLane hx
    rcases hi with rfl | rfl | hi
    · refine q_catch C [] ⟨0, 10, 13, 21⟩ [⟨0, 10, 17, 13⟩] rfl x5_xIO (fun z hz => by cases hz) (by decide) (by decide) clL_21 cst_xIO (h := 13) rfl (fun q => ?_)
      refine q_astore C dL_inLane_13 (by decide) ?_
      refine q_iconst C dL_inLane_15 ?_
      exact q_iretI C dL_inLane_16 (by omega) (by omega) (Or.inr ⟨_, hx, Or.inl ⟨rfl, rfl⟩⟩)
    · refine q_catch C [⟨0, 10, 13, 21⟩] ⟨0, 10, 17, 13⟩ [] rfl x5_xIA (fun z hz => by simp only [List.mem_cons, List.not_mem_nil, or_false] at hz; rcases hz with rfl; (· exact ⟨by decide, xIO, clL_21, x5_xIO, ne_xIA_xIO⟩)) (by decide) (by decide) clL_13 cst_xIA (h := 17) rfl (fun q => ?_)
      refine q_astore C dL_inLane_17 (by decide) ?_
      refine q_iconst C dL_inLane_19 ?_
      exact q_iretI C dL_inLane_20 (by omega) (by omega) (Or.inr ⟨_, hx, Or.inr (Or.inl ⟨rfl, rfl⟩)⟩)
    · exact hi.elim
  · refine q_i2l C dL_inLane_8 (by omega) ?_
    refine q_last C (b := 36) (n := 1) rfl (by decide) (by decide) (by omega) (show (-9223372036854775808) ≤ _ ∧ _ ≤ 9223372036854775807 from by omega) dL_inLane_9 ?_
    refine q_goto C 21 dL_inLane_10 (by decide) ?_
    refine q_iconst C dL_inLane_21 ?_
    exact q_iretI C dL_inLane_22 (by omega) (by omega) (Or.inl ⟨rfl, v, g1, hv, rfl⟩)
theorem xin_firstHour {g g1 : qHp} {x : Int} {E : String} (h : cX_firstHour g x E g1) : xin [xIO, xNS] E := by
  obtain ⟨h, -⟩ := h
  rcases h with ⟨rfl, -⟩ | ⟨rfl, -⟩
  · exact Or.inl rfl
  · exact Or.inr (Or.inl rfl)
set_option maxRecDepth 20000 in
theorem KL_firstHour (g : qHp) (x : Int) (hx : -2147483648 ≤ x ∧ x < 2147483648)  : qC yL_firstHour (.codeWith yL_firstHour cL_firstHour 4 (some .int) [(0, 9, 12, 21), (0, 9, 15, 43)]) 8 2 (fun ad => [.ref (ad 0), .int (iI x), .ref (ad 36)]) g (qPi (fun (kc : Int) (g' : qHp) => hlQ [xIO, xNS] (cP_firstHour g x) (cX_firstHour g x) kc g')) qNo := by
  refine q_methH (by decide +kernel) rfl (fun _ => (Nat.le_of_ble_eq_true rfl)) (fun X ω C => ?_)
  refine q_loc [(0, .ref (ω.1 0)), (1, .int (iI x)), (2, .ref (ω.1 36))] ⟨rfl, rfl, rfl, trivial⟩ ?_
  refine q_aload_n C 2 dL_firstHour_0 rfl rfl ?_
  refine q_iconst C dL_firstHour_1 ?_
  refine q_aload_n C 0 dL_firstHour_2 rfl rfl ?_
  refine q_iload_n C 1 dL_firstHour_3 rfl rfl ?_
  refine q_ViT (P := cP_firstHour g x) (PX' := cX_firstHour g x) C (KX5_firstHour _ _ (by omega) ) mX5_firstHour ml_L_100 dL_firstHour_4 (by decide) (by decide) rfl rfl rfl (Nat.le_of_ble_eq_true rfl) rfl (by decide) rfl rfl (fun E g1 hx => ?_) (fun v g1 lv uv hv => ?_)
  · have hi := xin_firstHour hx
    rcases hi with rfl | rfl | hi
    · refine q_catch C [] ⟨0, 9, 12, 21⟩ [⟨0, 9, 15, 43⟩] rfl x5_xIO (fun z hz => by cases hz) (by decide) (by decide) clL_21 cst_xIO (h := 12) rfl (fun q => ?_)
      refine q_astore_n C 3 dL_firstHour_12 rfl (by decide) ?_
      refine q_iconst C dL_firstHour_13 ?_
      exact q_iretI C dL_firstHour_14 (by omega) (by omega) (Or.inr ⟨_, hx, Or.inl ⟨rfl, rfl⟩⟩)
    · refine q_catch C [⟨0, 9, 12, 21⟩] ⟨0, 9, 15, 43⟩ [] rfl x5_xNS (fun z hz => by simp only [List.mem_cons, List.not_mem_nil, or_false] at hz; rcases hz with rfl; (· exact ⟨by decide, xIO, clL_21, x5_xIO, ne_xNS_xIO⟩)) (by decide) (by decide) clL_43 cst_xNS (h := 15) rfl (fun q => ?_)
      refine q_astore_n C 3 dL_firstHour_15 rfl (by decide) ?_
      refine q_iconst C dL_firstHour_16 ?_
      exact q_iretI C dL_firstHour_17 (by omega) (by omega) (Or.inr ⟨_, hx, Or.inr (Or.inl ⟨rfl, rfl⟩)⟩)
    · exact hi.elim
  · refine q_i2l C dL_firstHour_7 (by omega) ?_
    refine q_last C (b := 36) (n := 1) rfl (by decide) (by decide) (by omega) (show (-9223372036854775808) ≤ _ ∧ _ ≤ 9223372036854775807 from by omega) dL_firstHour_8 ?_
    refine q_goto C 18 dL_firstHour_9 (by decide) ?_
    refine q_iconst C dL_firstHour_18 ?_
    exact q_iretI C dL_firstHour_19 (by omega) (by omega) (Or.inl ⟨rfl, v, g1, hv, rfl⟩)
theorem xin_pass {g g1 : qHp} {n : Int} {E : String} (h : cX_pass g n E g1) : xin [xIA] E := by
  obtain ⟨h, -⟩ := h
  rcases h with ⟨rfl, -⟩
  · exact Or.inl rfl
set_option maxRecDepth 20000 in
theorem KL_pass (g : qHp) (n : Int) (hn : -2147483648 ≤ n ∧ n < 2147483648) (hyo : yOK (g 5 5) (g 6) (g 7) (g 8) (g 9)) (hB : bInv (vA g) (stA g)) : qC yL_pass (.codeWith yL_pass cL_pass 4 (some .int) [(0, 9, 12, 13)]) 7 1 (fun ad => [.ref (ad 0), .int (iI n), .ref (ad 36)]) g (qPi (fun (kc : Int) (g' : qHp) => hlQ [xIA] (cP_pass g n) (cX_pass g n) kc g')) qNo := by
  refine q_methH (by decide +kernel) rfl (fun _ => (Nat.le_of_ble_eq_true rfl)) (fun X ω C => ?_)
  refine q_loc [(0, .ref (ω.1 0)), (1, .int (iI n)), (2, .ref (ω.1 36))] ⟨rfl, rfl, rfl, trivial⟩ ?_
  refine q_aload_n C 2 dL_pass_0 rfl rfl ?_
  refine q_iconst C dL_pass_1 ?_
  refine q_aload_n C 0 dL_pass_2 rfl rfl ?_
  refine q_iload_n C 1 dL_pass_3 rfl rfl ?_
  refine q_ViT (P := cP_pass g n) (PX' := cX_pass g n) C (KX5_pass _ _ (by omega) hyo hB) mX5_pass ml_L_103 dL_pass_4 (by decide) (by decide) rfl rfl rfl (Nat.le_of_ble_eq_true rfl) rfl (by decide) rfl rfl (fun E g1 hx => ?_) (fun v g1 lv uv hv => ?_)
  · have hi := xin_pass hx
    rcases hi with rfl | hi
    · refine q_catch C [] ⟨0, 9, 12, 13⟩ [] rfl x5_xIA (fun z hz => by cases hz) (by decide) (by decide) clL_13 cst_xIA (h := 12) rfl (fun q => ?_)
      refine q_astore_n C 3 dL_pass_12 rfl (by decide) ?_
      refine q_iconst C dL_pass_13 ?_
      exact q_iretI C dL_pass_14 (by omega) (by omega) (Or.inr ⟨_, hx, Or.inl ⟨rfl, rfl⟩⟩)
    · exact hi.elim
  · refine q_i2l C dL_pass_7 (by omega) ?_
    refine q_last C (b := 36) (n := 1) rfl (by decide) (by decide) (by omega) (show (-9223372036854775808) ≤ _ ∧ _ ≤ 9223372036854775807 from by omega) dL_pass_8 ?_
    refine q_goto C 15 dL_pass_9 (by decide) ?_
    refine q_iconst C dL_pass_15 ?_
    exact q_iretI C dL_pass_16 (by omega) (by omega) (Or.inl ⟨rfl, v, g1, hv, rfl⟩)
