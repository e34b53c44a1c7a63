/-! Quaylock: the calls that need no plan -/
abbrev xIO : String := "java/lang/IndexOutOfBoundsException"
abbrev xIA : String := "java/lang/IllegalArgumentException"
abbrev xUO : String := "java/lang/UnsupportedOperationException"
abbrev xIS : String := "java/lang/IllegalStateException"
abbrev xNS : String := "java/util/NoSuchElementException"
/-- a box in the yard; a stack -/
abbrev inY (g : qHp) (x : Int) : Prop := ySt (g 9) x ≠ -1
abbrev isS (g : qHp) (s : Int) : Prop := 0 ≤ s ∧ s < g 5 5
abbrev hlI (g : qHp) (x hour : Int) : Prop := cGet (g 1 3) (g 3) 45 x ≠ 45 ∧ hour < cGet (g 1 3) (g 4) 0 x
abbrev frL (g : qHp) (hour : Int) : Prop := fstB (bkL g 0 hour) (g 18 4) = -1 ∨ fstB (bkL g 1 hour) (g 18 4) = -1 ∨ fstB (bkL g 2 hour) (g 18 4) = -1
theorem ySt_in {so : Int → Int} {x : Int} (h : ySt so x ≠ -1) : (0 ≤ x ∧ x < 20) ∧ ySt so x = so x := by
  unfold ySt at h ⊢
  by_cases q : 0 ≤ x ∧ x < 20
  · rw [if_pos q]
    exact ⟨q, rfl⟩
  · rw [if_neg q] at h
    exact absurd rfl h
theorem fstB_rng (p : Int → Bool) (c : Int) : fstB p c = -1 ∨ (0 ≤ fstB p c ∧ fstB p c < c) := by
  have := fstI_rng p c.toNat 0
  unfold fstB
  by_cases q : fstI p c.toNat 0 < c
  · rw [decide_eq_true q]
    exact Or.inr ⟨this.1, q⟩
  · rw [decide_eq_false q]
    exact Or.inl rfl
set_option maxRecDepth 20000 in
theorem KX5_requireStack (g : qHp) (s : Int) (hs : -2147483648 ≤ s ∧ s < 2147483648)  : qC yX5_requireStack (.code yX5_requireStack cX5_requireStack 2 none) 6 1 (fun ad => [.ref (ad 0), .int (iI s)]) g (qPv (fun g' : qHp => (isS g s) ∧ g' = g)) (fun (E : String) (g' : qHp) => ((E = xIO ∧ ¬ isS g s)) ∧ g' = g) := by
  refine q_meth (by decide +kernel) rfl (fun _ => (Nat.le_of_ble_eq_true rfl)) (fun X ω C => ?_)
  refine q_loc [(0, .ref (ω.1 0)), (1, .int (iI s))] ⟨rfl, rfl, trivial⟩ ?_
  refine q_aload_n C 0 dX5_requireStack_0 rfl rfl ?_
  refine q_getr C (b := 0) 1 rfl (by decide) rfl in_X5 (by decide) fl_X5_21 rfl dX5_requireStack_1 ?_
  refine q_iload_n C 1 dX5_requireStack_4 rfl rfl ?_
  refine q_Vf0 C (KX4_hasStack_5 _ _ (by omega)) mX4_hasStack ml_X5_255 dX5_requireStack_5 (by decide) (by decide) rfl rfl rfl (Nat.le_of_ble_eq_true rfl) rfl (by decide) rfl rfl (fun v5 l5 u5 h5 => ?_)
  refine q_ifne C 22 dX5_requireStack_8 (by decide) (by omega) (fun c8 => ?_) (fun c8 => ?_)
  · exact q_retV C dX5_requireStack_22 (by decide) (⟨by omega, rfl⟩)
  · exact q_throwW C "java/lang/IndexOutOfBoundsException" "there is no such stack" rfl (by decide +kernel) tk_IndexOutOfBoundsException ti_IndexOutOfBoundsException (by decide +kernel) ta_IndexOutOfBoundsException tg_IndexOutOfBoundsException dX5_requireStack_11 dX5_requireStack_14 dX5_requireStack_15 dX5_requireStack_18 dX5_requireStack_21 (by decide) (Nat.le_of_ble_eq_true rfl) (by decide) ⟨⟨rfl, by omega⟩, rfl⟩
set_option maxRecDepth 20000 in
theorem KX5_requireBox (g : qHp) (x : Int) (hx : -2147483648 ≤ x ∧ x < 2147483648)  : qC yX5_requireBox (.code yX5_requireBox cX5_requireBox 2 none) 6 1 (fun ad => [.ref (ad 0), .int (iI x)]) g (qPv (fun g' : qHp => (inY g x) ∧ g' = g)) (fun (E : String) (g' : qHp) => ((E = xIO ∧ ¬ inY g x)) ∧ g' = g) := by
  refine q_meth (by decide +kernel) rfl (fun _ => (Nat.le_of_ble_eq_true rfl)) (fun X ω C => ?_)
  refine q_loc [(0, .ref (ω.1 0)), (1, .int (iI x))] ⟨rfl, rfl, trivial⟩ ?_
  refine q_aload_n C 0 dX5_requireBox_0 rfl rfl ?_
  refine q_getr C (b := 0) 1 rfl (by decide) rfl in_X5 (by decide) fl_X5_21 rfl dX5_requireBox_1 ?_
  refine q_iload_n C 1 dX5_requireBox_4 rfl rfl ?_
  refine q_Vf0 C (KX4_stackWith_5 _ _ (by omega)) mX4_stackWith ml_X5_95 dX5_requireBox_5 (by decide) (by decide) rfl rfl rfl (Nat.le_of_ble_eq_true rfl) rfl (by decide) rfl rfl (fun v5 l5 u5 h5 => ?_)
  refine q_iconst C dX5_requireBox_8 ?_
  refine q_icmp_ne C 23 dX5_requireBox_9 (by decide) (by omega) (by omega) (fun c9 => ?_) (fun c9 => ?_)
  · exact q_retV C dX5_requireBox_23 (by decide) (⟨by omega, rfl⟩)
  · exact q_throwW C "java/lang/IndexOutOfBoundsException" "there is no such box in the yard" rfl (by decide +kernel) tk_IndexOutOfBoundsException ti_IndexOutOfBoundsException (by decide +kernel) ta_IndexOutOfBoundsException tg_IndexOutOfBoundsException dX5_requireBox_12 dX5_requireBox_15 dX5_requireBox_16 dX5_requireBox_19 dX5_requireBox_22 (by decide) (Nat.le_of_ble_eq_true rfl) (by decide) ⟨⟨rfl, by omega⟩, rfl⟩
set_option maxRecDepth 20000 in
theorem KX5_requireLane (g : qHp) (l : Int) (hl : -2147483648 ≤ l ∧ l < 2147483648)  : qC yX5_requireLane (.code yX5_requireLane cX5_requireLane 2 none) 6 1 (fun ad => [.ref (ad 0), .int (iI l)]) g (qPv (fun g' : qHp => ((0 ≤ l ∧ l < 3)) ∧ g' = g)) (fun (E : String) (g' : qHp) => ((E = xIO ∧ ¬ (0 ≤ l ∧ l < 3))) ∧ g' = g) := by
  refine q_meth (by decide +kernel) rfl (fun _ => (Nat.le_of_ble_eq_true rfl)) (fun X ω C => ?_)
  refine q_loc [(0, .ref (ω.1 0)), (1, .int (iI l))] ⟨rfl, rfl, trivial⟩ ?_
  refine q_iload_n C 1 dX5_requireLane_0 rfl rfl ?_
  refine q_iflt C 9 dX5_requireLane_1 (by decide) (by omega) (fun c1 => ?_) (fun c1 => ?_)
  · exact q_throwW C "java/lang/IndexOutOfBoundsException" "there is no such lane" rfl (by decide +kernel) tk_IndexOutOfBoundsException ti_IndexOutOfBoundsException (by decide +kernel) ta_IndexOutOfBoundsException tg_IndexOutOfBoundsException dX5_requireLane_9 dX5_requireLane_12 dX5_requireLane_13 dX5_requireLane_16 dX5_requireLane_19 (by decide) (Nat.le_of_ble_eq_true rfl) (by decide) ⟨⟨rfl, by omega⟩, rfl⟩
  · refine q_iload_n C 1 dX5_requireLane_4 rfl rfl ?_
    refine q_iconst C dX5_requireLane_5 ?_
    refine q_icmp_lt C 20 dX5_requireLane_6 (by decide) (by omega) (by omega) (fun c6 => ?_) (fun c6 => ?_)
    · exact q_retV C dX5_requireLane_20 (by decide) (⟨by omega, rfl⟩)
    · exact q_throwW C "java/lang/IndexOutOfBoundsException" "there is no such lane" rfl (by decide +kernel) tk_IndexOutOfBoundsException ti_IndexOutOfBoundsException (by decide +kernel) ta_IndexOutOfBoundsException tg_IndexOutOfBoundsException dX5_requireLane_9 dX5_requireLane_12 dX5_requireLane_13 dX5_requireLane_16 dX5_requireLane_19 (by decide) (Nat.le_of_ble_eq_true rfl) (by decide) ⟨⟨rfl, by omega⟩, rfl⟩
set_option maxRecDepth 20000 in
theorem KX5_requireAppointment (g : qHp) (a : Int) (ha : -2147483648 ≤ a ∧ a < 2147483648)  : qC yX5_requireAppointment (.code yX5_requireAppointment cX5_requireAppointment 2 none) 6 1 (fun ad => [.ref (ad 0), .int (iI a)]) g (qPv (fun g' : qHp => ((0 ≤ a ∧ a < g 18 4)) ∧ g' = g)) (fun (E : String) (g' : qHp) => ((E = xIO ∧ ¬ (0 ≤ a ∧ a < g 18 4))) ∧ g' = g) := by
  refine q_meth (by decide +kernel) rfl (fun _ => (Nat.le_of_ble_eq_true rfl)) (fun X ω C => ?_)
  refine q_loc [(0, .ref (ω.1 0)), (1, .int (iI a))] ⟨rfl, rfl, trivial⟩ ?_
  refine q_iload_n C 1 dX5_requireAppointment_0 rfl rfl ?_
  refine q_iflt C 15 dX5_requireAppointment_1 (by decide) (by omega) (fun c1 => ?_) (fun c1 => ?_)
  · exact q_throwW C "java/lang/IndexOutOfBoundsException" "there is no such appointment" rfl (by decide +kernel) tk_IndexOutOfBoundsException ti_IndexOutOfBoundsException (by decide +kernel) ta_IndexOutOfBoundsException tg_IndexOutOfBoundsException dX5_requireAppointment_15 dX5_requireAppointment_18 dX5_requireAppointment_19 dX5_requireAppointment_22 dX5_requireAppointment_25 (by decide) (Nat.le_of_ble_eq_true rfl) (by decide) ⟨⟨rfl, by omega⟩, rfl⟩
  · refine q_iload_n C 1 dX5_requireAppointment_4 rfl rfl ?_
    refine q_aload_n C 0 dX5_requireAppointment_5 rfl rfl ?_
    refine q_getr C (b := 0) 3 rfl (by decide) rfl in_X5 (by decide) fl_X5_37 rfl dX5_requireAppointment_6 ?_
    refine q_Vf0 C (KX1_count _) mX1_count ml_X5_208 dX5_requireAppointment_9 (by decide) (by decide) rfl rfl rfl (Nat.le_of_ble_eq_true rfl) rfl (by decide) rfl rfl (fun v9 l9 u9 h9 => ?_)
    refine q_icmp_lt C 26 dX5_requireAppointment_12 (by decide) (by omega) (by omega) (fun c12 => ?_) (fun c12 => ?_)
    · exact q_retV C dX5_requireAppointment_26 (by decide) (⟨by omega, rfl⟩)
    · exact q_throwW C "java/lang/IndexOutOfBoundsException" "there is no such appointment" rfl (by decide +kernel) tk_IndexOutOfBoundsException ti_IndexOutOfBoundsException (by decide +kernel) ta_IndexOutOfBoundsException tg_IndexOutOfBoundsException dX5_requireAppointment_15 dX5_requireAppointment_18 dX5_requireAppointment_19 dX5_requireAppointment_22 dX5_requireAppointment_25 (by decide) (Nat.le_of_ble_eq_true rfl) (by decide) ⟨⟨rfl, by omega⟩, rfl⟩
set_option maxRecDepth 20000 in
theorem KX5_addStack (g : qHp) (rc : Int) (hrc : -2147483648 ≤ rc ∧ rc < 2147483648)  : qC yX5_addStack (.code yX5_addStack cX5_addStack 2 (some .int)) 6 1 (fun ad => [.ref (ad 0), .int (iI rc)]) g (qPi (fun (r : Int) (g' : qHp) => ((1 ≤ rc ∧ rc ≤ 4) ∧ g 5 5 < 4 ∧ r = g 5 5) ∧ g' = (qUp (qUp g 5 5 (g 5 5 + 1)) 6 (g 5 5) rc))) (fun (E : String) (g' : qHp) => ((E = xIA ∧ ¬ (1 ≤ rc ∧ rc ≤ 4)) ∨ (E = xIS ∧ (1 ≤ rc ∧ rc ≤ 4) ∧ ¬ g 5 5 < 4)) ∧ g' = g) := by
  refine q_meth (by decide +kernel) rfl (fun _ => (Nat.le_of_ble_eq_true rfl)) (fun X ω C => ?_)
  refine q_loc [(0, .ref (ω.1 0)), (1, .int (iI rc))] ⟨rfl, rfl, trivial⟩ ?_
  refine q_iload_n C 1 dX5_addStack_0 rfl rfl ?_
  refine q_iconst C dX5_addStack_1 ?_
  refine q_icmp_lt C 10 dX5_addStack_2 (by decide) (by omega) (by omega) (fun c2 => ?_) (fun c2 => ?_)
  · exact q_throw C "java/lang/IllegalArgumentException" "the reach is not between 1 and 4" rfl (by decide +kernel) tk_IllegalArgumentException ti_IllegalArgumentException (by decide +kernel) ta_IllegalArgumentException tg_IllegalArgumentException dX5_addStack_10 dX5_addStack_13 dX5_addStack_14 dX5_addStack_16 dX5_addStack_19 (by decide) (Nat.le_of_ble_eq_true rfl) (by decide) ⟨Or.inl (⟨rfl, by omega⟩), rfl⟩
  · refine q_iload_n C 1 dX5_addStack_5 rfl rfl ?_
    refine q_iconst C dX5_addStack_6 ?_
    refine q_icmp_le C 20 dX5_addStack_7 (by decide) (by omega) (by omega) (fun c7 => ?_) (fun c7 => ?_)
    · refine q_aload_n C 0 dX5_addStack_20 rfl rfl ?_
      refine q_getr C (b := 0) 1 rfl (by decide) rfl in_X5 (by decide) fl_X5_21 rfl dX5_addStack_21 ?_
      refine q_Vf0 C (KX4_stackCount_5 _) mX4_stackCount ml_X5_48 dX5_addStack_24 (by decide) (by decide) rfl rfl rfl (Nat.le_of_ble_eq_true rfl) rfl (by decide) rfl rfl (fun v24 l24 u24 h24 => ?_)
      refine q_iconst C dX5_addStack_27 ?_
      refine q_icmp_lt C 41 dX5_addStack_28 (by decide) (by omega) (by omega) (fun c28 => ?_) (fun c28 => ?_)
      · refine q_aload_n C 0 dX5_addStack_41 rfl rfl ?_
        refine q_getr C (b := 0) 1 rfl (by decide) rfl in_X5 (by decide) fl_X5_21 rfl dX5_addStack_42 ?_
        refine q_iload_n C 1 dX5_addStack_45 rfl rfl ?_
        refine q_Vi0 C (KX4_openStack_5 _ _ (by omega) (by omega)) mX4_openStack ml_X5_57 dX5_addStack_46 (by decide) (by decide) rfl rfl rfl (Nat.le_of_ble_eq_true rfl) rfl (by decide) rfl rfl (fun v46 g46 l46 u46 h46 => ?_)
        obtain ⟨h46, h46g⟩ := h46
        rw [if_pos (by omega)] at h46g
        exact q_iretI C dX5_addStack_49 (by omega) (by decide) ⟨⟨by omega, by omega, by omega⟩, h46g⟩
      · exact q_throw C "java/lang/IllegalStateException" "there are 4 stacks" rfl (by decide +kernel) tk_IllegalStateException ti_IllegalStateException (by decide +kernel) ta_IllegalStateException tg_IllegalStateException dX5_addStack_31 dX5_addStack_34 dX5_addStack_35 dX5_addStack_37 dX5_addStack_40 (by decide) (Nat.le_of_ble_eq_true rfl) (by decide) ⟨Or.inr (⟨rfl, ⟨by omega, by omega⟩⟩), rfl⟩
    · exact q_throw C "java/lang/IllegalArgumentException" "the reach is not between 1 and 4" rfl (by decide +kernel) tk_IllegalArgumentException ti_IllegalArgumentException (by decide +kernel) ta_IllegalArgumentException tg_IllegalArgumentException dX5_addStack_10 dX5_addStack_13 dX5_addStack_14 dX5_addStack_16 dX5_addStack_19 (by decide) (Nat.le_of_ble_eq_true rfl) (by decide) ⟨Or.inl (⟨rfl, by omega⟩), rfl⟩
set_option maxRecDepth 20000 in
theorem KX5_addBox (g : qHp) (w : Int) (hw : -2147483648 ≤ w ∧ w < 2147483648) (s : Int) (hs : -2147483648 ≤ s ∧ s < 2147483648)  : qC yX5_addBox (.code yX5_addBox cX5_addBox 4 (some .int)) 7 2 (fun ad => [.ref (ad 0), .int (iI w), .int (iI s)]) g (qPi (fun (r : Int) (g' : qHp) => isS g s ∧ (1 ≤ w ∧ w ≤ 30) ∧ (g 7 s < g 6 s ∧ yBears g (g 5 5) (g 7) (g 8) s w) ∧ (g 5 6 < 8 ∧ g 1 3 < 20) ∧ r = g 1 3 ∧ g' = (qUp (qUp (qUp (qUp (qUp (qUp (qUp (qUp g 1 3 (g 1 3 + 1)) 2 (g 1 3) w) 3 (g 1 3) 45) 4 (g 1 3) 0) 8 (s * 4 + g 7 s) (g 1 3)) 7 s (g 7 s + 1)) 9 (g 1 3) s) 5 6 (w32 (g 5 6 + 1))))) (fun (E : String) (g' : qHp) => ((E = xIO ∧ ¬ isS g s) ∨ (E = xIA ∧ isS g s ∧ ¬ (1 ≤ w ∧ w ≤ 30)) ∨ (E = xUO ∧ isS g s ∧ (1 ≤ w ∧ w ≤ 30) ∧ ¬ (g 7 s < g 6 s ∧ yBears g (g 5 5) (g 7) (g 8) s w)) ∨ (E = xIS ∧ isS g s ∧ (1 ≤ w ∧ w ≤ 30) ∧ (g 7 s < g 6 s ∧ yBears g (g 5 5) (g 7) (g 8) s w) ∧ ¬ (g 5 6 < 8 ∧ g 1 3 < 20))) ∧ g' = g) := by
  refine q_meth (by decide +kernel) rfl (fun _ => (Nat.le_of_ble_eq_true rfl)) (fun X ω C => ?_)
  refine q_nm (fun hn => ?_)
  have r1_3 : 0 ≤ g 1 3 ∧ g 1 3 ≤ 20 := hn 1 3
  have r5_5 : 0 ≤ g 5 5 ∧ g 5 5 ≤ 4 := hn 5 5
  refine q_loc [(0, .ref (ω.1 0)), (1, .int (iI w)), (2, .int (iI s))] ⟨rfl, rfl, rfl, trivial⟩ ?_
  refine q_aload_n C 0 dX5_addBox_0 rfl rfl ?_
  refine q_iload_n C 2 dX5_addBox_1 rfl rfl ?_
  refine q_VvX C (KX5_requireStack _ _ (by omega)) mX5_requireStack ml_X5_61 dX5_addBox_2 (by decide) (by decide) rfl rfl rfl (Nat.le_of_ble_eq_true rfl) rfl (by decide) rfl rfl (fun E g' h => ⟨Or.inl (⟨h.1.1, h.1.2⟩), h.2⟩) (fun h2 => ?_)
  refine q_iload_n C 1 dX5_addBox_5 rfl rfl ?_
  refine q_iconst C dX5_addBox_6 ?_
  refine q_icmp_lt C 16 dX5_addBox_7 (by decide) (by omega) (by omega) (fun c7 => ?_) (fun c7 => ?_)
  · exact q_throw C "java/lang/IllegalArgumentException" "the weight is not between 1 and 30" rfl (by decide +kernel) tk_IllegalArgumentException ti_IllegalArgumentException (by decide +kernel) ta_IllegalArgumentException tg_IllegalArgumentException dX5_addBox_16 dX5_addBox_19 dX5_addBox_20 dX5_addBox_22 dX5_addBox_25 (by decide) (Nat.le_of_ble_eq_true rfl) (by decide) ⟨Or.inr (Or.inl (⟨rfl, ⟨h2, by omega⟩⟩)), rfl⟩
  · refine q_iload_n C 1 dX5_addBox_10 rfl rfl ?_
    refine q_bipush C dX5_addBox_11 (by decide +kernel) ?_
    refine q_icmp_le C 26 dX5_addBox_13 (by decide) (by omega) (by omega) (fun c13 => ?_) (fun c13 => ?_)
    · refine q_aload_n C 0 dX5_addBox_26 rfl rfl ?_
      refine q_getr C (b := 0) 1 rfl (by decide) rfl in_X5 (by decide) fl_X5_21 rfl dX5_addBox_27 ?_
      refine q_iload_n C 2 dX5_addBox_30 rfl rfl ?_
      refine q_Vf0 C (KX4_isFull_5 _ _ (by omega)) mX4_isFull ml_X5_67 dX5_addBox_31 (by decide) (by decide) rfl rfl rfl (Nat.le_of_ble_eq_true rfl) rfl (by decide) rfl rfl (fun v31 l31 u31 h31 => ?_)
      refine q_ifne C 49 dX5_addBox_34 (by decide) (by omega) (fun c34 => ?_) (fun c34 => ?_)
      · exact q_throw C "java/lang/UnsupportedOperationException" "the box cannot be put onto the stack" rfl (by decide +kernel) tk_UnsupportedOperationException ti_UnsupportedOperationException (by decide +kernel) ta_UnsupportedOperationException tg_UnsupportedOperationException dX5_addBox_49 dX5_addBox_52 dX5_addBox_53 dX5_addBox_55 dX5_addBox_58 (by decide) (Nat.le_of_ble_eq_true rfl) (by decide) ⟨Or.inr (Or.inr (Or.inl (⟨rfl, ⟨h2, by omega, fun q => by first | (rcases h31 with ⟨z, z2⟩ | ⟨z, z2⟩; (· omega); (· omega)) | (rcases h43 with ⟨z, z2⟩ | ⟨z, z2⟩; (· omega); (· exact z q.2))⟩⟩))), rfl⟩
      · refine q_aload_n C 0 dX5_addBox_37 rfl rfl ?_
        refine q_getr C (b := 0) 1 rfl (by decide) rfl in_X5 (by decide) fl_X5_21 rfl dX5_addBox_38 ?_
        refine q_iload_n C 2 dX5_addBox_41 rfl rfl ?_
        refine q_iload_n C 1 dX5_addBox_42 rfl rfl ?_
        refine q_Vf0 C (KX4_bears_5 _ _ (by omega) _ (by omega)) mX4_bears ml_X5_71 dX5_addBox_43 (by decide) (by decide) rfl rfl rfl (Nat.le_of_ble_eq_true rfl) rfl (by decide) rfl rfl (fun v43 l43 u43 h43 => ?_)
        refine q_ifne C 59 dX5_addBox_46 (by decide) (by omega) (fun c46 => ?_) (fun c46 => ?_)
        · refine q_aload_n C 0 dX5_addBox_59 rfl rfl ?_
          have hc3 : (g 7 s < g 6 s ∧ yBears g (g 5 5) (g 7) (g 8) s w) := ⟨by omega, by rcases h43 with ⟨z, z2⟩ | ⟨z, z2⟩; (· exact z); (· omega)⟩
          refine q_getr C (b := 0) 1 rfl (by decide) rfl in_X5 (by decide) fl_X5_21 rfl dX5_addBox_60 ?_
          refine q_Vf0 C (KX4_boxCount_5 _) mX4_boxCount ml_X5_80 dX5_addBox_63 (by decide) (by decide) rfl rfl rfl (Nat.le_of_ble_eq_true rfl) rfl (by decide) rfl rfl (fun v63 l63 u63 h63 => ?_)
          refine q_bipush C dX5_addBox_66 (by decide +kernel) ?_
          refine q_icmp_ge C 83 dX5_addBox_68 (by decide) (by omega) (by omega) (fun c68 => ?_) (fun c68 => ?_)
          · exact q_throw C "java/lang/IllegalStateException" "8 boxes are in the yard, or 20 have come" rfl (by decide +kernel) tk_IllegalStateException ti_IllegalStateException (by decide +kernel) ta_IllegalStateException tg_IllegalStateException dX5_addBox_83 dX5_addBox_86 dX5_addBox_87 dX5_addBox_89 dX5_addBox_92 (by decide) (Nat.le_of_ble_eq_true rfl) (by decide) ⟨Or.inr (Or.inr (Or.inr (⟨rfl, ⟨h2, by omega, hc3, by omega⟩⟩))), rfl⟩
          · refine q_aload_n C 0 dX5_addBox_71 rfl rfl ?_
            refine q_getr C (b := 0) 0 rfl (by decide) rfl in_X5 (by decide) fl_X5_15 rfl dX5_addBox_72 ?_
            refine q_Vf0 C (KX0_come _) mX0_come ml_X5_83 dX5_addBox_75 (by decide) (by decide) rfl rfl rfl (Nat.le_of_ble_eq_true rfl) rfl (by decide) rfl rfl (fun v75 l75 u75 h75 => ?_)
            refine q_bipush C dX5_addBox_78 (by decide +kernel) ?_
            refine q_icmp_lt C 93 dX5_addBox_80 (by decide) (by omega) (by omega) (fun c80 => ?_) (fun c80 => ?_)
            · refine q_aload_n C 0 dX5_addBox_93 rfl rfl ?_
              refine q_getr C (b := 0) 0 rfl (by decide) rfl in_X5 (by decide) fl_X5_15 rfl dX5_addBox_94 ?_
              refine q_iload_n C 1 dX5_addBox_97 rfl rfl ?_
              refine q_Vi0 C (KX0_register _ _ (by omega) (by omega)) mX0_register ml_X5_88 dX5_addBox_98 (by decide) (by decide) rfl rfl rfl (Nat.le_of_ble_eq_true rfl) rfl (by decide) rfl rfl (fun v98 g98 l98 u98 h98 => ?_)
              obtain ⟨h98, h98g⟩ := h98
              rw [if_pos (by omega)] at h98g
              subst h98g
              refine q_istoreV_n C 3 dX5_addBox_101 rfl (by decide) (fun v101 e101 => ?_)
              refine q_aload_n C 0 dX5_addBox_102 rfl rfl ?_
              have k5 : (qUp (qUp (qUp (qUp g 1 3 (g 1 3 + 1)) 2 (g 1 3) w) 3 (g 1 3) 45) 4 (g 1 3) 0) 5 5 = g 5 5 := by rw [qUp_k (by decide), qUp_k (by decide), qUp_k (by decide), qUp_k (by decide)]
              have k56 : (qUp (qUp (qUp (qUp g 1 3 (g 1 3 + 1)) 2 (g 1 3) w) 3 (g 1 3) 45) 4 (g 1 3) 0) 5 6 = g 5 6 := by rw [qUp_k (by decide), qUp_k (by decide), qUp_k (by decide), qUp_k (by decide)]
              have k7 : (qUp (qUp (qUp (qUp g 1 3 (g 1 3 + 1)) 2 (g 1 3) w) 3 (g 1 3) 45) 4 (g 1 3) 0) 7 s = g 7 s := by rw [qUp_k (by decide), qUp_k (by decide), qUp_k (by decide), qUp_k (by decide)]
              have k6 : (qUp (qUp (qUp (qUp g 1 3 (g 1 3 + 1)) 2 (g 1 3) w) 3 (g 1 3) 45) 4 (g 1 3) 0) 6 s = g 6 s := by rw [qUp_k (by decide), qUp_k (by decide), qUp_k (by decide), qUp_k (by decide)]
              refine q_getr C (b := 0) 1 rfl (by decide) rfl in_X5 (by decide) fl_X5_21 rfl dX5_addBox_103 ?_
              refine q_iload_n C 3 dX5_addBox_106 rfl rfl ?_
              refine q_iload_n C 2 dX5_addBox_107 rfl rfl ?_
              refine q_Vv0 C (KX4_put_5 _ _ (by omega) _ (by omega) (by omega) (by rw [k5, k7, k6]; omega)) mX4_put ml_X5_91 dX5_addBox_108 (by decide) (by decide) rfl rfl rfl (Nat.le_of_ble_eq_true rfl) rfl (by decide) rfl rfl ?_
              refine q_iload_n C 3 dX5_addBox_111 rfl rfl ?_
              have q : v101 = g 1 3 := by omega
              exact q_iretI C dX5_addBox_112 (by omega) (by decide) ⟨h2, by omega, hc3, by omega, q, by rw [k7, k56, q]⟩
            · exact q_throw C "java/lang/IllegalStateException" "8 boxes are in the yard, or 20 have come" rfl (by decide +kernel) tk_IllegalStateException ti_IllegalStateException (by decide +kernel) ta_IllegalStateException tg_IllegalStateException dX5_addBox_83 dX5_addBox_86 dX5_addBox_87 dX5_addBox_89 dX5_addBox_92 (by decide) (Nat.le_of_ble_eq_true rfl) (by decide) ⟨Or.inr (Or.inr (Or.inr (⟨rfl, ⟨h2, by omega, hc3, by omega⟩⟩))), rfl⟩
        · exact q_throw C "java/lang/UnsupportedOperationException" "the box cannot be put onto the stack" rfl (by decide +kernel) tk_UnsupportedOperationException ti_UnsupportedOperationException (by decide +kernel) ta_UnsupportedOperationException tg_UnsupportedOperationException dX5_addBox_49 dX5_addBox_52 dX5_addBox_53 dX5_addBox_55 dX5_addBox_58 (by decide) (Nat.le_of_ble_eq_true rfl) (by decide) ⟨Or.inr (Or.inr (Or.inl (⟨rfl, ⟨h2, by omega, fun q => by first | (rcases h31 with ⟨z, z2⟩ | ⟨z, z2⟩; (· omega); (· omega)) | (rcases h43 with ⟨z, z2⟩ | ⟨z, z2⟩; (· omega); (· exact z q.2))⟩⟩))), rfl⟩
    · exact q_throw C "java/lang/IllegalArgumentException" "the weight is not between 1 and 30" rfl (by decide +kernel) tk_IllegalArgumentException ti_IllegalArgumentException (by decide +kernel) ta_IllegalArgumentException tg_IllegalArgumentException dX5_addBox_16 dX5_addBox_19 dX5_addBox_20 dX5_addBox_22 dX5_addBox_25 (by decide) (Nat.le_of_ble_eq_true rfl) (by decide) ⟨Or.inr (Or.inl (⟨rfl, ⟨h2, by omega⟩⟩)), rfl⟩
set_option maxRecDepth 20000 in
theorem KX5_boxes (g : qHp)  : qC yX5_boxes (.code yX5_boxes cX5_boxes 1 (some .int)) 1 0 (fun ad => [.ref (ad 0)]) g (qPi (fun (r : Int) (g' : qHp) => (r = g 5 6) ∧ g' = g)) qNo := by
  refine q_meth (by decide +kernel) rfl (fun _ => (Nat.le_of_ble_eq_true rfl)) (fun X ω C => ?_)
  refine q_loc [(0, .ref (ω.1 0))] ⟨rfl, trivial⟩ ?_
  refine q_aload_n C 0 dX5_boxes_0 rfl rfl ?_
  refine q_getr C (b := 0) 1 rfl (by decide) rfl in_X5 (by decide) fl_X5_21 rfl dX5_boxes_1 ?_
  refine q_Vf0 C (KX4_boxCount_5 _) mX4_boxCount ml_X5_80 dX5_boxes_4 (by decide) (by decide) rfl rfl rfl (Nat.le_of_ble_eq_true rfl) rfl (by decide) rfl rfl (fun v4 l4 u4 h4 => ?_)
  exact q_iretI C dX5_boxes_7 (by omega) (by decide) (⟨by omega, rfl⟩)
set_option maxRecDepth 20000 in
theorem KX5_isInYard (g : qHp) (x : Int) (hx : -2147483648 ≤ x ∧ x < 2147483648)  : qC yX5_isInYard (.code yX5_isInYard cX5_isInYard 2 (some .boolean)) 1 0 (fun ad => [.ref (ad 0), .int (iI x)]) g (qPi (fun (r : Int) (g' : qHp) => ((inY g x ∧ r = 1) ∨ (¬ inY g x ∧ r = 0)) ∧ g' = g)) qNo := by
  refine q_meth (by decide +kernel) rfl (fun _ => (Nat.le_of_ble_eq_true rfl)) (fun X ω C => ?_)
  refine q_loc [(0, .ref (ω.1 0)), (1, .int (iI x))] ⟨rfl, rfl, trivial⟩ ?_
  refine q_aload_n C 0 dX5_isInYard_0 rfl rfl ?_
  refine q_getr C (b := 0) 1 rfl (by decide) rfl in_X5 (by decide) fl_X5_21 rfl dX5_isInYard_1 ?_
  refine q_iload_n C 1 dX5_isInYard_4 rfl rfl ?_
  refine q_Vf0 C (KX4_stackWith_5 _ _ (by omega)) mX4_stackWith ml_X5_95 dX5_isInYard_5 (by decide) (by decide) rfl rfl rfl (Nat.le_of_ble_eq_true rfl) rfl (by decide) rfl rfl (fun v5 l5 u5 h5 => ?_)
  refine q_iconst C dX5_isInYard_8 ?_
  refine q_icmp_eq C 16 dX5_isInYard_9 (by decide) (by omega) (by omega) (fun c9 => ?_) (fun c9 => ?_)
  · refine q_iconst C dX5_isInYard_16 ?_
    exact q_iretZ C dX5_isInYard_17 (by omega) (by decide) (⟨by omega, rfl⟩)
  · refine q_iconst C dX5_isInYard_12 ?_
    refine q_goto C 17 dX5_isInYard_13 (by decide) ?_
    exact q_iretZ C dX5_isInYard_17 (by omega) (by decide) (⟨by omega, rfl⟩)
set_option maxRecDepth 20000 in
theorem KX5_weight (g : qHp) (x : Int) (hx : -2147483648 ≤ x ∧ x < 2147483648)  : qC yX5_weight (.code yX5_weight cX5_weight 2 (some .int)) 7 1 (fun ad => [.ref (ad 0), .int (iI x)]) g (qPi (fun (r : Int) (g' : qHp) => (inY g x ∧ r = cGet (g 1 3) (g 2) 0 x) ∧ g' = g)) (fun (E : String) (g' : qHp) => ((E = xIO ∧ ¬ inY g x)) ∧ g' = g) := by
  refine q_meth (by decide +kernel) rfl (fun _ => (Nat.le_of_ble_eq_true rfl)) (fun X ω C => ?_)
  refine q_loc [(0, .ref (ω.1 0)), (1, .int (iI x))] ⟨rfl, rfl, trivial⟩ ?_
  refine q_aload_n C 0 dX5_weight_0 rfl rfl ?_
  refine q_iload_n C 1 dX5_weight_1 rfl rfl ?_
  refine q_VvX C (KX5_requireBox _ _ (by omega)) mX5_requireBox ml_X5_98 dX5_weight_2 (by decide) (by decide) rfl rfl rfl (Nat.le_of_ble_eq_true rfl) rfl (by decide) rfl rfl (fun E g' h => ⟨⟨h.1.1, h.1.2⟩, h.2⟩) (fun h2 => ?_)
  refine q_aload_n C 0 dX5_weight_5 rfl rfl ?_
  refine q_getr C (b := 0) 0 rfl (by decide) rfl in_X5 (by decide) fl_X5_15 rfl dX5_weight_6 ?_
  refine q_iload_n C 1 dX5_weight_9 rfl rfl ?_
  refine q_Vf0 C (KX0_weightOf _ _ (by omega)) mX0_weightOf ml_X5_101 dX5_weight_10 (by decide) (by decide) rfl rfl rfl (Nat.le_of_ble_eq_true rfl) rfl (by decide) rfl rfl (fun v10 l10 u10 h10 => ?_)
  exact q_iretI C dX5_weight_13 (by omega) (by decide) (⟨⟨h2, by omega⟩, rfl⟩)
set_option maxRecDepth 20000 in
theorem KX5_stackOf (g : qHp) (x : Int) (hx : -2147483648 ≤ x ∧ x < 2147483648)  : qC yX5_stackOf (.code yX5_stackOf cX5_stackOf 2 (some .int)) 7 1 (fun ad => [.ref (ad 0), .int (iI x)]) g (qPi (fun (r : Int) (g' : qHp) => (inY g x ∧ r = ySt (g 9) x) ∧ g' = g)) (fun (E : String) (g' : qHp) => ((E = xIO ∧ ¬ inY g x)) ∧ g' = g) := by
  refine q_meth (by decide +kernel) rfl (fun _ => (Nat.le_of_ble_eq_true rfl)) (fun X ω C => ?_)
  refine q_loc [(0, .ref (ω.1 0)), (1, .int (iI x))] ⟨rfl, rfl, trivial⟩ ?_
  refine q_aload_n C 0 dX5_stackOf_0 rfl rfl ?_
  refine q_iload_n C 1 dX5_stackOf_1 rfl rfl ?_
  refine q_VvX C (KX5_requireBox _ _ (by omega)) mX5_requireBox ml_X5_98 dX5_stackOf_2 (by decide) (by decide) rfl rfl rfl (Nat.le_of_ble_eq_true rfl) rfl (by decide) rfl rfl (fun E g' h => ⟨⟨h.1.1, h.1.2⟩, h.2⟩) (fun h2 => ?_)
  refine q_aload_n C 0 dX5_stackOf_5 rfl rfl ?_
  refine q_getr C (b := 0) 1 rfl (by decide) rfl in_X5 (by decide) fl_X5_21 rfl dX5_stackOf_6 ?_
  refine q_iload_n C 1 dX5_stackOf_9 rfl rfl ?_
  refine q_Vf0 C (KX4_stackWith_5 _ _ (by omega)) mX4_stackWith ml_X5_95 dX5_stackOf_10 (by decide) (by decide) rfl rfl rfl (Nat.le_of_ble_eq_true rfl) rfl (by decide) rfl rfl (fun v10 l10 u10 h10 => ?_)
  exact q_iretI C dX5_stackOf_13 (by omega) (by decide) (⟨⟨h2, by omega⟩, rfl⟩)
set_option maxRecDepth 20000 in
theorem KX5_level (g : qHp) (x : Int) (hx : -2147483648 ≤ x ∧ x < 2147483648)  : qC yX5_level (.code yX5_level cX5_level 2 (some .int)) 7 1 (fun ad => [.ref (ad 0), .int (iI x)]) g (qPi (fun (r : Int) (g' : qHp) => (inY g x ∧ r = yUnd (g 5 5) (g 7) (g 8) (g 9) x) ∧ g' = g)) (fun (E : String) (g' : qHp) => ((E = xIO ∧ ¬ inY g x)) ∧ g' = g) := by
  refine q_meth (by decide +kernel) rfl (fun _ => (Nat.le_of_ble_eq_true rfl)) (fun X ω C => ?_)
  refine q_loc [(0, .ref (ω.1 0)), (1, .int (iI x))] ⟨rfl, rfl, trivial⟩ ?_
  refine q_aload_n C 0 dX5_level_0 rfl rfl ?_
  refine q_iload_n C 1 dX5_level_1 rfl rfl ?_
  refine q_VvX C (KX5_requireBox _ _ (by omega)) mX5_requireBox ml_X5_98 dX5_level_2 (by decide) (by decide) rfl rfl rfl (Nat.le_of_ble_eq_true rfl) rfl (by decide) rfl rfl (fun E g' h => ⟨⟨h.1.1, h.1.2⟩, h.2⟩) (fun h2 => ?_)
  refine q_aload_n C 0 dX5_level_5 rfl rfl ?_
  refine q_getr C (b := 0) 1 rfl (by decide) rfl in_X5 (by decide) fl_X5_21 rfl dX5_level_6 ?_
  refine q_iload_n C 1 dX5_level_9 rfl rfl ?_
  refine q_Vf0 C (KX4_boxesUnder_5 _ _ (by omega)) mX4_boxesUnder ml_X5_104 dX5_level_10 (by decide) (by decide) rfl rfl rfl (Nat.le_of_ble_eq_true rfl) rfl (by decide) rfl rfl (fun v10 l10 u10 h10 => ?_)
  exact q_iretI C dX5_level_13 (by omega) (by decide) (⟨⟨h2, h10.1⟩, rfl⟩)
set_option maxRecDepth 20000 in
theorem KX5_above (g : qHp) (x : Int) (hx : -2147483648 ≤ x ∧ x < 2147483648)  : qC yX5_above (.code yX5_above cX5_above 2 (some .int)) 7 1 (fun ad => [.ref (ad 0), .int (iI x)]) g (qPi (fun (r : Int) (g' : qHp) => (inY g x ∧ r = yOvr (g 5 5) (g 7) (g 8) (g 9) x) ∧ g' = g)) (fun (E : String) (g' : qHp) => ((E = xIO ∧ ¬ inY g x)) ∧ g' = g) := by
  refine q_meth (by decide +kernel) rfl (fun _ => (Nat.le_of_ble_eq_true rfl)) (fun X ω C => ?_)
  refine q_loc [(0, .ref (ω.1 0)), (1, .int (iI x))] ⟨rfl, rfl, trivial⟩ ?_
  refine q_aload_n C 0 dX5_above_0 rfl rfl ?_
  refine q_iload_n C 1 dX5_above_1 rfl rfl ?_
  refine q_VvX C (KX5_requireBox _ _ (by omega)) mX5_requireBox ml_X5_98 dX5_above_2 (by decide) (by decide) rfl rfl rfl (Nat.le_of_ble_eq_true rfl) rfl (by decide) rfl rfl (fun E g' h => ⟨⟨h.1.1, h.1.2⟩, h.2⟩) (fun h2 => ?_)
  refine q_aload_n C 0 dX5_above_5 rfl rfl ?_
  refine q_getr C (b := 0) 1 rfl (by decide) rfl in_X5 (by decide) fl_X5_21 rfl dX5_above_6 ?_
  refine q_iload_n C 1 dX5_above_9 rfl rfl ?_
  refine q_Vf0 C (KX4_boxesOver_5 _ _ (by omega)) mX4_boxesOver ml_X5_107 dX5_above_10 (by decide) (by decide) rfl rfl rfl (Nat.le_of_ble_eq_true rfl) rfl (by decide) rfl rfl (fun v10 l10 u10 h10 => ?_)
  exact q_iretI C dX5_above_13 (by omega) (by decide) (⟨⟨h2, h10.1⟩, rfl⟩)
set_option maxRecDepth 20000 in
theorem KX5_height (g : qHp) (s : Int) (hs : -2147483648 ≤ s ∧ s < 2147483648)  : qC yX5_height (.code yX5_height cX5_height 2 (some .int)) 7 1 (fun ad => [.ref (ad 0), .int (iI s)]) g (qPi (fun (r : Int) (g' : qHp) => (isS g s ∧ r = yHt (g 5 5) (g 7) s) ∧ g' = g)) (fun (E : String) (g' : qHp) => ((E = xIO ∧ ¬ isS g s)) ∧ g' = g) := by
  refine q_meth (by decide +kernel) rfl (fun _ => (Nat.le_of_ble_eq_true rfl)) (fun X ω C => ?_)
  refine q_loc [(0, .ref (ω.1 0)), (1, .int (iI s))] ⟨rfl, rfl, trivial⟩ ?_
  refine q_aload_n C 0 dX5_height_0 rfl rfl ?_
  refine q_iload_n C 1 dX5_height_1 rfl rfl ?_
  refine q_VvX C (KX5_requireStack _ _ (by omega)) mX5_requireStack ml_X5_61 dX5_height_2 (by decide) (by decide) rfl rfl rfl (Nat.le_of_ble_eq_true rfl) rfl (by decide) rfl rfl (fun E g' h => ⟨⟨h.1.1, h.1.2⟩, h.2⟩) (fun h2 => ?_)
  refine q_aload_n C 0 dX5_height_5 rfl rfl ?_
  refine q_getr C (b := 0) 1 rfl (by decide) rfl in_X5 (by decide) fl_X5_21 rfl dX5_height_6 ?_
  refine q_iload_n C 1 dX5_height_9 rfl rfl ?_
  refine q_Vf0 C (KX4_heightOf_5 _ _ (by omega)) mX4_heightOf ml_X5_110 dX5_height_10 (by decide) (by decide) rfl rfl rfl (Nat.le_of_ble_eq_true rfl) rfl (by decide) rfl rfl (fun v10 l10 u10 h10 => ?_)
  exact q_iretI C dX5_height_13 (by omega) (by decide) (⟨⟨h2, by omega⟩, rfl⟩)
set_option maxRecDepth 20000 in
theorem KX5_boxAt (g : qHp) (s : Int) (hs : -2147483648 ≤ s ∧ s < 2147483648) (k : Int) (hk : -2147483648 ≤ k ∧ k < 2147483648)  : qC yX5_boxAt (.code yX5_boxAt cX5_boxAt 4 (some .int)) 7 2 (fun ad => [.ref (ad 0), .int (iI s), .int (iI k)]) g (qPi (fun (r : Int) (g' : qHp) => (isS g s ∧ yAt (g 5 5) (g 7) (g 8) s k ≠ -1 ∧ r = yAt (g 5 5) (g 7) (g 8) s k) ∧ g' = g)) (fun (E : String) (g' : qHp) => ((E = xIO ∧ ¬ isS g s) ∨ (E = xNS ∧ isS g s ∧ yAt (g 5 5) (g 7) (g 8) s k = -1)) ∧ g' = g) := by
  refine q_meth (by decide +kernel) rfl (fun _ => (Nat.le_of_ble_eq_true rfl)) (fun X ω C => ?_)
  refine q_loc [(0, .ref (ω.1 0)), (1, .int (iI s)), (2, .int (iI k))] ⟨rfl, rfl, rfl, trivial⟩ ?_
  refine q_aload_n C 0 dX5_boxAt_0 rfl rfl ?_
  refine q_iload_n C 1 dX5_boxAt_1 rfl rfl ?_
  refine q_VvX C (KX5_requireStack _ _ (by omega)) mX5_requireStack ml_X5_61 dX5_boxAt_2 (by decide) (by decide) rfl rfl rfl (Nat.le_of_ble_eq_true rfl) rfl (by decide) rfl rfl (fun E g' h => ⟨Or.inl (⟨h.1.1, h.1.2⟩), h.2⟩) (fun h2 => ?_)
  refine q_aload_n C 0 dX5_boxAt_5 rfl rfl ?_
  refine q_getr C (b := 0) 1 rfl (by decide) rfl in_X5 (by decide) fl_X5_21 rfl dX5_boxAt_6 ?_
  refine q_iload_n C 1 dX5_boxAt_9 rfl rfl ?_
  refine q_iload_n C 2 dX5_boxAt_10 rfl rfl ?_
  refine q_Vf0 C (KX4_boxOn_5 _ _ (by omega) _ (by omega)) mX4_boxOn ml_X5_113 dX5_boxAt_11 (by decide) (by decide) rfl rfl rfl (Nat.le_of_ble_eq_true rfl) rfl (by decide) rfl rfl (fun v11 l11 u11 h11 => ?_)
  refine q_istoreV_n C 3 dX5_boxAt_14 rfl (by decide) (fun v14 e14 => ?_)
  refine q_iload_n C 3 dX5_boxAt_15 rfl rfl ?_
  refine q_iconst C dX5_boxAt_16 ?_
  refine q_icmp_ne C 30 dX5_boxAt_17 (by decide) (by omega) (by omega) (fun c17 => ?_) (fun c17 => ?_)
  · refine q_iload_n C 3 dX5_boxAt_30 rfl rfl ?_
    subst e14
    exact q_iretI C dX5_boxAt_31 (by omega) (by decide) (⟨⟨h2, by omega, by omega⟩, rfl⟩)
  · exact q_throwN C "there is no box at this level" rfl (by decide +kernel) dX5_boxAt_20 dX5_boxAt_23 dX5_boxAt_24 dX5_boxAt_26 dX5_boxAt_29 (by decide) (Nat.le_of_ble_eq_true rfl) (by decide) ⟨Or.inr (⟨rfl, ⟨h2, by omega⟩⟩), rfl⟩
set_option maxRecDepth 20000 in
theorem KX5_giveBackIfHeld (g : qHp) (x : Int) (hx : -2147483648 ≤ x ∧ x < 2147483648)  : qC yX5_giveBackIfHeld (.code yX5_giveBackIfHeld cX5_giveBackIfHeld 3 (some .boolean)) 3 0 (fun ad => [.ref (ad 0), .int (iI x)]) g (qPi (fun (r : Int) (g' : qHp) => ((fstB (bkB g x) (g 18 4) = -1 ∨ ¬ hlI g x (g 20 (fstB (bkB g x) (g 18 4)))) ∧ r = 0 ∧ g' = g) ∨ (fstB (bkB g x) (g 18 4) ≠ -1 ∧ hlI g x (g 20 (fstB (bkB g x) (g 18 4))) ∧ r = 1 ∧ g' = qUp g 22 (fstB (bkB g x) (g 18 4)) 103))) qNo := by
  refine q_meth (by decide +kernel) rfl (fun _ => (Nat.le_of_ble_eq_true rfl)) (fun X ω C => ?_)
  refine q_loc [(0, .ref (ω.1 0)), (1, .int (iI x))] ⟨rfl, rfl, trivial⟩ ?_
  refine q_aload_n C 0 dX5_giveBackIfHeld_0 rfl rfl ?_
  refine q_getr C (b := 0) 3 rfl (by decide) rfl in_X5 (by decide) fl_X5_37 rfl dX5_giveBackIfHeld_1 ?_
  refine q_iload_n C 1 dX5_giveBackIfHeld_4 rfl rfl ?_
  refine q_Vf0 C (KX1_bookedFor _ _ (by omega)) mX1_bookedFor ml_X5_200 dX5_giveBackIfHeld_5 (by decide) (by decide) rfl rfl rfl (Nat.le_of_ble_eq_true rfl) rfl (by decide) rfl rfl (fun v5 l5 u5 h5 => ?_)
  refine q_istoreV_n C 2 dX5_giveBackIfHeld_8 rfl (by decide) (fun v8 e8 => ?_)
  refine q_iload_n C 2 dX5_giveBackIfHeld_9 rfl rfl ?_
  refine q_iconst C dX5_giveBackIfHeld_10 ?_
  have hbr := fstB_rng (bkB g x) (g 18 4)
  rw [← h5, ← e8] at hbr
  refine q_icmp_eq C 33 dX5_giveBackIfHeld_11 (by decide) (by omega) (by omega) (fun c11 => ?_) (fun c11 => ?_)
  · refine q_iconst C dX5_giveBackIfHeld_33 ?_
    rw [← h5, ← e8]
    refine q_iretZ C dX5_giveBackIfHeld_34 (by omega) (by decide) (Or.inl ⟨?_, rfl, rfl⟩)
    first
      | exact Or.inl (by omega)
      | (refine Or.inr (fun q => ?_)
         have e24 : v24 = g 20 v8 := by omega
         rw [← e24] at q
         rcases h27 with ⟨z, z2⟩ | ⟨z, z2⟩
         · omega
         · exact z q)
  · refine q_aload_n C 0 dX5_giveBackIfHeld_14 rfl rfl ?_
    refine q_getr C (b := 0) 0 rfl (by decide) rfl in_X5 (by decide) fl_X5_15 rfl dX5_giveBackIfHeld_15 ?_
    refine q_iload_n C 1 dX5_giveBackIfHeld_18 rfl rfl ?_
    refine q_aload_n C 0 dX5_giveBackIfHeld_19 rfl rfl ?_
    refine q_getr C (b := 0) 3 rfl (by decide) rfl in_X5 (by decide) fl_X5_37 rfl dX5_giveBackIfHeld_20 ?_
    refine q_iload_n C 2 dX5_giveBackIfHeld_23 rfl rfl ?_
    refine q_Vf0 C (KX1_hourOf _ _ (by omega)) mX1_hourOf ml_X5_277 dX5_giveBackIfHeld_24 (by decide) (by decide) rfl rfl rfl (Nat.le_of_ble_eq_true rfl) rfl (by decide) rfl rfl (fun v24 l24 u24 h24 => ?_)
    refine q_Vf0 C (KX0_isHeldIn _ _ (by omega) _ (by omega)) mX0_isHeldIn ml_X5_195 dX5_giveBackIfHeld_27 (by decide) (by decide) rfl rfl rfl (Nat.le_of_ble_eq_true rfl) rfl (by decide) rfl rfl (fun v27 l27 u27 h27 => ?_)
    refine q_ifne C 35 dX5_giveBackIfHeld_30 (by decide) (by omega) (fun c30 => ?_) (fun c30 => ?_)
    · refine q_aload_n C 0 dX5_giveBackIfHeld_35 rfl rfl ?_
      refine q_getr C (b := 0) 3 rfl (by decide) rfl in_X5 (by decide) fl_X5_37 rfl dX5_giveBackIfHeld_36 ?_
      refine q_iload_n C 2 dX5_giveBackIfHeld_39 rfl rfl ?_
      refine q_bipush C dX5_giveBackIfHeld_40 (by decide +kernel) ?_
      refine q_Vv0 C (KX1_turn _ _ (by omega) _ (by omega) (by omega)) mX1_turn ml_X5_224 dX5_giveBackIfHeld_42 (by decide) (by decide) rfl rfl rfl (Nat.le_of_ble_eq_true rfl) rfl (by decide) rfl rfl ?_
      refine q_iconst C dX5_giveBackIfHeld_45 ?_
      rw [← h5, ← e8]
      refine q_iretZ C dX5_giveBackIfHeld_46 (by omega) (by decide) (Or.inr ⟨by omega, ?_, rfl, by rw [if_pos (by omega)]⟩)
      have e24 : v24 = g 20 v8 := by omega
      rw [← e24]
      rcases h27 with ⟨z, z2⟩ | ⟨z, z2⟩
      · exact z
      · omega
    · refine q_iconst C dX5_giveBackIfHeld_33 ?_
      rw [← h5, ← e8]
      refine q_iretZ C dX5_giveBackIfHeld_34 (by omega) (by decide) (Or.inl ⟨?_, rfl, rfl⟩)
      first
        | exact Or.inl (by omega)
        | (refine Or.inr (fun q => ?_)
           have e24 : v24 = g 20 v8 := by omega
           rw [← e24] at q
           rcases h27 with ⟨z, z2⟩ | ⟨z, z2⟩
           · omega
           · exact z q)
