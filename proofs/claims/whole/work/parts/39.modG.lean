/-! the reference: counts, appointments, the calls that need no plan -/
def c0 (g : qHp) : qHp := qUp g 23 0 0
def bkN (g : qHp) (b : Int) : Int → Bool := fun i => decide (g 35 i = 98) && decide (g 32 i = b)
def bkO (g : qHp) (lane hour : Int) : Int → Bool := fun i => decide (g 35 i = 98) && (decide (g 34 i = lane) && decide (g 33 i = hour))
def stO (g : qHp) (t : Int) : Int → Bool := fun i => decide (g 35 i = t)
def inO (g : qHp) : Int → Bool := fun i => decide (g 26 i = 1)
abbrev hl2 (g : qHp) (b h : Int) : Prop := g 27 b ≠ 45 ∧ h < g 28 b
abbrev frM (g : qHp) (h : Int) : Prop := fstB (bkO g 0 h) (g 23 13) = -1 ∨ fstB (bkO g 1 h) (g 23 13) = -1 ∨ fstB (bkO g 2 h) (g 23 13) = -1
set_option maxRecDepth 20000 in
theorem KX6_appointmentIn (g : qHp) (b : Int) (hb : -2147483648 ≤ b ∧ b < 2147483648)  : qC yX6_appointmentIn (.code yX6_appointmentIn cX6_appointmentIn 3 (some .int)) 0 0 (fun ad => [.ref (ad 23), .int (iI b)]) g (qPi (fun (r : Int) (g' : qHp) => (r = fstB (bkN g b) (g 23 13)) ∧ g' = g)) qNo := by
  refine q_meth (by decide +kernel) rfl (fun _ => (Nat.le_of_ble_eq_true rfl)) (fun X ω C => ?_)
  refine q_nm (fun hn => ?_)
  have r23_13 : 0 ≤ g 23 13 ∧ g 23 13 ≤ 30 := hn 23 13
  refine q_loc [(0, .ref (ω.1 23)), (1, .int (iI b))] ⟨rfl, rfl, trivial⟩ ?_
  refine q_iconst C dX6_appointmentIn_0 ?_
  refine q_istoreV_n C 2 dX6_appointmentIn_1 rfl (by decide) (fun v1 e1 => ?_)
  have loop : ∀ (n : Nat) (i : Int), ((g 23 13 - i) < (n : Int)) → (0 ≤ i) → (i ≤ g 23 13) → (fstI (bkN g b) (g 23 13).toNat 0 = fstI (bkN g b) (g 23 13 - i).toNat i) → qT X ω 3 0 (qEnd X ω (qPi (fun (r : Int) (g' : qHp) => (r = fstB (bkN g b) (g 23 13)) ∧ g' = g)) qNo 0) g 2 [(0, .ref (ω.1 23)), (1, .int (iI b)), (2, .int (iI i))] [] := by
    intro n
    induction n with
    | zero => intro i hm hi hi2 hm2; exfalso; omega
    | succ n ih =>
      intro i hm hi hi2 hm2
      refine q_iload_n C 2 dX6_appointmentIn_2 rfl rfl ?_
      refine q_aload_n C 0 dX6_appointmentIn_3 rfl rfl ?_
      refine q_geti C (b := 23) 13 13 0 30 rfl (by decide) rfl in_X6 (by decide) fl_X6_123 rfl rfl rfl dX6_appointmentIn_4 (fun v4 e4 l4 u4 => ?_)
      refine q_icmp_ge C 39 dX6_appointmentIn_7 (by decide) (by omega) (by omega) (fun c7 => ?_) (fun c7 => ?_)
      · refine q_iconst C dX6_appointmentIn_39 ?_
        subst e4
        exact q_iretI C dX6_appointmentIn_40 (by omega) (by decide) ⟨(fstB_none (p := bkN g b) (by assumption) hm2).symm, rfl⟩
      · refine q_aload_n C 0 dX6_appointmentIn_10 rfl rfl ?_
        refine q_getr C (b := 23) 14 rfl (by decide) rfl in_X6 (by decide) fl_X6_36 rfl dX6_appointmentIn_11 ?_
        refine q_iload_n C 2 dX6_appointmentIn_14 rfl rfl ?_
        refine q_iald C (b := 32) (n := 30) 0 19 rfl (by decide) (by decide) (by omega) (fun _ => rfl) dX6_appointmentIn_15 (fun v15 e15 l15 u15 => ?_)
        refine q_iload_n C 1 dX6_appointmentIn_16 rfl rfl ?_
        refine q_icmp_ne C 33 dX6_appointmentIn_17 (by decide) (by omega) (by omega) (fun c17 => ?_) (fun c17 => ?_)
        · refine q_iinc C dX6_appointmentIn_33 rfl (by decide) (fun v33 e33 => ?_)
          refine q_goto C 2 dX6_appointmentIn_36 (by decide) ?_
          refine q_loc [(0, .ref (ω.1 23)), (1, .int (iI b)), (2, .int (iI v33))] ⟨rfl, rfl, rfl, trivial⟩ ?_
          exact ih v33 (by omega) (by omega) (by omega) (by subst e33 e15 e4; exact fstI_next (p := bkN g b) (by assumption) (by simp [bkN, bkO, *]) hm2)
        · refine q_aload_n C 0 dX6_appointmentIn_20 rfl rfl ?_
          refine q_getr C (b := 23) 17 rfl (by decide) rfl in_X6 (by decide) fl_X6_45 rfl dX6_appointmentIn_21 ?_
          refine q_iload_n C 2 dX6_appointmentIn_24 rfl rfl ?_
          refine q_cald C (b := 35) (n := 30) 0 65535 rfl (by decide) (by decide) (by omega) (fun _ => rfl) dX6_appointmentIn_25 (fun v25 e25 l25 u25 => ?_)
          refine q_bipush C dX6_appointmentIn_26 (by decide +kernel) ?_
          refine q_icmp_ne C 33 dX6_appointmentIn_28 (by decide) (by omega) (by omega) (fun c28 => ?_) (fun c28 => ?_)
          · refine q_iinc C dX6_appointmentIn_33 rfl (by decide) (fun v33 e33 => ?_)
            refine q_goto C 2 dX6_appointmentIn_36 (by decide) ?_
            refine q_loc [(0, .ref (ω.1 23)), (1, .int (iI b)), (2, .int (iI v33))] ⟨rfl, rfl, rfl, trivial⟩ ?_
            exact ih v33 (by omega) (by omega) (by omega) (by subst e33 e25 e15 e4; exact fstI_next (p := bkN g b) (by assumption) (by simp [bkN, bkO, *]) hm2)
          · refine q_iload_n C 2 dX6_appointmentIn_31 rfl rfl ?_
            subst e25 e15 e4
            exact q_iretI C dX6_appointmentIn_32 (by omega) (by decide) ⟨(fstB_hit (p := bkN g b) hi (by assumption) (by simp [bkN, bkO, *]) hm2).symm, rfl⟩
  refine q_loc [(0, .ref (ω.1 23)), (1, .int (iI b)), (2, .int (iI v1))] ⟨rfl, rfl, rfl, trivial⟩ ?_
  exact loop ((g 23 13 - v1).toNat + 1) v1 (by omega) (by omega) (by omega) (by rw [e1, Int.sub_zero])
set_option maxRecDepth 20000 in
theorem KX6_bookedIn (g : qHp) (lane : Int) (hlane : -2147483648 ≤ lane ∧ lane < 2147483648) (hour : Int) (hhour : -2147483648 ≤ hour ∧ hour < 2147483648)  : qC yX6_bookedIn (.code yX6_bookedIn cX6_bookedIn 4 (some .int)) 0 0 (fun ad => [.ref (ad 23), .int (iI lane), .int (iI hour)]) g (qPi (fun (r : Int) (g' : qHp) => (r = fstB (bkO g lane hour) (g 23 13)) ∧ g' = g)) qNo := by
  refine q_meth (by decide +kernel) rfl (fun _ => (Nat.le_of_ble_eq_true rfl)) (fun X ω C => ?_)
  refine q_nm (fun hn => ?_)
  have r23_13 : 0 ≤ g 23 13 ∧ g 23 13 ≤ 30 := hn 23 13
  refine q_loc [(0, .ref (ω.1 23)), (1, .int (iI lane)), (2, .int (iI hour))] ⟨rfl, rfl, rfl, trivial⟩ ?_
  refine q_iconst C dX6_bookedIn_0 ?_
  refine q_istoreV_n C 3 dX6_bookedIn_1 rfl (by decide) (fun v1 e1 => ?_)
  have loop : ∀ (n : Nat) (i : Int), ((g 23 13 - i) < (n : Int)) → (0 ≤ i) → (i ≤ g 23 13) → (fstI (bkO g lane hour) (g 23 13).toNat 0 = fstI (bkO g lane hour) (g 23 13 - i).toNat i) → qT X ω 4 0 (qEnd X ω (qPi (fun (r : Int) (g' : qHp) => (r = fstB (bkO g lane hour) (g 23 13)) ∧ g' = g)) qNo 0) g 2 [(0, .ref (ω.1 23)), (1, .int (iI lane)), (2, .int (iI hour)), (3, .int (iI i))] [] := by
    intro n
    induction n with
    | zero => intro i hm hi hi2 hm2; exfalso; omega
    | succ n ih =>
      intro i hm hi hi2 hm2
      refine q_iload_n C 3 dX6_bookedIn_2 rfl rfl ?_
      refine q_aload_n C 0 dX6_bookedIn_3 rfl rfl ?_
      refine q_geti C (b := 23) 13 13 0 30 rfl (by decide) rfl in_X6 (by decide) fl_X6_123 rfl rfl rfl dX6_bookedIn_4 (fun v4 e4 l4 u4 => ?_)
      refine q_icmp_ge C 49 dX6_bookedIn_7 (by decide) (by omega) (by omega) (fun c7 => ?_) (fun c7 => ?_)
      · refine q_iconst C dX6_bookedIn_49 ?_
        subst e4
        exact q_iretI C dX6_bookedIn_50 (by omega) (by decide) ⟨(fstB_none (p := bkO g lane hour) (by assumption) hm2).symm, rfl⟩
      · refine q_aload_n C 0 dX6_bookedIn_10 rfl rfl ?_
        refine q_getr C (b := 23) 16 rfl (by decide) rfl in_X6 (by decide) fl_X6_42 rfl dX6_bookedIn_11 ?_
        refine q_iload_n C 3 dX6_bookedIn_14 rfl rfl ?_
        refine q_iald C (b := 34) (n := 30) 0 2 rfl (by decide) (by decide) (by omega) (fun _ => rfl) dX6_bookedIn_15 (fun v15 e15 l15 u15 => ?_)
        refine q_iload_n C 1 dX6_bookedIn_16 rfl rfl ?_
        refine q_icmp_ne C 43 dX6_bookedIn_17 (by decide) (by omega) (by omega) (fun c17 => ?_) (fun c17 => ?_)
        · refine q_iinc C dX6_bookedIn_43 rfl (by decide) (fun v43 e43 => ?_)
          refine q_goto C 2 dX6_bookedIn_46 (by decide) ?_
          refine q_loc [(0, .ref (ω.1 23)), (1, .int (iI lane)), (2, .int (iI hour)), (3, .int (iI v43))] ⟨rfl, rfl, rfl, rfl, trivial⟩ ?_
          exact ih v43 (by omega) (by omega) (by omega) (by subst e43 e15 e4; exact fstI_next (p := bkO g lane hour) (by assumption) (by simp [bkN, bkO, *]) hm2)
        · refine q_aload_n C 0 dX6_bookedIn_20 rfl rfl ?_
          refine q_getr C (b := 23) 15 rfl (by decide) rfl in_X6 (by decide) fl_X6_39 rfl dX6_bookedIn_21 ?_
          refine q_iload_n C 3 dX6_bookedIn_24 rfl rfl ?_
          refine q_iald C (b := 33) (n := 30) 0 999 rfl (by decide) (by decide) (by omega) (fun _ => rfl) dX6_bookedIn_25 (fun v25 e25 l25 u25 => ?_)
          refine q_iload_n C 2 dX6_bookedIn_26 rfl rfl ?_
          refine q_icmp_ne C 43 dX6_bookedIn_27 (by decide) (by omega) (by omega) (fun c27 => ?_) (fun c27 => ?_)
          · refine q_iinc C dX6_bookedIn_43 rfl (by decide) (fun v43 e43 => ?_)
            refine q_goto C 2 dX6_bookedIn_46 (by decide) ?_
            refine q_loc [(0, .ref (ω.1 23)), (1, .int (iI lane)), (2, .int (iI hour)), (3, .int (iI v43))] ⟨rfl, rfl, rfl, rfl, trivial⟩ ?_
            exact ih v43 (by omega) (by omega) (by omega) (by subst e43 e25 e15 e4; exact fstI_next (p := bkO g lane hour) (by assumption) (by simp [bkN, bkO, *]) hm2)
          · refine q_aload_n C 0 dX6_bookedIn_30 rfl rfl ?_
            refine q_getr C (b := 23) 17 rfl (by decide) rfl in_X6 (by decide) fl_X6_45 rfl dX6_bookedIn_31 ?_
            refine q_iload_n C 3 dX6_bookedIn_34 rfl rfl ?_
            refine q_cald C (b := 35) (n := 30) 0 65535 rfl (by decide) (by decide) (by omega) (fun _ => rfl) dX6_bookedIn_35 (fun v35 e35 l35 u35 => ?_)
            refine q_bipush C dX6_bookedIn_36 (by decide +kernel) ?_
            refine q_icmp_ne C 43 dX6_bookedIn_38 (by decide) (by omega) (by omega) (fun c38 => ?_) (fun c38 => ?_)
            · refine q_iinc C dX6_bookedIn_43 rfl (by decide) (fun v43 e43 => ?_)
              refine q_goto C 2 dX6_bookedIn_46 (by decide) ?_
              refine q_loc [(0, .ref (ω.1 23)), (1, .int (iI lane)), (2, .int (iI hour)), (3, .int (iI v43))] ⟨rfl, rfl, rfl, rfl, trivial⟩ ?_
              exact ih v43 (by omega) (by omega) (by omega) (by subst e43 e35 e25 e15 e4; exact fstI_next (p := bkO g lane hour) (by assumption) (by simp [bkN, bkO, *]) hm2)
            · refine q_iload_n C 3 dX6_bookedIn_41 rfl rfl ?_
              subst e35 e25 e15 e4
              exact q_iretI C dX6_bookedIn_42 (by omega) (by decide) ⟨(fstB_hit (p := bkO g lane hour) hi (by assumption) (by simp [bkN, bkO, *]) hm2).symm, rfl⟩
  refine q_loc [(0, .ref (ω.1 23)), (1, .int (iI lane)), (2, .int (iI hour)), (3, .int (iI v1))] ⟨rfl, rfl, rfl, rfl, trivial⟩ ?_
  exact loop ((g 23 13 - v1).toNat + 1) v1 (by omega) (by omega) (by omega) (by rw [e1, Int.sub_zero])
set_option maxRecDepth 20000 in
theorem KX6_counted (g : qHp) (t : Int) (ht : -2147483648 ≤ t ∧ t < 2147483648)  : qC yX6_counted (.code yX6_counted cX6_counted 4 (some .int)) 0 0 (fun ad => [.ref (ad 23), .int (iI t)]) g (qPi (fun (r : Int) (g' : qHp) => (r = cntI (stO g t) (g 23 13).toNat) ∧ g' = g)) qNo := by
  refine q_meth (by decide +kernel) rfl (fun _ => (Nat.le_of_ble_eq_true rfl)) (fun X ω C => ?_)
  refine q_nm (fun hn => ?_)
  have r23_13 : 0 ≤ g 23 13 ∧ g 23 13 ≤ 30 := hn 23 13
  refine q_loc [(0, .ref (ω.1 23)), (1, .int (iI t))] ⟨rfl, rfl, trivial⟩ ?_
  refine q_iconst C dX6_counted_0 ?_
  refine q_istoreV_n C 2 dX6_counted_1 rfl (by decide) (fun v1 e1 => ?_)
  refine q_iconst C dX6_counted_2 ?_
  refine q_istoreV_n C 3 dX6_counted_3 rfl (by decide) (fun v3 e3 => ?_)
  have hcr := fun m => cntI_rng (stO g t) m
  have loop : ∀ (n : Nat) (k : Int) (i : Int), ((g 23 13 - i) < (n : Int)) → (0 ≤ i) → (i ≤ g 23 13) → (k = cntI (stO g t) i.toNat) → qT X ω 4 0 (qEnd X ω (qPi (fun (r : Int) (g' : qHp) => (r = cntI (stO g t) (g 23 13).toNat) ∧ g' = g)) qNo 0) g 4 [(0, .ref (ω.1 23)), (1, .int (iI t)), (2, .int (iI k)), (3, .int (iI i))] [] := by
    intro n
    induction n with
    | zero => intro k i hm hi hi2 hm2; exfalso; omega
    | succ n ih =>
      intro k i hm hi hi2 hm2
      have hq := hcr i.toNat
      refine q_iload_n C 3 dX6_counted_4 rfl rfl ?_
      refine q_aload_n C 0 dX6_counted_5 rfl rfl ?_
      refine q_geti C (b := 23) 13 13 0 30 rfl (by decide) rfl in_X6 (by decide) fl_X6_123 rfl rfl rfl dX6_counted_6 (fun v6 e6 l6 u6 => ?_)
      refine q_icmp_ge C 36 dX6_counted_9 (by decide) (by omega) (by omega) (fun c9 => ?_) (fun c9 => ?_)
      · refine q_iload_n C 2 dX6_counted_36 rfl rfl ?_
        have hie : i = g 23 13 := by omega
        exact q_iretI C dX6_counted_37 (by omega) (by decide) ⟨by rw [hm2, hie], rfl⟩
      · refine q_iload_n C 2 dX6_counted_12 rfl rfl ?_
        refine q_aload_n C 0 dX6_counted_13 rfl rfl ?_
        refine q_getr C (b := 23) 17 rfl (by decide) rfl in_X6 (by decide) fl_X6_45 rfl dX6_counted_14 ?_
        refine q_iload_n C 3 dX6_counted_17 rfl rfl ?_
        refine q_cald C (b := 35) (n := 30) 0 65535 rfl (by decide) (by decide) (by omega) (fun _ => rfl) dX6_counted_18 (fun v18 e18 l18 u18 => ?_)
        refine q_iload_n C 1 dX6_counted_19 rfl rfl ?_
        refine q_icmp_ne C 27 dX6_counted_20 (by decide) (by omega) (by omega) (fun c20 => ?_) (fun c20 => ?_)
        · refine q_iconst C dX6_counted_27 ?_
          refine q_iadd C dX6_counted_28 ?_
          refine q_istoreV_n C 2 dX6_counted_29 rfl (by decide) (fun v29 e29 => ?_)
          refine q_iinc C dX6_counted_30 rfl (by decide) (fun v30 e30 => ?_)
          refine q_goto C 4 dX6_counted_33 (by decide) ?_
          refine q_loc [(0, .ref (ω.1 23)), (1, .int (iI t)), (2, .int (iI v29)), (3, .int (iI v30))] ⟨rfl, rfl, rfl, rfl, trivial⟩ ?_
          exact ih v29 v30 (by omega) (by omega) (by omega) (by rw [e30]; first | (have q := cntI_t (p := stO g t) hi (decide_eq_true (by omega)); omega) | (have q := cntI_f (p := stO g t) hi (decide_eq_false (by omega)); omega))
        · refine q_iconst C dX6_counted_23 ?_
          refine q_goto C 28 dX6_counted_24 (by decide) ?_
          refine q_iadd C dX6_counted_28 ?_
          refine q_istoreV_n C 2 dX6_counted_29 rfl (by decide) (fun v29 e29 => ?_)
          refine q_iinc C dX6_counted_30 rfl (by decide) (fun v30 e30 => ?_)
          refine q_goto C 4 dX6_counted_33 (by decide) ?_
          refine q_loc [(0, .ref (ω.1 23)), (1, .int (iI t)), (2, .int (iI v29)), (3, .int (iI v30))] ⟨rfl, rfl, rfl, rfl, trivial⟩ ?_
          exact ih v29 v30 (by omega) (by omega) (by omega) (by rw [e30]; first | (have q := cntI_t (p := stO g t) hi (decide_eq_true (by omega)); omega) | (have q := cntI_f (p := stO g t) hi (decide_eq_false (by omega)); omega))
  refine q_loc [(0, .ref (ω.1 23)), (1, .int (iI t)), (2, .int (iI v1)), (3, .int (iI v3))] ⟨rfl, rfl, rfl, rfl, trivial⟩ ?_
  exact loop ((g 23 13 - v3).toNat + 1) v1 v3 (by omega) (by omega) (by omega) (by rw [e1, e3]; rfl)
set_option maxRecDepth 20000 in
theorem KX6_insideNow (g : qHp)  : qC yX6_insideNow (.code yX6_insideNow cX6_insideNow 3 (some .int)) 0 0 (fun ad => [.ref (ad 23)]) g (qPi (fun (r : Int) (g' : qHp) => (r = cntI (inO g) (g 23 4).toNat) ∧ g' = g)) qNo := by
  refine q_meth (by decide +kernel) rfl (fun _ => (Nat.le_of_ble_eq_true rfl)) (fun X ω C => ?_)
  refine q_nm (fun hn => ?_)
  have r23_4 : 0 ≤ g 23 4 ∧ g 23 4 ≤ 20 := hn 23 4
  refine q_loc [(0, .ref (ω.1 23))] ⟨rfl, trivial⟩ ?_
  refine q_iconst C dX6_insideNow_0 ?_
  refine q_istoreV_n C 1 dX6_insideNow_1 rfl (by decide) (fun v1 e1 => ?_)
  refine q_iconst C dX6_insideNow_2 ?_
  refine q_istoreV_n C 2 dX6_insideNow_3 rfl (by decide) (fun v3 e3 => ?_)
  have hcr := fun m => cntI_rng (inO g) m
  have loop : ∀ (n : Nat) (k : Int) (i : Int), ((g 23 4 - i) < (n : Int)) → (0 ≤ i) → (i ≤ g 23 4) → (k = cntI (inO g) i.toNat) → qT X ω 3 0 (qEnd X ω (qPi (fun (r : Int) (g' : qHp) => (r = cntI (inO g) (g 23 4).toNat) ∧ g' = g)) qNo 0) g 4 [(0, .ref (ω.1 23)), (1, .int (iI k)), (2, .int (iI i))] [] := by
    intro n
    induction n with
    | zero => intro k i hm hi hi2 hm2; exfalso; omega
    | succ n ih =>
      intro k i hm hi hi2 hm2
      have hq := hcr i.toNat
      refine q_iload_n C 2 dX6_insideNow_4 rfl rfl ?_
      refine q_aload_n C 0 dX6_insideNow_5 rfl rfl ?_
      refine q_geti C (b := 23) 4 4 0 20 rfl (by decide) rfl in_X6 (by decide) fl_X6_52 rfl rfl rfl dX6_insideNow_6 (fun v6 e6 l6 u6 => ?_)
      refine q_icmp_ge C 35 dX6_insideNow_9 (by decide) (by omega) (by omega) (fun c9 => ?_) (fun c9 => ?_)
      · refine q_iload_n C 1 dX6_insideNow_35 rfl rfl ?_
        have hie : i = g 23 4 := by omega
        exact q_iretI C dX6_insideNow_36 (by omega) (by decide) ⟨by rw [hm2, hie], rfl⟩
      · refine q_iload_n C 1 dX6_insideNow_12 rfl rfl ?_
        refine q_aload_n C 0 dX6_insideNow_13 rfl rfl ?_
        refine q_getr C (b := 23) 6 rfl (by decide) rfl in_X6 (by decide) fl_X6_16 rfl dX6_insideNow_14 ?_
        refine q_iload_n C 2 dX6_insideNow_17 rfl rfl ?_
        refine q_zald C (b := 26) (n := 20) 0 1 rfl (by decide) (by decide) (by omega) (fun _ => rfl) dX6_insideNow_18 (fun v18 e18 l18 u18 => ?_)
        refine q_ifeq C 26 dX6_insideNow_19 (by decide) (by omega) (fun c19 => ?_) (fun c19 => ?_)
        · refine q_iconst C dX6_insideNow_26 ?_
          refine q_iadd C dX6_insideNow_27 ?_
          refine q_istoreV_n C 1 dX6_insideNow_28 rfl (by decide) (fun v28 e28 => ?_)
          refine q_iinc C dX6_insideNow_29 rfl (by decide) (fun v29 e29 => ?_)
          refine q_goto C 4 dX6_insideNow_32 (by decide) ?_
          refine q_loc [(0, .ref (ω.1 23)), (1, .int (iI v28)), (2, .int (iI v29))] ⟨rfl, rfl, rfl, trivial⟩ ?_
          exact ih v28 v29 (by omega) (by omega) (by omega) (by rw [e29]; first | (have q := cntI_t (p := inO g) hi (decide_eq_true (by omega)); omega) | (have q := cntI_f (p := inO g) hi (decide_eq_false (by omega)); omega))
        · refine q_iconst C dX6_insideNow_22 ?_
          refine q_goto C 27 dX6_insideNow_23 (by decide) ?_
          refine q_iadd C dX6_insideNow_27 ?_
          refine q_istoreV_n C 1 dX6_insideNow_28 rfl (by decide) (fun v28 e28 => ?_)
          refine q_iinc C dX6_insideNow_29 rfl (by decide) (fun v29 e29 => ?_)
          refine q_goto C 4 dX6_insideNow_32 (by decide) ?_
          refine q_loc [(0, .ref (ω.1 23)), (1, .int (iI v28)), (2, .int (iI v29))] ⟨rfl, rfl, rfl, trivial⟩ ?_
          exact ih v28 v29 (by omega) (by omega) (by omega) (by rw [e29]; first | (have q := cntI_t (p := inO g) hi (decide_eq_true (by omega)); omega) | (have q := cntI_f (p := inO g) hi (decide_eq_false (by omega)); omega))
  refine q_loc [(0, .ref (ω.1 23)), (1, .int (iI v1)), (2, .int (iI v3))] ⟨rfl, rfl, rfl, trivial⟩ ?_
  exact loop ((g 23 4 - v3).toNat + 1) v1 v3 (by omega) (by omega) (by omega) (by rw [e1, e3]; rfl)
set_option maxRecDepth 20000 in
theorem KX6_isHeldIn (g : qHp) (b : Int) (hb : -2147483648 ≤ b ∧ b < 2147483648) (h : Int) (hh : -2147483648 ≤ h ∧ h < 2147483648) (hb2 : 0 ≤ b ∧ b < 20) : qC yX6_isHeldIn (.code yX6_isHeldIn cX6_isHeldIn 3 (some .boolean)) 0 0 (fun ad => [.ref (ad 23), .int (iI b), .int (iI h)]) g (qPi (fun (r : Int) (g' : qHp) => ((hl2 g b h ∧ r = 1) ∨ (¬ hl2 g b h ∧ r = 0)) ∧ g' = g)) qNo := by
  refine q_meth (by decide +kernel) rfl (fun _ => (Nat.le_of_ble_eq_true rfl)) (fun X ω C => ?_)
  refine q_loc [(0, .ref (ω.1 23)), (1, .int (iI b)), (2, .int (iI h))] ⟨rfl, rfl, rfl, trivial⟩ ?_
  refine q_aload_n C 0 dX6_isHeldIn_0 rfl rfl ?_
  refine q_getr C (b := 23) 7 rfl (by decide) rfl in_X6 (by decide) fl_X6_20 rfl dX6_isHeldIn_1 ?_
  refine q_iload_n C 1 dX6_isHeldIn_4 rfl rfl ?_
  refine q_cald C (b := 27) (n := 20) 0 65535 rfl (by decide) (by decide) (by omega) (fun _ => rfl) dX6_isHeldIn_5 (fun v5 e5 l5 u5 => ?_)
  refine q_bipush C dX6_isHeldIn_6 (by decide +kernel) ?_
  refine q_icmp_eq C 25 dX6_isHeldIn_8 (by decide) (by omega) (by omega) (fun c8 => ?_) (fun c8 => ?_)
  · refine q_iconst C dX6_isHeldIn_25 ?_
    subst e5
    exact q_iretZ C dX6_isHeldIn_26 (by omega) (by decide) (⟨by omega, rfl⟩)
  · refine q_iload_n C 2 dX6_isHeldIn_11 rfl rfl ?_
    refine q_aload_n C 0 dX6_isHeldIn_12 rfl rfl ?_
    refine q_getr C (b := 23) 8 rfl (by decide) rfl in_X6 (by decide) fl_X6_24 rfl dX6_isHeldIn_13 ?_
    refine q_iload_n C 1 dX6_isHeldIn_16 rfl rfl ?_
    refine q_iald C (b := 28) (n := 20) 0 1000 rfl (by decide) (by decide) (by omega) (fun _ => rfl) dX6_isHeldIn_17 (fun v17 e17 l17 u17 => ?_)
    refine q_icmp_ge C 25 dX6_isHeldIn_18 (by decide) (by omega) (by omega) (fun c18 => ?_) (fun c18 => ?_)
    · refine q_iconst C dX6_isHeldIn_25 ?_
      subst e17 e5
      exact q_iretZ C dX6_isHeldIn_26 (by omega) (by decide) (⟨by omega, rfl⟩)
    · refine q_iconst C dX6_isHeldIn_21 ?_
      refine q_goto C 26 dX6_isHeldIn_22 (by decide) ?_
      subst e17 e5
      exact q_iretZ C dX6_isHeldIn_26 (by omega) (by decide) (⟨by omega, rfl⟩)
set_option maxRecDepth 20000 in
theorem KX6_boxes (g : qHp)  : qC yX6_boxes (.code yX6_boxes cX6_boxes 1 (some .int)) 2 0 (fun ad => [.ref (ad 23)]) g (qPi (fun (r : Int) (g' : qHp) => ((True) ∧ (r = cntI (inO (c0 g)) ((c0 g) 23 4).toNat) ∧ g' = (c0 g)))) qNo := by
  refine q_meth (by decide +kernel) rfl (fun _ => (Nat.le_of_ble_eq_true rfl)) (fun X ω C => ?_)
  refine q_loc [(0, .ref (ω.1 23))] ⟨rfl, trivial⟩ ?_
  refine q_aload_n C 0 dX6_boxes_0 rfl rfl ?_
  refine q_iconst C dX6_boxes_1 ?_
  refine q_puti C (b := 23) 0 0 0 4 _ rfl (by decide) rfl in_X6 tyX6_ok nmX6 (by decide) fl_X6_48 rfl (by decide +kernel) rfl rfl rfl rfl (by omega) dX6_boxes_2 ?_
  refine q_hp (g2 := c0 g) rfl ?_
  generalize c0 g = g0 at *
  refine q_nm (fun hn => ?_)
  refine q_aload_n C 0 dX6_boxes_5 rfl rfl ?_
  refine q_Vf0 C (KX6_insideNow _) mX6_insideNow ml_X6_116 dX6_boxes_6 (by decide) (by decide) rfl rfl rfl (Nat.le_of_ble_eq_true rfl) rfl (by decide) rfl rfl (fun v6 l6 u6 h6 => ?_)
  first
    | exact q_iretI C dX6_boxes_9 (by omega) (by decide) (⟨trivial, by omega, rfl⟩)
set_option maxRecDepth 20000 in
theorem KX6_isInYard (g : qHp) (b : Int) (hb : -2147483648 ≤ b ∧ b < 2147483648)  : qC yX6_isInYard (.code yX6_isInYard cX6_isInYard 2 (some .boolean)) 2 0 (fun ad => [.ref (ad 23), .int (iI b)]) g (qPi (fun (r : Int) (g' : qHp) => (((0 ≤ b ∧ b < (c0 g) 23 4 ∧ (c0 g) 26 b = 1)) ∧ (r = 1) ∧ g' = (c0 g)) ∨ ((¬ (0 ≤ b ∧ b < (c0 g) 23 4 ∧ (c0 g) 26 b = 1)) ∧ (r = 0) ∧ g' = (c0 g)))) qNo := by
  refine q_meth (by decide +kernel) rfl (fun _ => (Nat.le_of_ble_eq_true rfl)) (fun X ω C => ?_)
  refine q_loc [(0, .ref (ω.1 23)), (1, .int (iI b))] ⟨rfl, rfl, trivial⟩ ?_
  refine q_aload_n C 0 dX6_isInYard_0 rfl rfl ?_
  refine q_iconst C dX6_isInYard_1 ?_
  refine q_puti C (b := 23) 0 0 0 4 _ rfl (by decide) rfl in_X6 tyX6_ok nmX6 (by decide) fl_X6_48 rfl (by decide +kernel) rfl rfl rfl rfl (by omega) dX6_isInYard_2 ?_
  refine q_hp (g2 := c0 g) rfl ?_
  generalize c0 g = g0 at *
  refine q_nm (fun hn => ?_)
  refine q_aload_n C 0 dX6_isInYard_5 rfl rfl ?_
  refine q_iload_n C 1 dX6_isInYard_6 rfl rfl ?_
  refine q_Vf0 C (KX6_isBox _ _ (by omega)) mX6_isBox ml_X6_120 dX6_isInYard_7 (by decide) (by decide) rfl rfl rfl (Nat.le_of_ble_eq_true rfl) rfl (by decide) rfl rfl (fun v7 l7 u7 h7 => ?_)
  rcases h7 with ⟨z1, z2⟩ | ⟨z1, z2⟩
  · exact q_iretZ C dX6_isInYard_10 (by omega) (by decide) (Or.inl ⟨z1, z2, rfl⟩)
  · exact q_iretZ C dX6_isInYard_10 (by omega) (by decide) (Or.inr ⟨z1, z2, rfl⟩)
set_option maxRecDepth 20000 in
theorem KX6_weight (g : qHp) (b : Int) (hb : -2147483648 ≤ b ∧ b < 2147483648)  : qC yX6_weight (.code yX6_weight cX6_weight 2 (some .int)) 2 0 (fun ad => [.ref (ad 23), .int (iI b)]) g (qPi (fun (r : Int) (g' : qHp) => (((0 ≤ b ∧ b < (c0 g) 23 4 ∧ (c0 g) 26 b = 1)) ∧ (r = (c0 g) 25 b) ∧ g' = (c0 g)) ∨ ((¬ (0 ≤ b ∧ b < (c0 g) 23 4 ∧ (c0 g) 26 b = 1)) ∧ g' = qUp (c0 g) 23 0 1))) qNo := by
  refine q_meth (by decide +kernel) rfl (fun _ => (Nat.le_of_ble_eq_true rfl)) (fun X ω C => ?_)
  refine q_loc [(0, .ref (ω.1 23)), (1, .int (iI b))] ⟨rfl, rfl, trivial⟩ ?_
  refine q_aload_n C 0 dX6_weight_0 rfl rfl ?_
  refine q_iconst C dX6_weight_1 ?_
  refine q_puti C (b := 23) 0 0 0 4 _ rfl (by decide) rfl in_X6 tyX6_ok nmX6 (by decide) fl_X6_48 rfl (by decide +kernel) rfl rfl rfl rfl (by omega) dX6_weight_2 ?_
  refine q_hp (g2 := c0 g) rfl ?_
  generalize c0 g = g0 at *
  refine q_nm (fun hn => ?_)
  have r23_4 : 0 ≤ g0 23 4 ∧ g0 23 4 ≤ 20 := hn 23 4
  refine q_aload_n C 0 dX6_weight_5 rfl rfl ?_
  refine q_iload_n C 1 dX6_weight_6 rfl rfl ?_
  refine q_Vf0 C (KX6_isBox _ _ (by omega)) mX6_isBox ml_X6_120 dX6_weight_7 (by decide) (by decide) rfl rfl rfl (Nat.le_of_ble_eq_true rfl) rfl (by decide) rfl rfl (fun v7 l7 u7 h7 => ?_)
  refine q_ifeq C 22 dX6_weight_10 (by decide) (by omega) (fun c10 => ?_) (fun c10 => ?_)
  · refine q_aload_n C 0 dX6_weight_22 rfl rfl ?_
    refine q_iconst C dX6_weight_23 ?_
    refine q_Vi0 C (KX6_fails _ _ (by omega) (by omega)) mX6_fails ml_X6_110 dX6_weight_24 (by decide) (by decide) rfl rfl rfl (Nat.le_of_ble_eq_true rfl) rfl (by decide) rfl rfl (fun v24 g24 l24 u24 h24 => ?_)
    obtain ⟨h24, rfl⟩ := h24
    first
      | exact q_iretI C dX6_weight_27 (by omega) (by decide) (Or.inl (⟨by omega, by omega, rfl⟩))
      | exact q_iretI C dX6_weight_27 (by omega) (by decide) (Or.inr (⟨by omega, rfl⟩))
  · refine q_aload_n C 0 dX6_weight_13 rfl rfl ?_
    refine q_getr C (b := 23) 5 rfl (by decide) rfl in_X6 (by decide) fl_X6_13 rfl dX6_weight_14 ?_
    refine q_iload_n C 1 dX6_weight_17 rfl rfl ?_
    refine q_iald C (b := 25) (n := 20) 0 30 rfl (by decide) (by decide) (by omega) (fun _ => rfl) dX6_weight_18 (fun v18 e18 l18 u18 => ?_)
    refine q_goto C 27 dX6_weight_19 (by decide) ?_
    first
      | exact q_iretI C dX6_weight_27 (by omega) (by decide) (Or.inl (⟨by omega, by omega, rfl⟩))
      | exact q_iretI C dX6_weight_27 (by omega) (by decide) (Or.inr (⟨by omega, rfl⟩))
set_option maxRecDepth 20000 in
theorem KX6_stackOf (g : qHp) (b : Int) (hb : -2147483648 ≤ b ∧ b < 2147483648) (o : yK (c0 g) 0) : qC yX6_stackOf (.code yX6_stackOf cX6_stackOf 2 (some .int)) 2 0 (fun ad => [.ref (ad 23), .int (iI b)]) g (qPi (fun (r : Int) (g' : qHp) => (((0 ≤ b ∧ b < (c0 g) 23 4 ∧ (c0 g) 26 b = 1)) ∧ (r = soS (stM (c0 g) 0) b) ∧ g' = (c0 g)) ∨ ((¬ (0 ≤ b ∧ b < (c0 g) 23 4 ∧ (c0 g) 26 b = 1)) ∧ g' = qUp (c0 g) 23 0 1))) qNo := by
  refine q_meth (by decide +kernel) rfl (fun _ => (Nat.le_of_ble_eq_true rfl)) (fun X ω C => ?_)
  refine q_loc [(0, .ref (ω.1 23)), (1, .int (iI b))] ⟨rfl, rfl, trivial⟩ ?_
  refine q_aload_n C 0 dX6_stackOf_0 rfl rfl ?_
  refine q_iconst C dX6_stackOf_1 ?_
  refine q_puti C (b := 23) 0 0 0 4 _ rfl (by decide) rfl in_X6 tyX6_ok nmX6 (by decide) fl_X6_48 rfl (by decide +kernel) rfl rfl rfl rfl (by omega) dX6_stackOf_2 ?_
  refine q_hp (g2 := c0 g) rfl ?_
  generalize c0 g = g0 at *
  refine q_nm (fun hn => ?_)
  have r23_4 : 0 ≤ g0 23 4 ∧ g0 23 4 ≤ 20 := hn 23 4
  refine q_aload_n C 0 dX6_stackOf_5 rfl rfl ?_
  refine q_iload_n C 1 dX6_stackOf_6 rfl rfl ?_
  refine q_Vf0 C (KX6_isBox _ _ (by omega)) mX6_isBox ml_X6_120 dX6_stackOf_7 (by decide) (by decide) rfl rfl rfl (Nat.le_of_ble_eq_true rfl) rfl (by decide) rfl rfl (fun v7 l7 u7 h7 => ?_)
  refine q_ifeq C 22 dX6_stackOf_10 (by decide) (by omega) (fun c10 => ?_) (fun c10 => ?_)
  · refine q_aload_n C 0 dX6_stackOf_22 rfl rfl ?_
    refine q_iconst C dX6_stackOf_23 ?_
    refine q_Vi0 C (KX6_fails _ _ (by omega) (by omega)) mX6_fails ml_X6_110 dX6_stackOf_24 (by decide) (by decide) rfl rfl rfl (Nat.le_of_ble_eq_true rfl) rfl (by decide) rfl rfl (fun v24 g24 l24 u24 h24 => ?_)
    obtain ⟨h24, rfl⟩ := h24
    first
      | exact q_iretI C dX6_stackOf_27 (by omega) (by decide) (Or.inl (⟨by omega, by omega, rfl⟩))
      | exact q_iretI C dX6_stackOf_27 (by omega) (by decide) (Or.inr (⟨by omega, rfl⟩))
  · refine q_aload_n C 0 dX6_stackOf_13 rfl rfl ?_
    refine q_iconst C dX6_stackOf_14 ?_
    refine q_iload_n C 1 dX6_stackOf_15 rfl rfl ?_
    refine q_Vf0 C (KX6_placeOf _ _ (by omega) _ (by omega) (by omega) o.2.2.1) mX6_placeOf ml_X6_62 dX6_stackOf_16 (by decide) (by decide) rfl rfl rfl (Nat.le_of_ble_eq_true rfl) rfl (by decide) rfl rfl (fun v16 l16 u16 h16 => ?_)
    refine q_goto C 27 dX6_stackOf_19 (by decide) ?_
    first
      | exact q_iretI C dX6_stackOf_27 (by omega) (by decide) (Or.inl (⟨by omega, by omega, rfl⟩))
      | exact q_iretI C dX6_stackOf_27 (by omega) (by decide) (Or.inr (⟨by omega, rfl⟩))
set_option maxRecDepth 20000 in
theorem KX6_level (g : qHp) (b : Int) (hb : -2147483648 ≤ b ∧ b < 2147483648) (o : yK (c0 g) 0) (hio : insN (c0 g) (stM (c0 g) 0)) : qC yX6_level (.code yX6_level cX6_level 2 (some .int)) 3 0 (fun ad => [.ref (ad 23), .int (iI b)]) g (qPi (fun (r : Int) (g' : qHp) => (((0 ≤ b ∧ b < (c0 g) 23 4 ∧ (c0 g) 26 b = 1)) ∧ (r = hM (c0 g) 0 (soS (stM (c0 g) 0) b) - 1 - (ixO b (stM (c0 g) 0 (soS (stM (c0 g) 0) b)) : Nat)) ∧ g' = (c0 g)) ∨ ((¬ (0 ≤ b ∧ b < (c0 g) 23 4 ∧ (c0 g) 26 b = 1)) ∧ g' = qUp (c0 g) 23 0 1))) qNo := by
  refine q_meth (by decide +kernel) rfl (fun _ => (Nat.le_of_ble_eq_true rfl)) (fun X ω C => ?_)
  refine q_loc [(0, .ref (ω.1 23)), (1, .int (iI b))] ⟨rfl, rfl, trivial⟩ ?_
  refine q_aload_n C 0 dX6_level_0 rfl rfl ?_
  refine q_iconst C dX6_level_1 ?_
  refine q_puti C (b := 23) 0 0 0 4 _ rfl (by decide) rfl in_X6 tyX6_ok nmX6 (by decide) fl_X6_48 rfl (by decide +kernel) rfl rfl rfl rfl (by omega) dX6_level_2 ?_
  refine q_hp (g2 := c0 g) rfl ?_
  generalize c0 g = g0 at *
  refine q_nm (fun hn => ?_)
  have r23_4 : 0 ≤ g0 23 4 ∧ g0 23 4 ≤ 20 := hn 23 4
  refine q_aload_n C 0 dX6_level_5 rfl rfl ?_
  refine q_iload_n C 1 dX6_level_6 rfl rfl ?_
  refine q_Vf0 C (KX6_isBox _ _ (by omega)) mX6_isBox ml_X6_120 dX6_level_7 (by decide) (by decide) rfl rfl rfl (Nat.le_of_ble_eq_true rfl) rfl (by decide) rfl rfl (fun v7 l7 u7 h7 => ?_)
  refine q_ifeq C 22 dX6_level_10 (by decide) (by omega) (fun c10 => ?_) (fun c10 => ?_)
  · refine q_aload_n C 0 dX6_level_22 rfl rfl ?_
    refine q_iconst C dX6_level_23 ?_
    refine q_Vi0 C (KX6_fails _ _ (by omega) (by omega)) mX6_fails ml_X6_110 dX6_level_24 (by decide) (by decide) rfl rfl rfl (Nat.le_of_ble_eq_true rfl) rfl (by decide) rfl rfl (fun v24 g24 l24 u24 h24 => ?_)
    obtain ⟨h24, rfl⟩ := h24
    first
      | exact q_iretI C dX6_level_27 (by omega) (by decide) (Or.inl ⟨by omega, h16.1, rfl⟩)
      | exact q_iretI C dX6_level_27 (by omega) (by decide) (Or.inr ⟨by omega, rfl⟩)
  · refine q_aload_n C 0 dX6_level_13 rfl rfl ?_
    refine q_iconst C dX6_level_14 ?_
    refine q_iload_n C 1 dX6_level_15 rfl rfl ?_
    refine q_Vf0 C (KX6_levelOf _ _ (by omega) _ (by omega) (by omega) _ o ((hio _).mpr (by omega))) mX6_levelOf ml_X6_98 dX6_level_16 (by decide) (by decide) rfl rfl rfl (Nat.le_of_ble_eq_true rfl) rfl (by decide) rfl rfl (fun v16 l16 u16 h16 => ?_)
    refine q_goto C 27 dX6_level_19 (by decide) ?_
    first
      | exact q_iretI C dX6_level_27 (by omega) (by decide) (Or.inl ⟨by omega, h16.1, rfl⟩)
      | exact q_iretI C dX6_level_27 (by omega) (by decide) (Or.inr ⟨by omega, rfl⟩)
set_option maxRecDepth 20000 in
theorem KX6_above (g : qHp) (b : Int) (hb : -2147483648 ≤ b ∧ b < 2147483648) (o : yK (c0 g) 0) (hio : insN (c0 g) (stM (c0 g) 0)) : qC yX6_above (.code yX6_above cX6_above 2 (some .int)) 3 0 (fun ad => [.ref (ad 23), .int (iI b)]) g (qPi (fun (r : Int) (g' : qHp) => (((0 ≤ b ∧ b < (c0 g) 23 4 ∧ (c0 g) 26 b = 1)) ∧ (r = (ixO b (stM (c0 g) 0 (soS (stM (c0 g) 0) b)) : Nat)) ∧ g' = (c0 g)) ∨ ((¬ (0 ≤ b ∧ b < (c0 g) 23 4 ∧ (c0 g) 26 b = 1)) ∧ g' = qUp (c0 g) 23 0 1))) qNo := by
  refine q_meth (by decide +kernel) rfl (fun _ => (Nat.le_of_ble_eq_true rfl)) (fun X ω C => ?_)
  refine q_loc [(0, .ref (ω.1 23)), (1, .int (iI b))] ⟨rfl, rfl, trivial⟩ ?_
  refine q_aload_n C 0 dX6_above_0 rfl rfl ?_
  refine q_iconst C dX6_above_1 ?_
  refine q_puti C (b := 23) 0 0 0 4 _ rfl (by decide) rfl in_X6 tyX6_ok nmX6 (by decide) fl_X6_48 rfl (by decide +kernel) rfl rfl rfl rfl (by omega) dX6_above_2 ?_
  refine q_hp (g2 := c0 g) rfl ?_
  generalize c0 g = g0 at *
  refine q_nm (fun hn => ?_)
  have r23_4 : 0 ≤ g0 23 4 ∧ g0 23 4 ≤ 20 := hn 23 4
  refine q_aload_n C 0 dX6_above_5 rfl rfl ?_
  refine q_iload_n C 1 dX6_above_6 rfl rfl ?_
  refine q_Vf0 C (KX6_isBox _ _ (by omega)) mX6_isBox ml_X6_120 dX6_above_7 (by decide) (by decide) rfl rfl rfl (Nat.le_of_ble_eq_true rfl) rfl (by decide) rfl rfl (fun v7 l7 u7 h7 => ?_)
  refine q_ifeq C 21 dX6_above_10 (by decide) (by omega) (fun c10 => ?_) (fun c10 => ?_)
  · refine q_aload_n C 0 dX6_above_21 rfl rfl ?_
    refine q_iconst C dX6_above_22 ?_
    refine q_Vi0 C (KX6_fails _ _ (by omega) (by omega)) mX6_fails ml_X6_110 dX6_above_23 (by decide) (by decide) rfl rfl rfl (Nat.le_of_ble_eq_true rfl) rfl (by decide) rfl rfl (fun v23 g23 l23 u23 h23 => ?_)
    obtain ⟨h23, rfl⟩ := h23
    first
      | exact q_iretI C dX6_above_26 (by omega) (by decide) (Or.inl (⟨by omega, by omega, rfl⟩))
      | exact q_iretI C dX6_above_26 (by omega) (by decide) (Or.inr (⟨by omega, rfl⟩))
  · refine q_aload_n C 0 dX6_above_13 rfl rfl ?_
    refine q_iload_n C 1 dX6_above_14 rfl rfl ?_
    refine q_Vf0 C (KX6_aboveOf _ _ (by omega) o ((hio _).mpr (by omega))) mX6_aboveOf ml_X6_101 dX6_above_15 (by decide) (by decide) rfl rfl rfl (Nat.le_of_ble_eq_true rfl) rfl (by decide) rfl rfl (fun v15 l15 u15 h15 => ?_)
    refine q_goto C 26 dX6_above_18 (by decide) ?_
    first
      | exact q_iretI C dX6_above_26 (by omega) (by decide) (Or.inl (⟨by omega, by omega, rfl⟩))
      | exact q_iretI C dX6_above_26 (by omega) (by decide) (Or.inr (⟨by omega, rfl⟩))
set_option maxRecDepth 20000 in
theorem KX6_height (g : qHp) (s : Int) (hs : -2147483648 ≤ s ∧ s < 2147483648)  : qC yX6_height (.code yX6_height cX6_height 2 (some .int)) 2 0 (fun ad => [.ref (ad 23), .int (iI s)]) g (qPi (fun (r : Int) (g' : qHp) => (((0 ≤ s ∧ s < (c0 g) 23 2)) ∧ (r = (c0 g) 29 s) ∧ g' = (c0 g)) ∨ ((¬ (0 ≤ s ∧ s < (c0 g) 23 2)) ∧ g' = qUp (c0 g) 23 0 1))) qNo := by
  refine q_meth (by decide +kernel) rfl (fun _ => (Nat.le_of_ble_eq_true rfl)) (fun X ω C => ?_)
  refine q_loc [(0, .ref (ω.1 23)), (1, .int (iI s))] ⟨rfl, rfl, trivial⟩ ?_
  refine q_aload_n C 0 dX6_height_0 rfl rfl ?_
  refine q_iconst C dX6_height_1 ?_
  refine q_puti C (b := 23) 0 0 0 4 _ rfl (by decide) rfl in_X6 tyX6_ok nmX6 (by decide) fl_X6_48 rfl (by decide +kernel) rfl rfl rfl rfl (by omega) dX6_height_2 ?_
  refine q_hp (g2 := c0 g) rfl ?_
  generalize c0 g = g0 at *
  refine q_nm (fun hn => ?_)
  have r23_2 : 0 ≤ g0 23 2 ∧ g0 23 2 ≤ 4 := hn 23 2
  refine q_aload_n C 0 dX6_height_5 rfl rfl ?_
  refine q_iload_n C 1 dX6_height_6 rfl rfl ?_
  refine q_Vf0 C (KX6_isStack _ _ (by omega)) mX6_isStack ml_X6_113 dX6_height_7 (by decide) (by decide) rfl rfl rfl (Nat.le_of_ble_eq_true rfl) rfl (by decide) rfl rfl (fun v7 l7 u7 h7 => ?_)
  refine q_ifeq C 22 dX6_height_10 (by decide) (by omega) (fun c10 => ?_) (fun c10 => ?_)
  · refine q_aload_n C 0 dX6_height_22 rfl rfl ?_
    refine q_iconst C dX6_height_23 ?_
    refine q_Vi0 C (KX6_fails _ _ (by omega) (by omega)) mX6_fails ml_X6_110 dX6_height_24 (by decide) (by decide) rfl rfl rfl (Nat.le_of_ble_eq_true rfl) rfl (by decide) rfl rfl (fun v24 g24 l24 u24 h24 => ?_)
    obtain ⟨h24, rfl⟩ := h24
    first
      | exact q_iretI C dX6_height_27 (by omega) (by decide) (Or.inl (⟨by omega, by omega, rfl⟩))
      | exact q_iretI C dX6_height_27 (by omega) (by decide) (Or.inr (⟨by omega, rfl⟩))
  · refine q_aload_n C 0 dX6_height_13 rfl rfl ?_
    refine q_getr C (b := 23) 9 rfl (by decide) rfl in_X6 (by decide) fl_X6_27 rfl dX6_height_14 ?_
    refine q_iload_n C 1 dX6_height_17 rfl rfl ?_
    refine q_iald C (b := 29) (n := 24) 0 4 rfl (by decide) (by decide) (by omega) (fun _ => rfl) dX6_height_18 (fun v18 e18 l18 u18 => ?_)
    refine q_goto C 27 dX6_height_19 (by decide) ?_
    first
      | exact q_iretI C dX6_height_27 (by omega) (by decide) (Or.inl (⟨by omega, by omega, rfl⟩))
      | exact q_iretI C dX6_height_27 (by omega) (by decide) (Or.inr (⟨by omega, rfl⟩))
set_option maxRecDepth 20000 in
theorem KX6_boxAt (g : qHp) (s : Int) (hs : -2147483648 ≤ s ∧ s < 2147483648) (k : Int) (hk : -2147483648 ≤ k ∧ k < 2147483648)  : qC yX6_boxAt (.code yX6_boxAt cX6_boxAt 3 (some .int)) 2 0 (fun ad => [.ref (ad 23), .int (iI s), .int (iI k)]) g (qPi (fun (r : Int) (g' : qHp) => (((0 ≤ s ∧ s < (c0 g) 23 2) ∧ (0 ≤ k ∧ k < (c0 g) 29 s)) ∧ (r = (c0 g) 30 (4 * s + k)) ∧ g' = (c0 g)) ∨ ((¬ (0 ≤ s ∧ s < (c0 g) 23 2)) ∧ g' = qUp (c0 g) 23 0 1) ∨ (((0 ≤ s ∧ s < (c0 g) 23 2) ∧ ¬ (0 ≤ k ∧ k < (c0 g) 29 s)) ∧ g' = qUp (c0 g) 23 0 2))) qNo := by
  refine q_meth (by decide +kernel) rfl (fun _ => (Nat.le_of_ble_eq_true rfl)) (fun X ω C => ?_)
  refine q_loc [(0, .ref (ω.1 23)), (1, .int (iI s)), (2, .int (iI k))] ⟨rfl, rfl, rfl, trivial⟩ ?_
  refine q_aload_n C 0 dX6_boxAt_0 rfl rfl ?_
  refine q_iconst C dX6_boxAt_1 ?_
  refine q_puti C (b := 23) 0 0 0 4 _ rfl (by decide) rfl in_X6 tyX6_ok nmX6 (by decide) fl_X6_48 rfl (by decide +kernel) rfl rfl rfl rfl (by omega) dX6_boxAt_2 ?_
  refine q_hp (g2 := c0 g) rfl ?_
  generalize c0 g = g0 at *
  refine q_nm (fun hn => ?_)
  have r23_2 : 0 ≤ g0 23 2 ∧ g0 23 2 ≤ 4 := hn 23 2
  refine q_aload_n C 0 dX6_boxAt_5 rfl rfl ?_
  refine q_iload_n C 1 dX6_boxAt_6 rfl rfl ?_
  refine q_Vf0 C (KX6_isStack _ _ (by omega)) mX6_isStack ml_X6_113 dX6_boxAt_7 (by decide) (by decide) rfl rfl rfl (Nat.le_of_ble_eq_true rfl) rfl (by decide) rfl rfl (fun v7 l7 u7 h7 => ?_)
  refine q_ifne C 19 dX6_boxAt_10 (by decide) (by omega) (fun c10 => ?_) (fun c10 => ?_)
  · refine q_iload_n C 2 dX6_boxAt_19 rfl rfl ?_
    refine q_iconst C dX6_boxAt_20 ?_
    refine q_aload_n C 0 dX6_boxAt_21 rfl rfl ?_
    refine q_getr C (b := 23) 9 rfl (by decide) rfl in_X6 (by decide) fl_X6_27 rfl dX6_boxAt_22 ?_
    refine q_iload_n C 1 dX6_boxAt_25 rfl rfl ?_
    refine q_iald C (b := 29) (n := 24) 0 4 rfl (by decide) (by decide) (by omega) (fun _ => rfl) dX6_boxAt_26 (fun v26 e26 l26 u26 => ?_)
    refine q_iconst C dX6_boxAt_27 ?_
    refine q_isub C dX6_boxAt_28 ?_
    refine q_Sf0 C (KX6_in _ _ (by omega) _ (by omega) _ (by omega)) mX6_in ml_X6_55 dX6_boxAt_29 (by decide) (by decide) rfl rfl rfl (Nat.le_of_ble_eq_true rfl) (fun v29 l29 u29 h29 => ?_)
    refine q_ifeq C 48 dX6_boxAt_32 (by decide) (by omega) (fun c32 => ?_) (fun c32 => ?_)
    · refine q_aload_n C 0 dX6_boxAt_48 rfl rfl ?_
      refine q_iconst C dX6_boxAt_49 ?_
      refine q_Vi0 C (KX6_fails _ _ (by omega) (by omega)) mX6_fails ml_X6_110 dX6_boxAt_50 (by decide) (by decide) rfl rfl rfl (Nat.le_of_ble_eq_true rfl) rfl (by decide) rfl rfl (fun v50 g50 l50 u50 h50 => ?_)
      obtain ⟨h50, rfl⟩ := h50
      first
        | exact q_iretI C dX6_boxAt_53 (by omega) (by decide) (Or.inl (⟨⟨by omega, by omega⟩, by omega, rfl⟩))
        | exact q_iretI C dX6_boxAt_53 (by omega) (by decide) (Or.inr (Or.inl (⟨by omega, rfl⟩)))
        | exact q_iretI C dX6_boxAt_53 (by omega) (by decide) (Or.inr (Or.inr (⟨⟨by omega, by omega⟩, rfl⟩)))
    · refine q_aload_n C 0 dX6_boxAt_35 rfl rfl ?_
      refine q_getr C (b := 23) 10 rfl (by decide) rfl in_X6 (by decide) fl_X6_30 rfl dX6_boxAt_36 ?_
      refine q_iconst C dX6_boxAt_39 ?_
      refine q_iload_n C 1 dX6_boxAt_40 rfl rfl ?_
      refine q_imul C dX6_boxAt_41 ?_
      refine q_iload_n C 2 dX6_boxAt_42 rfl rfl ?_
      refine q_iadd C dX6_boxAt_43 ?_
      refine q_iald C (b := 30) (n := 96) 0 19 rfl (by decide) (by decide) (by omega) (fun _ => rfl) dX6_boxAt_44 (fun v44 e44 l44 u44 => ?_)
      refine q_goto C 53 dX6_boxAt_45 (by decide) ?_
      first
        | exact q_iretI C dX6_boxAt_53 (by omega) (by decide) (Or.inl (⟨⟨by omega, by omega⟩, by omega, rfl⟩))
        | exact q_iretI C dX6_boxAt_53 (by omega) (by decide) (Or.inr (Or.inl (⟨by omega, rfl⟩)))
        | exact q_iretI C dX6_boxAt_53 (by omega) (by decide) (Or.inr (Or.inr (⟨⟨by omega, by omega⟩, rfl⟩)))
  · refine q_aload_n C 0 dX6_boxAt_13 rfl rfl ?_
    refine q_iconst C dX6_boxAt_14 ?_
    refine q_Vi0 C (KX6_fails _ _ (by omega) (by omega)) mX6_fails ml_X6_110 dX6_boxAt_15 (by decide) (by decide) rfl rfl rfl (Nat.le_of_ble_eq_true rfl) rfl (by decide) rfl rfl (fun v15 g15 l15 u15 h15 => ?_)
    obtain ⟨h15, rfl⟩ := h15
    first
      | exact q_iretI C dX6_boxAt_18 (by omega) (by decide) (Or.inl (⟨⟨by omega, by omega⟩, by omega, rfl⟩))
      | exact q_iretI C dX6_boxAt_18 (by omega) (by decide) (Or.inr (Or.inl (⟨by omega, rfl⟩)))
      | exact q_iretI C dX6_boxAt_18 (by omega) (by decide) (Or.inr (Or.inr (⟨⟨by omega, by omega⟩, rfl⟩)))
set_option maxRecDepth 20000 in
theorem KX6_heldUntil (g : qHp) (b : Int) (hb : -2147483648 ≤ b ∧ b < 2147483648)  : qC yX6_heldUntil (.code yX6_heldUntil cX6_heldUntil 2 (some .int)) 2 0 (fun ad => [.ref (ad 23), .int (iI b)]) g (qPi (fun (r : Int) (g' : qHp) => (((0 ≤ b ∧ b < (c0 g) 23 4 ∧ (c0 g) 26 b = 1) ∧ (c0 g) 27 b ≠ 45) ∧ (r = (c0 g) 28 b) ∧ g' = (c0 g)) ∨ ((¬ (0 ≤ b ∧ b < (c0 g) 23 4 ∧ (c0 g) 26 b = 1)) ∧ g' = qUp (c0 g) 23 0 1) ∨ (((0 ≤ b ∧ b < (c0 g) 23 4 ∧ (c0 g) 26 b = 1) ∧ (c0 g) 27 b = 45) ∧ g' = qUp (c0 g) 23 0 2))) qNo := by
  refine q_meth (by decide +kernel) rfl (fun _ => (Nat.le_of_ble_eq_true rfl)) (fun X ω C => ?_)
  refine q_loc [(0, .ref (ω.1 23)), (1, .int (iI b))] ⟨rfl, rfl, trivial⟩ ?_
  refine q_aload_n C 0 dX6_heldUntil_0 rfl rfl ?_
  refine q_iconst C dX6_heldUntil_1 ?_
  refine q_puti C (b := 23) 0 0 0 4 _ rfl (by decide) rfl in_X6 tyX6_ok nmX6 (by decide) fl_X6_48 rfl (by decide +kernel) rfl rfl rfl rfl (by omega) dX6_heldUntil_2 ?_
  refine q_hp (g2 := c0 g) rfl ?_
  generalize c0 g = g0 at *
  refine q_nm (fun hn => ?_)
  have r23_4 : 0 ≤ g0 23 4 ∧ g0 23 4 ≤ 20 := hn 23 4
  refine q_aload_n C 0 dX6_heldUntil_5 rfl rfl ?_
  refine q_iload_n C 1 dX6_heldUntil_6 rfl rfl ?_
  refine q_Vf0 C (KX6_isBox _ _ (by omega)) mX6_isBox ml_X6_120 dX6_heldUntil_7 (by decide) (by decide) rfl rfl rfl (Nat.le_of_ble_eq_true rfl) rfl (by decide) rfl rfl (fun v7 l7 u7 h7 => ?_)
  refine q_ifne C 19 dX6_heldUntil_10 (by decide) (by omega) (fun c10 => ?_) (fun c10 => ?_)
  · refine q_aload_n C 0 dX6_heldUntil_19 rfl rfl ?_
    refine q_getr C (b := 23) 7 rfl (by decide) rfl in_X6 (by decide) fl_X6_20 rfl dX6_heldUntil_20 ?_
    refine q_iload_n C 1 dX6_heldUntil_23 rfl rfl ?_
    refine q_cald C (b := 27) (n := 20) 0 65535 rfl (by decide) (by decide) (by omega) (fun _ => rfl) dX6_heldUntil_24 (fun v24 e24 l24 u24 => ?_)
    refine q_bipush C dX6_heldUntil_25 (by decide +kernel) ?_
    refine q_icmp_ne C 38 dX6_heldUntil_27 (by decide) (by omega) (by omega) (fun c27 => ?_) (fun c27 => ?_)
    · refine q_aload_n C 0 dX6_heldUntil_38 rfl rfl ?_
      refine q_getr C (b := 23) 8 rfl (by decide) rfl in_X6 (by decide) fl_X6_24 rfl dX6_heldUntil_39 ?_
      refine q_iload_n C 1 dX6_heldUntil_42 rfl rfl ?_
      refine q_iald C (b := 28) (n := 20) 0 1000 rfl (by decide) (by decide) (by omega) (fun _ => rfl) dX6_heldUntil_43 (fun v43 e43 l43 u43 => ?_)
      first
        | exact q_iretI C dX6_heldUntil_44 (by omega) (by decide) (Or.inl (⟨⟨by omega, by omega⟩, by omega, rfl⟩))
        | exact q_iretI C dX6_heldUntil_44 (by omega) (by decide) (Or.inr (Or.inl (⟨by omega, rfl⟩)))
        | exact q_iretI C dX6_heldUntil_44 (by omega) (by decide) (Or.inr (Or.inr (⟨⟨by omega, by omega⟩, rfl⟩)))
    · refine q_aload_n C 0 dX6_heldUntil_30 rfl rfl ?_
      refine q_iconst C dX6_heldUntil_31 ?_
      refine q_Vi0 C (KX6_fails _ _ (by omega) (by omega)) mX6_fails ml_X6_110 dX6_heldUntil_32 (by decide) (by decide) rfl rfl rfl (Nat.le_of_ble_eq_true rfl) rfl (by decide) rfl rfl (fun v32 g32 l32 u32 h32 => ?_)
      obtain ⟨h32, rfl⟩ := h32
      refine q_goto C 44 dX6_heldUntil_35 (by decide) ?_
      first
        | exact q_iretI C dX6_heldUntil_44 (by omega) (by decide) (Or.inl (⟨⟨by omega, by omega⟩, by omega, rfl⟩))
        | exact q_iretI C dX6_heldUntil_44 (by omega) (by decide) (Or.inr (Or.inl (⟨by omega, rfl⟩)))
        | exact q_iretI C dX6_heldUntil_44 (by omega) (by decide) (Or.inr (Or.inr (⟨⟨by omega, by omega⟩, rfl⟩)))
  · refine q_aload_n C 0 dX6_heldUntil_13 rfl rfl ?_
    refine q_iconst C dX6_heldUntil_14 ?_
    refine q_Vi0 C (KX6_fails _ _ (by omega) (by omega)) mX6_fails ml_X6_110 dX6_heldUntil_15 (by decide) (by decide) rfl rfl rfl (Nat.le_of_ble_eq_true rfl) rfl (by decide) rfl rfl (fun v15 g15 l15 u15 h15 => ?_)
    obtain ⟨h15, rfl⟩ := h15
    first
      | exact q_iretI C dX6_heldUntil_18 (by omega) (by decide) (Or.inl (⟨⟨by omega, by omega⟩, by omega, rfl⟩))
      | exact q_iretI C dX6_heldUntil_18 (by omega) (by decide) (Or.inr (Or.inl (⟨by omega, rfl⟩)))
      | exact q_iretI C dX6_heldUntil_18 (by omega) (by decide) (Or.inr (Or.inr (⟨⟨by omega, by omega⟩, rfl⟩)))
set_option maxRecDepth 20000 in
theorem KX6_pinnedAbove (g : qHp) (b : Int) (hb : -2147483648 ≤ b ∧ b < 2147483648) (o : yK (c0 g) 0) (hio : insN (c0 g) (stM (c0 g) 0)) : qC yX6_pinnedAbove (.code yX6_pinnedAbove cX6_pinnedAbove 5 (some .int)) 3 0 (fun ad => [.ref (ad 23), .int (iI b)]) g (qPi (fun (r : Int) (g' : qHp) => (((0 ≤ b ∧ b < (c0 g) 23 4 ∧ (c0 g) 26 b = 1)) ∧ (r = cntF (fun i => decide ((c0 g) 27 ((c0 g) 30 (4 * soS (stM (c0 g) 0) b + i)) = 112)) (hM (c0 g) 0 (soS (stM (c0 g) 0) b) - ((hM (c0 g) 0 (soS (stM (c0 g) 0) b) - 1 - (ixO b (stM (c0 g) 0 (soS (stM (c0 g) 0) b)) : Nat)) + 1)).toNat ((hM (c0 g) 0 (soS (stM (c0 g) 0) b) - 1 - (ixO b (stM (c0 g) 0 (soS (stM (c0 g) 0) b)) : Nat)) + 1)) ∧ g' = (c0 g)) ∨ ((¬ (0 ≤ b ∧ b < (c0 g) 23 4 ∧ (c0 g) 26 b = 1)) ∧ g' = qUp (c0 g) 23 0 1))) qNo := by
  refine q_meth (by decide +kernel) rfl (fun _ => (Nat.le_of_ble_eq_true rfl)) (fun X ω C => ?_)
  refine q_loc [(0, .ref (ω.1 23)), (1, .int (iI b))] ⟨rfl, rfl, trivial⟩ ?_
  refine q_aload_n C 0 dX6_pinnedAbove_0 rfl rfl ?_
  refine q_iconst C dX6_pinnedAbove_1 ?_
  refine q_puti C (b := 23) 0 0 0 4 _ rfl (by decide) rfl in_X6 tyX6_ok nmX6 (by decide) fl_X6_48 rfl (by decide +kernel) rfl rfl rfl rfl (by omega) dX6_pinnedAbove_2 ?_
  refine q_hp (g2 := c0 g) rfl ?_
  generalize c0 g = g0 at *
  refine q_nm (fun hn => ?_)
  have r23_4 : 0 ≤ g0 23 4 ∧ g0 23 4 ≤ 20 := hn 23 4
  refine q_aload_n C 0 dX6_pinnedAbove_5 rfl rfl ?_
  refine q_iload_n C 1 dX6_pinnedAbove_6 rfl rfl ?_
  refine q_Vf0 C (KX6_isBox _ _ (by omega)) mX6_isBox ml_X6_120 dX6_pinnedAbove_7 (by decide) (by decide) rfl rfl rfl (Nat.le_of_ble_eq_true rfl) rfl (by decide) rfl rfl (fun v7 l7 u7 h7 => ?_)
  refine q_ifne C 19 dX6_pinnedAbove_10 (by decide) (by omega) (fun c10 => ?_) (fun c10 => ?_)
  · refine q_aload_n C 0 dX6_pinnedAbove_19 rfl rfl ?_
    refine q_iconst C dX6_pinnedAbove_20 ?_
    refine q_iload_n C 1 dX6_pinnedAbove_21 rfl rfl ?_
    refine q_Vf0 C (KX6_placeOf _ _ (by omega) _ (by omega) (by omega) o.2.2.1) mX6_placeOf ml_X6_62 dX6_pinnedAbove_22 (by decide) (by decide) rfl rfl rfl (Nat.le_of_ble_eq_true rfl) rfl (by decide) rfl rfl (fun v22 l22 u22 h22 => ?_)
    refine q_istoreV_n C 2 dX6_pinnedAbove_25 rfl (by decide) (fun v25 e25 => ?_)
    refine q_iconst C dX6_pinnedAbove_26 ?_
    refine q_istoreV_n C 3 dX6_pinnedAbove_27 rfl (by decide) (fun v27 e27 => ?_)
    obtain ⟨x1, x2, x3, x4⟩ := nod_in o ((hio b).mpr (by omega))
    have hc4 := o.1
    have q25 : v25 = soS (stM g0 0) b := by omega
    have h29 : 0 ≤ g0 29 v25 ∧ g0 29 v25 ≤ 4 := hn 29 v25
    refine q_aload_n C 0 dX6_pinnedAbove_28 rfl rfl ?_
    refine q_iconst C dX6_pinnedAbove_29 ?_
    refine q_iload_n C 1 dX6_pinnedAbove_30 rfl rfl ?_
    refine q_Vf0 C (KX6_levelOf _ _ (by omega) _ (by omega) (by omega) _ o ((hio _).mpr (by omega))) mX6_levelOf ml_X6_98 dX6_pinnedAbove_31 (by decide) (by decide) rfl rfl rfl (Nat.le_of_ble_eq_true rfl) rfl (by decide) rfl rfl (fun v31 l31 u31 h31 => ?_)
    refine q_iconst C dX6_pinnedAbove_34 ?_
    refine q_iadd C dX6_pinnedAbove_35 ?_
    refine q_istoreV C dX6_pinnedAbove_36 (by decide) (fun v36 e36 => ?_)
    have h36 : 1 ≤ v36 ∧ v36 ≤ g0 29 v25 + 1 := by
      obtain ⟨h31, h31b⟩ := h31
      have e2 : hM g0 0 (soS (stM g0 0) b) = g0 29 v25 := by rw [← q25]; show g0 29 _ = g0 29 _; congr 1; omega
      rw [e2] at h31
      omega
    have loop : ∀ (n : Nat) (q : Int) (i : Int), ((g0 29 v25 + 1 - i) < (n : Int)) → (v36 ≤ i) → (i ≤ g0 29 v25 + 1) → (0 ≤ q ∧ q ≤ i) → (cntF (fun i => decide (g0 27 (g0 30 (4 * soS (stM g0 0) b + i)) = 112)) (g0 29 v25 - v36).toNat v36 = q + cntF (fun i => decide (g0 27 (g0 30 (4 * soS (stM g0 0) b + i)) = 112)) (g0 29 v25 - i).toNat i) → qT X ω 5 0 (qEnd X ω (qPi (fun (r : Int) (g' : qHp) => (((0 ≤ b ∧ b < g0 23 4 ∧ g0 26 b = 1)) ∧ (r = cntF (fun i => decide (g0 27 (g0 30 (4 * soS (stM g0 0) b + i)) = 112)) (hM g0 0 (soS (stM g0 0) b) - ((hM g0 0 (soS (stM g0 0) b) - 1 - (ixO b (stM g0 0 (soS (stM g0 0) b)) : Nat)) + 1)).toNat ((hM g0 0 (soS (stM g0 0) b) - 1 - (ixO b (stM g0 0 (soS (stM g0 0) b)) : Nat)) + 1)) ∧ g' = g0) ∨ ((¬ (0 ≤ b ∧ b < g0 23 4 ∧ g0 26 b = 1)) ∧ g' = qUp g0 23 0 1))) qNo 0) g0 38 [(0, .ref (ω.1 23)), (1, .int (iI b)), (2, .int (iI v25)), (3, .int (iI q)), (4, .int (iI i))] [] := by
      intro n
      induction n with
      | zero => intro q i hm hi hi2 hq hm2; exfalso; omega
      | succ n ih =>
        intro q i hm hi hi2 hq hm2
        refine q_iload C dX6_pinnedAbove_38 rfl ?_
        refine q_aload_n C 0 dX6_pinnedAbove_40 rfl rfl ?_
        refine q_getr C (b := 23) 9 rfl (by decide) rfl in_X6 (by decide) fl_X6_27 rfl dX6_pinnedAbove_41 ?_
        refine q_iload_n C 2 dX6_pinnedAbove_44 rfl rfl ?_
        refine q_iald C (b := 29) (n := 24) 0 4 rfl (by decide) (by decide) (by omega) (fun _ => rfl) dX6_pinnedAbove_45 (fun v45 e45 l45 u45 => ?_)
        refine q_icmp_ge C 81 dX6_pinnedAbove_46 (by decide) (by omega) (by omega) (fun c46 => ?_) (fun c46 => ?_)
        · refine q_iload_n C 3 dX6_pinnedAbove_81 rfl rfl ?_
          have hz : (g0 29 v25 - i).toNat = 0 := by omega
          rw [hz] at hm2
          simp only [cntF] at hm2
          refine q_iretI C dX6_pinnedAbove_82 (by omega) (by decide) (Or.inl ⟨by omega, ?_, rfl⟩)
          obtain ⟨h31, h31b⟩ := h31
          have e2 : hM g0 0 (soS (stM g0 0) b) = g0 29 v25 := by rw [← q25]; show g0 29 _ = g0 29 _; congr 1; omega
          rw [← h31, e2, ← e36]
          omega
        · refine q_iload_n C 3 dX6_pinnedAbove_49 rfl rfl ?_
          refine q_aload_n C 0 dX6_pinnedAbove_50 rfl rfl ?_
          refine q_aload_n C 0 dX6_pinnedAbove_51 rfl rfl ?_
          refine q_getr C (b := 23) 10 rfl (by decide) rfl in_X6 (by decide) fl_X6_30 rfl dX6_pinnedAbove_52 ?_
          refine q_iconst C dX6_pinnedAbove_55 ?_
          refine q_iload_n C 2 dX6_pinnedAbove_56 rfl rfl ?_
          refine q_imul C dX6_pinnedAbove_57 ?_
          refine q_iload C dX6_pinnedAbove_58 rfl ?_
          refine q_iadd C dX6_pinnedAbove_60 ?_
          refine q_iald C (b := 30) (n := 96) 0 19 rfl (by decide) (by decide) (by omega) (fun _ => rfl) dX6_pinnedAbove_61 (fun v61 e61 l61 u61 => ?_)
          refine q_Vf0 C (KX6_isPinned _ _ (by omega) (by omega)) mX6_isPinned ml_X6_73 dX6_pinnedAbove_62 (by decide) (by decide) rfl rfl rfl (Nat.le_of_ble_eq_true rfl) rfl (by decide) rfl rfl (fun v62 l62 u62 h62 => ?_)
          refine q_ifeq C 72 dX6_pinnedAbove_65 (by decide) (by omega) (fun c65 => ?_) (fun c65 => ?_)
          · refine q_iconst C dX6_pinnedAbove_72 ?_
            refine q_iadd C dX6_pinnedAbove_73 ?_
            refine q_istoreV_n C 3 dX6_pinnedAbove_74 rfl (by decide) (fun v74 e74 => ?_)
            refine q_iinc C dX6_pinnedAbove_75 rfl (by decide) (fun v75 e75 => ?_)
            refine q_goto C 38 dX6_pinnedAbove_78 (by decide) ?_
            refine q_loc [(0, .ref (ω.1 23)), (1, .int (iI b)), (2, .int (iI v25)), (3, .int (iI v74)), (4, .int (iI v75))] ⟨rfl, rfl, rfl, rfl, rfl, trivial⟩ ?_
            exact ih v74 v75 (by omega) (by omega) (by omega) (by omega) (by rw [e75, e74]; have e : (g0 29 v25 - i).toNat = (g0 29 v25 - (i + 1)).toNat + 1 := by {omega}; rw [e] at hm2; have eA : 4 * soS (stM g0 0) b + i = 4 * v25 + i := by {omega}; have eV : g0 30 (4 * soS (stM g0 0) b + i) = v61 := by {rw [eA]; omega}; simp only [cntF] at hm2; rw [eV] at hm2; first | (rw [decide_eq_true (show g0 27 v61 = 112 by omega)] at hm2; rw [hm2]; simp; omega) | (rw [decide_eq_false (show ¬ g0 27 v61 = 112 by omega)] at hm2; rw [hm2]; simp))
          · refine q_iconst C dX6_pinnedAbove_68 ?_
            refine q_goto C 73 dX6_pinnedAbove_69 (by decide) ?_
            refine q_iadd C dX6_pinnedAbove_73 ?_
            refine q_istoreV_n C 3 dX6_pinnedAbove_74 rfl (by decide) (fun v74 e74 => ?_)
            refine q_iinc C dX6_pinnedAbove_75 rfl (by decide) (fun v75 e75 => ?_)
            refine q_goto C 38 dX6_pinnedAbove_78 (by decide) ?_
            refine q_loc [(0, .ref (ω.1 23)), (1, .int (iI b)), (2, .int (iI v25)), (3, .int (iI v74)), (4, .int (iI v75))] ⟨rfl, rfl, rfl, rfl, rfl, trivial⟩ ?_
            exact ih v74 v75 (by omega) (by omega) (by omega) (by omega) (by rw [e75, e74]; have e : (g0 29 v25 - i).toNat = (g0 29 v25 - (i + 1)).toNat + 1 := by {omega}; rw [e] at hm2; have eA : 4 * soS (stM g0 0) b + i = 4 * v25 + i := by {omega}; have eV : g0 30 (4 * soS (stM g0 0) b + i) = v61 := by {rw [eA]; omega}; simp only [cntF] at hm2; rw [eV] at hm2; first | (rw [decide_eq_true (show g0 27 v61 = 112 by omega)] at hm2; rw [hm2]; simp; omega) | (rw [decide_eq_false (show ¬ g0 27 v61 = 112 by omega)] at hm2; rw [hm2]; simp))
    refine q_loc [(0, .ref (ω.1 23)), (1, .int (iI b)), (2, .int (iI v25)), (3, .int (iI v27)), (4, .int (iI v36))] ⟨rfl, rfl, rfl, rfl, rfl, trivial⟩ ?_
    exact loop ((g0 29 v25 + 1 - v36).toNat + 1) v27 v36 (by omega) (by omega) (by omega) (by omega) (by omega)
  · refine q_aload_n C 0 dX6_pinnedAbove_13 rfl rfl ?_
    refine q_iconst C dX6_pinnedAbove_14 ?_
    refine q_Vi0 C (KX6_fails _ _ (by omega) (by omega)) mX6_fails ml_X6_110 dX6_pinnedAbove_15 (by decide) (by decide) rfl rfl rfl (Nat.le_of_ble_eq_true rfl) rfl (by decide) rfl rfl (fun v15 g15 l15 u15 h15 => ?_)
    obtain ⟨h15, rfl⟩ := h15
    first
      | exact q_iretI C dX6_pinnedAbove_18 (by omega) (by decide) (Or.inl (⟨by omega, by omega, rfl⟩))
      | exact q_iretI C dX6_pinnedAbove_18 (by omega) (by decide) (Or.inr (⟨by omega, rfl⟩))
set_option maxRecDepth 20000 in
theorem KX6_appointmentOf (g : qHp) (b : Int) (hb : -2147483648 ≤ b ∧ b < 2147483648)  : qC yX6_appointmentOf (.code yX6_appointmentOf cX6_appointmentOf 3 (some .int)) 2 0 (fun ad => [.ref (ad 23), .int (iI b)]) g (qPi (fun (r : Int) (g' : qHp) => (((0 ≤ b ∧ b < (c0 g) 23 4 ∧ (c0 g) 26 b = 1) ∧ fstB (bkN (c0 g) b) ((c0 g) 23 13) ≠ -1) ∧ (r = fstB (bkN (c0 g) b) ((c0 g) 23 13)) ∧ g' = (c0 g)) ∨ ((¬ (0 ≤ b ∧ b < (c0 g) 23 4 ∧ (c0 g) 26 b = 1)) ∧ g' = qUp (c0 g) 23 0 1) ∨ (((0 ≤ b ∧ b < (c0 g) 23 4 ∧ (c0 g) 26 b = 1) ∧ fstB (bkN (c0 g) b) ((c0 g) 23 13) = -1) ∧ g' = qUp (c0 g) 23 0 2))) qNo := by
  refine q_meth (by decide +kernel) rfl (fun _ => (Nat.le_of_ble_eq_true rfl)) (fun X ω C => ?_)
  refine q_loc [(0, .ref (ω.1 23)), (1, .int (iI b))] ⟨rfl, rfl, trivial⟩ ?_
  refine q_aload_n C 0 dX6_appointmentOf_0 rfl rfl ?_
  refine q_iconst C dX6_appointmentOf_1 ?_
  refine q_puti C (b := 23) 0 0 0 4 _ rfl (by decide) rfl in_X6 tyX6_ok nmX6 (by decide) fl_X6_48 rfl (by decide +kernel) rfl rfl rfl rfl (by omega) dX6_appointmentOf_2 ?_
  refine q_hp (g2 := c0 g) rfl ?_
  generalize c0 g = g0 at *
  refine q_nm (fun hn => ?_)
  refine q_aload_n C 0 dX6_appointmentOf_5 rfl rfl ?_
  refine q_iload_n C 1 dX6_appointmentOf_6 rfl rfl ?_
  refine q_Vf0 C (KX6_isBox _ _ (by omega)) mX6_isBox ml_X6_120 dX6_appointmentOf_7 (by decide) (by decide) rfl rfl rfl (Nat.le_of_ble_eq_true rfl) rfl (by decide) rfl rfl (fun v7 l7 u7 h7 => ?_)
  refine q_ifne C 19 dX6_appointmentOf_10 (by decide) (by omega) (fun c10 => ?_) (fun c10 => ?_)
  · refine q_aload_n C 0 dX6_appointmentOf_19 rfl rfl ?_
    refine q_iload_n C 1 dX6_appointmentOf_20 rfl rfl ?_
    refine q_Vf0 C (KX6_appointmentIn _ _ (by omega)) mX6_appointmentIn ml_X6_129 dX6_appointmentOf_21 (by decide) (by decide) rfl rfl rfl (Nat.le_of_ble_eq_true rfl) rfl (by decide) rfl rfl (fun v21 l21 u21 h21 => ?_)
    refine q_istoreV_n C 2 dX6_appointmentOf_24 rfl (by decide) (fun v24 e24 => ?_)
    refine q_iload_n C 2 dX6_appointmentOf_25 rfl rfl ?_
    refine q_iconst C dX6_appointmentOf_26 ?_
    refine q_icmp_ne C 38 dX6_appointmentOf_27 (by decide) (by omega) (by omega) (fun c27 => ?_) (fun c27 => ?_)
    · refine q_iload_n C 2 dX6_appointmentOf_38 rfl rfl ?_
      first
        | exact q_iretI C dX6_appointmentOf_39 (by omega) (by decide) (Or.inl (⟨⟨by omega, by omega⟩, by omega, rfl⟩))
        | exact q_iretI C dX6_appointmentOf_39 (by omega) (by decide) (Or.inr (Or.inl (⟨by omega, rfl⟩)))
        | exact q_iretI C dX6_appointmentOf_39 (by omega) (by decide) (Or.inr (Or.inr (⟨⟨by omega, by omega⟩, rfl⟩)))
    · refine q_aload_n C 0 dX6_appointmentOf_30 rfl rfl ?_
      refine q_iconst C dX6_appointmentOf_31 ?_
      refine q_Vi0 C (KX6_fails _ _ (by omega) (by omega)) mX6_fails ml_X6_110 dX6_appointmentOf_32 (by decide) (by decide) rfl rfl rfl (Nat.le_of_ble_eq_true rfl) rfl (by decide) rfl rfl (fun v32 g32 l32 u32 h32 => ?_)
      obtain ⟨h32, rfl⟩ := h32
      refine q_goto C 39 dX6_appointmentOf_35 (by decide) ?_
      first
        | exact q_iretI C dX6_appointmentOf_39 (by omega) (by decide) (Or.inl (⟨⟨by omega, by omega⟩, by omega, rfl⟩))
        | exact q_iretI C dX6_appointmentOf_39 (by omega) (by decide) (Or.inr (Or.inl (⟨by omega, rfl⟩)))
        | exact q_iretI C dX6_appointmentOf_39 (by omega) (by decide) (Or.inr (Or.inr (⟨⟨by omega, by omega⟩, rfl⟩)))
  · refine q_aload_n C 0 dX6_appointmentOf_13 rfl rfl ?_
    refine q_iconst C dX6_appointmentOf_14 ?_
    refine q_Vi0 C (KX6_fails _ _ (by omega) (by omega)) mX6_fails ml_X6_110 dX6_appointmentOf_15 (by decide) (by decide) rfl rfl rfl (Nat.le_of_ble_eq_true rfl) rfl (by decide) rfl rfl (fun v15 g15 l15 u15 h15 => ?_)
    obtain ⟨h15, rfl⟩ := h15
    first
      | exact q_iretI C dX6_appointmentOf_18 (by omega) (by decide) (Or.inl (⟨⟨by omega, by omega⟩, by omega, rfl⟩))
      | exact q_iretI C dX6_appointmentOf_18 (by omega) (by decide) (Or.inr (Or.inl (⟨by omega, rfl⟩)))
      | exact q_iretI C dX6_appointmentOf_18 (by omega) (by decide) (Or.inr (Or.inr (⟨⟨by omega, by omega⟩, rfl⟩)))
set_option maxRecDepth 20000 in
theorem KX6_inLane (g : qHp) (l : Int) (hl : -2147483648 ≤ l ∧ l < 2147483648) (h : Int) (hh : -2147483648 ≤ h ∧ h < 2147483648)  : qC yX6_inLane (.code yX6_inLane cX6_inLane 3 (some .int)) 2 0 (fun ad => [.ref (ad 23), .int (iI l), .int (iI h)]) g (qPi (fun (r : Int) (g' : qHp) => (((0 ≤ l ∧ l ≤ 2) ∧ (0 ≤ h ∧ h ≤ 999)) ∧ (r = fstB (bkO (c0 g) l h) ((c0 g) 23 13)) ∧ g' = (c0 g)) ∨ ((¬ (0 ≤ l ∧ l ≤ 2)) ∧ g' = qUp (c0 g) 23 0 1) ∨ (((0 ≤ l ∧ l ≤ 2) ∧ ¬ (0 ≤ h ∧ h ≤ 999)) ∧ g' = qUp (c0 g) 23 0 2))) qNo := by
  refine q_meth (by decide +kernel) rfl (fun _ => (Nat.le_of_ble_eq_true rfl)) (fun X ω C => ?_)
  refine q_loc [(0, .ref (ω.1 23)), (1, .int (iI l)), (2, .int (iI h))] ⟨rfl, rfl, rfl, trivial⟩ ?_
  refine q_aload_n C 0 dX6_inLane_0 rfl rfl ?_
  refine q_iconst C dX6_inLane_1 ?_
  refine q_puti C (b := 23) 0 0 0 4 _ rfl (by decide) rfl in_X6 tyX6_ok nmX6 (by decide) fl_X6_48 rfl (by decide +kernel) rfl rfl rfl rfl (by omega) dX6_inLane_2 ?_
  refine q_hp (g2 := c0 g) rfl ?_
  generalize c0 g = g0 at *
  refine q_nm (fun hn => ?_)
  refine q_iload_n C 1 dX6_inLane_5 rfl rfl ?_
  refine q_iconst C dX6_inLane_6 ?_
  refine q_iconst C dX6_inLane_7 ?_
  refine q_Sf0 C (KX6_in _ _ (by omega) _ (by omega) _ (by omega)) mX6_in ml_X6_55 dX6_inLane_8 (by decide) (by decide) rfl rfl rfl (Nat.le_of_ble_eq_true rfl) (fun v8 l8 u8 h8 => ?_)
  refine q_ifne C 20 dX6_inLane_11 (by decide) (by omega) (fun c11 => ?_) (fun c11 => ?_)
  · refine q_iload_n C 2 dX6_inLane_20 rfl rfl ?_
    refine q_iconst C dX6_inLane_21 ?_
    refine q_sipush C dX6_inLane_22 (by decide +kernel) ?_
    refine q_Sf0 C (KX6_in _ _ (by omega) _ (by omega) _ (by omega)) mX6_in ml_X6_55 dX6_inLane_25 (by decide) (by decide) rfl rfl rfl (Nat.le_of_ble_eq_true rfl) (fun v25 l25 u25 h25 => ?_)
    refine q_ifeq C 40 dX6_inLane_28 (by decide) (by omega) (fun c28 => ?_) (fun c28 => ?_)
    · refine q_aload_n C 0 dX6_inLane_40 rfl rfl ?_
      refine q_iconst C dX6_inLane_41 ?_
      refine q_Vi0 C (KX6_fails _ _ (by omega) (by omega)) mX6_fails ml_X6_110 dX6_inLane_42 (by decide) (by decide) rfl rfl rfl (Nat.le_of_ble_eq_true rfl) rfl (by decide) rfl rfl (fun v42 g42 l42 u42 h42 => ?_)
      obtain ⟨h42, rfl⟩ := h42
      first
        | exact q_iretI C dX6_inLane_45 (by omega) (by decide) (Or.inl (⟨⟨by omega, by omega⟩, by omega, rfl⟩))
        | exact q_iretI C dX6_inLane_45 (by omega) (by decide) (Or.inr (Or.inl (⟨by omega, rfl⟩)))
        | exact q_iretI C dX6_inLane_45 (by omega) (by decide) (Or.inr (Or.inr (⟨⟨by omega, by omega⟩, rfl⟩)))
    · refine q_aload_n C 0 dX6_inLane_31 rfl rfl ?_
      refine q_iload_n C 1 dX6_inLane_32 rfl rfl ?_
      refine q_iload_n C 2 dX6_inLane_33 rfl rfl ?_
      refine q_Vf0 C (KX6_bookedIn _ _ (by omega) _ (by omega)) mX6_bookedIn ml_X6_148 dX6_inLane_34 (by decide) (by decide) rfl rfl rfl (Nat.le_of_ble_eq_true rfl) rfl (by decide) rfl rfl (fun v34 l34 u34 h34 => ?_)
      refine q_goto C 45 dX6_inLane_37 (by decide) ?_
      first
        | exact q_iretI C dX6_inLane_45 (by omega) (by decide) (Or.inl (⟨⟨by omega, by omega⟩, by omega, rfl⟩))
        | exact q_iretI C dX6_inLane_45 (by omega) (by decide) (Or.inr (Or.inl (⟨by omega, rfl⟩)))
        | exact q_iretI C dX6_inLane_45 (by omega) (by decide) (Or.inr (Or.inr (⟨⟨by omega, by omega⟩, rfl⟩)))
  · refine q_aload_n C 0 dX6_inLane_14 rfl rfl ?_
    refine q_iconst C dX6_inLane_15 ?_
    refine q_Vi0 C (KX6_fails _ _ (by omega) (by omega)) mX6_fails ml_X6_110 dX6_inLane_16 (by decide) (by decide) rfl rfl rfl (Nat.le_of_ble_eq_true rfl) rfl (by decide) rfl rfl (fun v16 g16 l16 u16 h16 => ?_)
    obtain ⟨h16, rfl⟩ := h16
    first
      | exact q_iretI C dX6_inLane_19 (by omega) (by decide) (Or.inl (⟨⟨by omega, by omega⟩, by omega, rfl⟩))
      | exact q_iretI C dX6_inLane_19 (by omega) (by decide) (Or.inr (Or.inl (⟨by omega, rfl⟩)))
      | exact q_iretI C dX6_inLane_19 (by omega) (by decide) (Or.inr (Or.inr (⟨⟨by omega, by omega⟩, rfl⟩)))
set_option maxRecDepth 20000 in
theorem KX6_firstHour (g : qHp) (b : Int) (hb : -2147483648 ≤ b ∧ b < 2147483648)  : qC yX6_firstHour (.code yX6_firstHour cX6_firstHour 4 (some .int)) 2 0 (fun ad => [.ref (ad 23), .int (iI b)]) g (qPi (fun (r : Int) (g' : qHp) => (((0 ≤ b ∧ b < (c0 g) 23 4 ∧ (c0 g) 26 b = 1) ∧ ((c0 g) 23 1 < r ∧ r ≤ 999)) ∧ ((¬ hl2 (c0 g) b r ∧ frM (c0 g) r) ∧ ∀ j, (c0 g) 23 1 < j → j < r → ¬ (¬ hl2 (c0 g) b j ∧ frM (c0 g) j)) ∧ g' = (c0 g)) ∨ ((¬ (0 ≤ b ∧ b < (c0 g) 23 4 ∧ (c0 g) 26 b = 1)) ∧ g' = qUp (c0 g) 23 0 1) ∨ (((0 ≤ b ∧ b < (c0 g) 23 4 ∧ (c0 g) 26 b = 1) ∧ ∀ j, (c0 g) 23 1 < j → j ≤ 999 → ¬ (¬ hl2 (c0 g) b j ∧ frM (c0 g) j)) ∧ g' = qUp (c0 g) 23 0 2))) qNo := by
  refine q_meth (by decide +kernel) rfl (fun _ => (Nat.le_of_ble_eq_true rfl)) (fun X ω C => ?_)
  refine q_loc [(0, .ref (ω.1 23)), (1, .int (iI b))] ⟨rfl, rfl, trivial⟩ ?_
  refine q_aload_n C 0 dX6_firstHour_0 rfl rfl ?_
  refine q_iconst C dX6_firstHour_1 ?_
  refine q_puti C (b := 23) 0 0 0 4 _ rfl (by decide) rfl in_X6 tyX6_ok nmX6 (by decide) fl_X6_48 rfl (by decide +kernel) rfl rfl rfl rfl (by omega) dX6_firstHour_2 ?_
  refine q_hp (g2 := c0 g) rfl ?_
  generalize c0 g = g0 at *
  refine q_nm (fun hn => ?_)
  have r23_1 : 0 ≤ g0 23 1 ∧ g0 23 1 ≤ 999 := hn 23 1
  have r23_4 : 0 ≤ g0 23 4 ∧ g0 23 4 ≤ 20 := hn 23 4
  refine q_aload_n C 0 dX6_firstHour_5 rfl rfl ?_
  refine q_iload_n C 1 dX6_firstHour_6 rfl rfl ?_
  refine q_Vf0 C (KX6_isBox _ _ (by omega)) mX6_isBox ml_X6_120 dX6_firstHour_7 (by decide) (by decide) rfl rfl rfl (Nat.le_of_ble_eq_true rfl) rfl (by decide) rfl rfl (fun v7 l7 u7 h7 => ?_)
  refine q_ifne C 19 dX6_firstHour_10 (by decide) (by omega) (fun c10 => ?_) (fun c10 => ?_)
  · refine q_aload_n C 0 dX6_firstHour_19 rfl rfl ?_
    refine q_geti C (b := 23) 1 1 0 999 rfl (by decide) rfl in_X6 (by decide) fl_X6_126 rfl rfl rfl dX6_firstHour_20 (fun v20 e20 l20 u20 => ?_)
    refine q_iconst C dX6_firstHour_23 ?_
    refine q_iadd C dX6_firstHour_24 ?_
    refine q_istoreV_n C 2 dX6_firstHour_25 rfl (by decide) (fun v25 e25 => ?_)
    have loop : ∀ (n : Nat) (h : Int), ((1001 - h) < (n : Int)) → (g0 23 1 < h ∧ h ≤ 1000) → (∀ j, g0 23 1 < j → j < h → ¬ (¬ hl2 g0 b j ∧ frM g0 j)) → qT X ω 4 0 (qEnd X ω (qPi (fun (r : Int) (g' : qHp) => (((0 ≤ b ∧ b < g0 23 4 ∧ g0 26 b = 1) ∧ (g0 23 1 < r ∧ r ≤ 999)) ∧ ((¬ hl2 g0 b r ∧ frM g0 r) ∧ ∀ j, g0 23 1 < j → j < r → ¬ (¬ hl2 g0 b j ∧ frM g0 j)) ∧ g' = g0) ∨ ((¬ (0 ≤ b ∧ b < g0 23 4 ∧ g0 26 b = 1)) ∧ g' = qUp g0 23 0 1) ∨ (((0 ≤ b ∧ b < g0 23 4 ∧ g0 26 b = 1) ∧ ∀ j, g0 23 1 < j → j ≤ 999 → ¬ (¬ hl2 g0 b j ∧ frM g0 j)) ∧ g' = qUp g0 23 0 2))) qNo 0) g0 26 [(0, .ref (ω.1 23)), (1, .int (iI b)), (2, .int (iI h))] [] := by
      intro n
      induction n with
      | zero => intro h hm hh2 hI; exfalso; omega
      | succ n ih =>
        intro h hm hh2 hI
        refine q_iload_n C 2 dX6_firstHour_26 rfl rfl ?_
        refine q_sipush C dX6_firstHour_27 (by decide +kernel) ?_
        refine q_icmp_gt C 90 dX6_firstHour_30 (by decide) (by omega) (by omega) (fun c30 => ?_) (fun c30 => ?_)
        · refine q_aload_n C 0 dX6_firstHour_90 rfl rfl ?_
          refine q_iconst C dX6_firstHour_91 ?_
          refine q_Vi0 C (KX6_fails _ _ (by omega) (by omega)) mX6_fails ml_X6_110 dX6_firstHour_92 (by decide) (by decide) rfl rfl rfl (Nat.le_of_ble_eq_true rfl) rfl (by decide) rfl rfl (fun v92 g92 l92 u92 h92 => ?_)
          obtain ⟨h92, rfl⟩ := h92
          exact q_iretI C dX6_firstHour_95 (by omega) (by decide) (Or.inr (Or.inr ⟨⟨by omega, fun j a c => hI j a (by omega)⟩, rfl⟩))
        · refine q_aload_n C 0 dX6_firstHour_33 rfl rfl ?_
          refine q_iconst C dX6_firstHour_34 ?_
          refine q_iload_n C 2 dX6_firstHour_35 rfl rfl ?_
          refine q_Vf0 C (KX6_bookedIn _ _ (by omega) _ (by omega)) mX6_bookedIn ml_X6_148 dX6_firstHour_36 (by decide) (by decide) rfl rfl rfl (Nat.le_of_ble_eq_true rfl) rfl (by decide) rfl rfl (fun v36 l36 u36 h36 => ?_)
          refine q_iconst C dX6_firstHour_39 ?_
          refine q_icmp_eq C 63 dX6_firstHour_40 (by decide) (by omega) (by omega) (fun c40 => ?_) (fun c40 => ?_)
          · refine q_iconst C dX6_firstHour_63 ?_
            refine q_goto C 68 dX6_firstHour_64 (by decide) ?_
            refine q_istoreV_n C 3 dX6_firstHour_68 rfl (by decide) (fun v68 e68 => ?_)
            refine q_iload_n C 3 dX6_firstHour_69 rfl rfl ?_
            refine q_ifeq C 84 dX6_firstHour_70 (by decide) (by omega) (fun c70 => ?_) (fun c70 => ?_)
            · refine q_iinc C dX6_firstHour_84 rfl (by decide) (fun v84 e84 => ?_)
              refine q_goto C 26 dX6_firstHour_87 (by decide) ?_
              refine q_loc [(0, .ref (ω.1 23)), (1, .int (iI b)), (2, .int (iI v84))] ⟨rfl, rfl, rfl, trivial⟩ ?_
              exact ih v84 (by omega) (by omega) (fun j a c => by by_cases e : j = h; (· subst e; omega); (· exact hI j a (by omega)))
            · refine q_aload_n C 0 dX6_firstHour_73 rfl rfl ?_
              refine q_iload_n C 1 dX6_firstHour_74 rfl rfl ?_
              refine q_iload_n C 2 dX6_firstHour_75 rfl rfl ?_
              refine q_Vf0 C (KX6_isHeldIn _ _ (by omega) _ (by omega) (by omega)) mX6_isHeldIn ml_X6_145 dX6_firstHour_76 (by decide) (by decide) rfl rfl rfl (Nat.le_of_ble_eq_true rfl) rfl (by decide) rfl rfl (fun v76 l76 u76 h76 => ?_)
              refine q_ifne C 84 dX6_firstHour_79 (by decide) (by omega) (fun c79 => ?_) (fun c79 => ?_)
              · refine q_iinc C dX6_firstHour_84 rfl (by decide) (fun v84 e84 => ?_)
                refine q_goto C 26 dX6_firstHour_87 (by decide) ?_
                refine q_loc [(0, .ref (ω.1 23)), (1, .int (iI b)), (2, .int (iI v84))] ⟨rfl, rfl, rfl, trivial⟩ ?_
                exact ih v84 (by omega) (by omega) (fun j a c => by by_cases e : j = h; (· subst e; omega); (· exact hI j a (by omega)))
              · refine q_iload_n C 2 dX6_firstHour_82 rfl rfl ?_
                exact q_iretI C dX6_firstHour_83 (by omega) (by decide) (Or.inl ⟨⟨by omega, by omega⟩, ⟨by omega, hI⟩, rfl⟩)
          · refine q_aload_n C 0 dX6_firstHour_43 rfl rfl ?_
            refine q_iconst C dX6_firstHour_44 ?_
            refine q_iload_n C 2 dX6_firstHour_45 rfl rfl ?_
            refine q_Vf0 C (KX6_bookedIn _ _ (by omega) _ (by omega)) mX6_bookedIn ml_X6_148 dX6_firstHour_46 (by decide) (by decide) rfl rfl rfl (Nat.le_of_ble_eq_true rfl) rfl (by decide) rfl rfl (fun v46 l46 u46 h46 => ?_)
            refine q_iconst C dX6_firstHour_49 ?_
            refine q_icmp_eq C 63 dX6_firstHour_50 (by decide) (by omega) (by omega) (fun c50 => ?_) (fun c50 => ?_)
            · refine q_iconst C dX6_firstHour_63 ?_
              refine q_goto C 68 dX6_firstHour_64 (by decide) ?_
              refine q_istoreV_n C 3 dX6_firstHour_68 rfl (by decide) (fun v68 e68 => ?_)
              refine q_iload_n C 3 dX6_firstHour_69 rfl rfl ?_
              refine q_ifeq C 84 dX6_firstHour_70 (by decide) (by omega) (fun c70 => ?_) (fun c70 => ?_)
              · refine q_iinc C dX6_firstHour_84 rfl (by decide) (fun v84 e84 => ?_)
                refine q_goto C 26 dX6_firstHour_87 (by decide) ?_
                refine q_loc [(0, .ref (ω.1 23)), (1, .int (iI b)), (2, .int (iI v84))] ⟨rfl, rfl, rfl, trivial⟩ ?_
                exact ih v84 (by omega) (by omega) (fun j a c => by by_cases e : j = h; (· subst e; omega); (· exact hI j a (by omega)))
              · refine q_aload_n C 0 dX6_firstHour_73 rfl rfl ?_
                refine q_iload_n C 1 dX6_firstHour_74 rfl rfl ?_
                refine q_iload_n C 2 dX6_firstHour_75 rfl rfl ?_
                refine q_Vf0 C (KX6_isHeldIn _ _ (by omega) _ (by omega) (by omega)) mX6_isHeldIn ml_X6_145 dX6_firstHour_76 (by decide) (by decide) rfl rfl rfl (Nat.le_of_ble_eq_true rfl) rfl (by decide) rfl rfl (fun v76 l76 u76 h76 => ?_)
                refine q_ifne C 84 dX6_firstHour_79 (by decide) (by omega) (fun c79 => ?_) (fun c79 => ?_)
                · refine q_iinc C dX6_firstHour_84 rfl (by decide) (fun v84 e84 => ?_)
                  refine q_goto C 26 dX6_firstHour_87 (by decide) ?_
                  refine q_loc [(0, .ref (ω.1 23)), (1, .int (iI b)), (2, .int (iI v84))] ⟨rfl, rfl, rfl, trivial⟩ ?_
                  exact ih v84 (by omega) (by omega) (fun j a c => by by_cases e : j = h; (· subst e; omega); (· exact hI j a (by omega)))
                · refine q_iload_n C 2 dX6_firstHour_82 rfl rfl ?_
                  exact q_iretI C dX6_firstHour_83 (by omega) (by decide) (Or.inl ⟨⟨by omega, by omega⟩, ⟨by omega, hI⟩, rfl⟩)
            · refine q_aload_n C 0 dX6_firstHour_53 rfl rfl ?_
              refine q_iconst C dX6_firstHour_54 ?_
              refine q_iload_n C 2 dX6_firstHour_55 rfl rfl ?_
              refine q_Vf0 C (KX6_bookedIn _ _ (by omega) _ (by omega)) mX6_bookedIn ml_X6_148 dX6_firstHour_56 (by decide) (by decide) rfl rfl rfl (Nat.le_of_ble_eq_true rfl) rfl (by decide) rfl rfl (fun v56 l56 u56 h56 => ?_)
              refine q_iconst C dX6_firstHour_59 ?_
              refine q_icmp_ne C 67 dX6_firstHour_60 (by decide) (by omega) (by omega) (fun c60 => ?_) (fun c60 => ?_)
              · refine q_iconst C dX6_firstHour_67 ?_
                refine q_istoreV_n C 3 dX6_firstHour_68 rfl (by decide) (fun v68 e68 => ?_)
                refine q_iload_n C 3 dX6_firstHour_69 rfl rfl ?_
                refine q_ifeq C 84 dX6_firstHour_70 (by decide) (by omega) (fun c70 => ?_) (fun c70 => ?_)
                · refine q_iinc C dX6_firstHour_84 rfl (by decide) (fun v84 e84 => ?_)
                  refine q_goto C 26 dX6_firstHour_87 (by decide) ?_
                  refine q_loc [(0, .ref (ω.1 23)), (1, .int (iI b)), (2, .int (iI v84))] ⟨rfl, rfl, rfl, trivial⟩ ?_
                  exact ih v84 (by omega) (by omega) (fun j a c => by by_cases e : j = h; (· subst e; omega); (· exact hI j a (by omega)))
                · refine q_aload_n C 0 dX6_firstHour_73 rfl rfl ?_
                  refine q_iload_n C 1 dX6_firstHour_74 rfl rfl ?_
                  refine q_iload_n C 2 dX6_firstHour_75 rfl rfl ?_
                  refine q_Vf0 C (KX6_isHeldIn _ _ (by omega) _ (by omega) (by omega)) mX6_isHeldIn ml_X6_145 dX6_firstHour_76 (by decide) (by decide) rfl rfl rfl (Nat.le_of_ble_eq_true rfl) rfl (by decide) rfl rfl (fun v76 l76 u76 h76 => ?_)
                  refine q_ifne C 84 dX6_firstHour_79 (by decide) (by omega) (fun c79 => ?_) (fun c79 => ?_)
                  · refine q_iinc C dX6_firstHour_84 rfl (by decide) (fun v84 e84 => ?_)
                    refine q_goto C 26 dX6_firstHour_87 (by decide) ?_
                    refine q_loc [(0, .ref (ω.1 23)), (1, .int (iI b)), (2, .int (iI v84))] ⟨rfl, rfl, rfl, trivial⟩ ?_
                    exact ih v84 (by omega) (by omega) (fun j a c => by by_cases e : j = h; (· subst e; omega); (· exact hI j a (by omega)))
                  · refine q_iload_n C 2 dX6_firstHour_82 rfl rfl ?_
                    exact q_iretI C dX6_firstHour_83 (by omega) (by decide) (Or.inl ⟨⟨by omega, by omega⟩, ⟨by omega, hI⟩, rfl⟩)
              · refine q_iconst C dX6_firstHour_63 ?_
                refine q_goto C 68 dX6_firstHour_64 (by decide) ?_
                refine q_istoreV_n C 3 dX6_firstHour_68 rfl (by decide) (fun v68 e68 => ?_)
                refine q_iload_n C 3 dX6_firstHour_69 rfl rfl ?_
                refine q_ifeq C 84 dX6_firstHour_70 (by decide) (by omega) (fun c70 => ?_) (fun c70 => ?_)
                · refine q_iinc C dX6_firstHour_84 rfl (by decide) (fun v84 e84 => ?_)
                  refine q_goto C 26 dX6_firstHour_87 (by decide) ?_
                  refine q_loc [(0, .ref (ω.1 23)), (1, .int (iI b)), (2, .int (iI v84))] ⟨rfl, rfl, rfl, trivial⟩ ?_
                  exact ih v84 (by omega) (by omega) (fun j a c => by by_cases e : j = h; (· subst e; omega); (· exact hI j a (by omega)))
                · refine q_aload_n C 0 dX6_firstHour_73 rfl rfl ?_
                  refine q_iload_n C 1 dX6_firstHour_74 rfl rfl ?_
                  refine q_iload_n C 2 dX6_firstHour_75 rfl rfl ?_
                  refine q_Vf0 C (KX6_isHeldIn _ _ (by omega) _ (by omega) (by omega)) mX6_isHeldIn ml_X6_145 dX6_firstHour_76 (by decide) (by decide) rfl rfl rfl (Nat.le_of_ble_eq_true rfl) rfl (by decide) rfl rfl (fun v76 l76 u76 h76 => ?_)
                  refine q_ifne C 84 dX6_firstHour_79 (by decide) (by omega) (fun c79 => ?_) (fun c79 => ?_)
                  · refine q_iinc C dX6_firstHour_84 rfl (by decide) (fun v84 e84 => ?_)
                    refine q_goto C 26 dX6_firstHour_87 (by decide) ?_
                    refine q_loc [(0, .ref (ω.1 23)), (1, .int (iI b)), (2, .int (iI v84))] ⟨rfl, rfl, rfl, trivial⟩ ?_
                    exact ih v84 (by omega) (by omega) (fun j a c => by by_cases e : j = h; (· subst e; omega); (· exact hI j a (by omega)))
                  · refine q_iload_n C 2 dX6_firstHour_82 rfl rfl ?_
                    exact q_iretI C dX6_firstHour_83 (by omega) (by decide) (Or.inl ⟨⟨by omega, by omega⟩, ⟨by omega, hI⟩, rfl⟩)
    refine q_loc [(0, .ref (ω.1 23)), (1, .int (iI b)), (2, .int (iI v25))] ⟨rfl, rfl, rfl, trivial⟩ ?_
    exact loop ((1001 - v25).toNat + 1) v25 (by omega) (by omega) (fun j a c => by exfalso; omega)
  · refine q_aload_n C 0 dX6_firstHour_13 rfl rfl ?_
    refine q_iconst C dX6_firstHour_14 ?_
    refine q_Vi0 C (KX6_fails _ _ (by omega) (by omega)) mX6_fails ml_X6_110 dX6_firstHour_15 (by decide) (by decide) rfl rfl rfl (Nat.le_of_ble_eq_true rfl) rfl (by decide) rfl rfl (fun v15 g15 l15 u15 h15 => ?_)
    obtain ⟨h15, rfl⟩ := h15
    first
      | exact q_iretI C dX6_firstHour_18 (by omega) (by decide) (Or.inl (⟨⟨by omega, by omega⟩, by omega, rfl⟩))
      | exact q_iretI C dX6_firstHour_18 (by omega) (by decide) (Or.inr (Or.inl (⟨by omega, rfl⟩)))
      | exact q_iretI C dX6_firstHour_18 (by omega) (by decide) (Or.inr (Or.inr (⟨by omega, rfl⟩)))
set_option maxRecDepth 20000 in
theorem KX6_moves_ (g : qHp)  : qC yX6_moves_ (.code yX6_moves_ cX6_moves_ 1 (some .int)) 0 0 (fun ad => [.ref (ad 23)]) g (qPi (fun (r : Int) (g' : qHp) => ((True) ∧ (r = (c0 g) 23 12) ∧ g' = (c0 g)))) qNo := by
  refine q_meth (by decide +kernel) rfl (fun _ => (Nat.le_of_ble_eq_true rfl)) (fun X ω C => ?_)
  refine q_loc [(0, .ref (ω.1 23))] ⟨rfl, trivial⟩ ?_
  refine q_aload_n C 0 dX6_moves__0 rfl rfl ?_
  refine q_iconst C dX6_moves__1 ?_
  refine q_puti C (b := 23) 0 0 0 4 _ rfl (by decide) rfl in_X6 tyX6_ok nmX6 (by decide) fl_X6_48 rfl (by decide +kernel) rfl rfl rfl rfl (by omega) dX6_moves__2 ?_
  refine q_hp (g2 := c0 g) rfl ?_
  generalize c0 g = g0 at *
  refine q_nm (fun hn => ?_)
  refine q_aload_n C 0 dX6_moves__5 rfl rfl ?_
  refine q_geti C (b := 23) 12 12 (-2147483648) 2147483647 rfl (by decide) rfl in_X6 (by decide) fl_X6_108 rfl rfl rfl dX6_moves__6 (fun v6 e6 l6 u6 => ?_)
  first
    | exact q_iretI C dX6_moves__9 (by omega) (by decide) (⟨trivial, by omega, rfl⟩)
set_option maxRecDepth 20000 in
theorem KX6_now (g : qHp)  : qC yX6_now (.code yX6_now cX6_now 1 (some .int)) 0 0 (fun ad => [.ref (ad 23)]) g (qPi (fun (r : Int) (g' : qHp) => ((True) ∧ (r = (c0 g) 23 1) ∧ g' = (c0 g)))) qNo := by
  refine q_meth (by decide +kernel) rfl (fun _ => (Nat.le_of_ble_eq_true rfl)) (fun X ω C => ?_)
  refine q_loc [(0, .ref (ω.1 23))] ⟨rfl, trivial⟩ ?_
  refine q_aload_n C 0 dX6_now_0 rfl rfl ?_
  refine q_iconst C dX6_now_1 ?_
  refine q_puti C (b := 23) 0 0 0 4 _ rfl (by decide) rfl in_X6 tyX6_ok nmX6 (by decide) fl_X6_48 rfl (by decide +kernel) rfl rfl rfl rfl (by omega) dX6_now_2 ?_
  refine q_hp (g2 := c0 g) rfl ?_
  generalize c0 g = g0 at *
  refine q_nm (fun hn => ?_)
  refine q_aload_n C 0 dX6_now_5 rfl rfl ?_
  refine q_geti C (b := 23) 1 1 0 999 rfl (by decide) rfl in_X6 (by decide) fl_X6_126 rfl rfl rfl dX6_now_6 (fun v6 e6 l6 u6 => ?_)
  first
    | exact q_iretI C dX6_now_9 (by omega) (by decide) (⟨trivial, by omega, rfl⟩)
