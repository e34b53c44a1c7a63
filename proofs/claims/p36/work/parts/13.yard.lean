/-! Yard: each method for the yard (cell 5) and the trial yard (cell 10) -/
def qCp (g : qHp) (a b : Nat) (n : Int) : qHp := fun k j => if k = b ∧ 0 ≤ j ∧ j < n then g a j else g k j
theorem qCp_row {g : qHp} {a b k : Nat} {n : Int} (h : k ≠ b) : qCp g a b n k = g k := by funext j; simp [qCp, h]
theorem qCp_in {g : qHp} {a b : Nat} {n j : Int} (h0 : 0 ≤ j) (h1 : j < n) : qCp g a b n b j = g a j := by simp [qCp, h0, h1]
theorem qCp_out {g : qHp} {a b : Nat} {n j : Int} (h : ¬ (0 ≤ j ∧ j < n)) : qCp g a b n b j = g b j := by
  unfold qCp
  rw [if_neg (fun q => h q.2)]
section QCP
variable {X : qEnv} {ω : qOm} {own : String} {cc : ByteArray} {nL : Nat} {ret : Option FieldType} {T : List ExceptionTableEntry} {fr mc k : Nat} {Q : State → Prop} {g : qHp} {pc : Nat} {ls : List (Nat × Value)} {st : List Value}
theorem q_copyi (C : qCx X ω own cc nL ret T fr mc) {a b idx na : Nat} {n : Int} (hla : qLay a = .inl (0, na)) (hlb : qLay b = .inl (0, na)) (ha38 : a < 24) (hb38 : b < 24) (hab : a ≠ b) (hn : 0 ≤ n ∧ n ≤ na) (hna : na < 2147483648) (hrg : ∀ j, qRng b j = qRng a j)
    (hlk : Cond.methodLink own idx arraycopyName ∈ qAW) (hnat : Cond.native arraycopyName ∈ qAW) (hstat : Cond.static arraycopyName ∈ qAW) (hini : Cond.initialized "java/lang/System" ∈ qAW) (hfr : 1 ≤ fr) (hcat : (st.map fun v => v.category).sum ≤ 8) (hnw : nativeFrameWords "java/lang/System" "arraycopy" 5 ≤ 20) (hd : decode cc pc = .ok (.invokestatic idx, 3))
    (kk : qT X ω nL k Q (qCp g a b n) (pc + 3) ls st) : qT X ω nL k Q g pc ls (.int (iI n) :: .int (iI 0) :: .ref (ω.1 b) :: .int (iI 0) :: .ref (ω.1 a) :: st) := by
  obtain ⟨p, l, e, R, s, m, args, below, meth, c⟩ := X
  obtain ⟨hx, hb, hr, hml, hown, hts, hlk0, htb, hlt, hSt, hfR, hlR, hcR, hsR⟩ := C
  intro H locs la hw hS hl
  have hea : (qWs ω.1 ω.2.1 g)[a]? = some (ω.1 a, .inl (ω.2.1 0, qAr 0 na (g a))) := by
    rw [qWs_get _ _ _ ha38]
    unfold qCe
    rw [hla]
  have heb : (qWs ω.1 ω.2.1 g)[b]? = some (ω.1 b, .inl (ω.2.1 0, qAr 0 na (g b))) := by
    rw [qWs_get _ _ _ hb38]
    unfold qCe
    rw [hlb]
  have z0 : ¬ iI 0 < 0 := by decide +kernel
  have hz : (iI 0).toNatClampNeg = 0 := by decide +kernel
  have hnt : (iI n).toNatClampNeg = n.toNat := iI_cl ⟨hn.1, by omega⟩
  have hn0 : ¬ iI n < 0 := by
    rw [iI_0, iI_lt (by omega) (by omega)]
    omega
  refine va_copyi hx hb (hml.trans hl.1.symm) hown (hts _ hlk) (hts _ hnat) (hts _ hstat) (hts _ hini) hSt.1 hw.1 hw.2.1 hS a b 0 0 hea heb rfl rfl rfl z0 z0 hn0 (by rw [hz, hnt]; omega) (by rw [hz, hnt]; omega) (fun _ _ => rfl) (by omega) (by omega) hd (fun H1 locs1 hP1 hD1 hS1 => ?_)
  have e1 : (na, Sum.inl (va_cpy (fun j : Nat => iI (g a j)) (fun j : Nat => iI (g b j)) (iI 0).toNatClampNeg (iI 0).toNatClampNeg (iI n).toNatClampNeg)) = qAr 0 na (qCp g a b n b) := by
    show (na, Sum.inl _) = (na, Sum.inl _)
    congr 2
    funext j
    unfold va_cpy
    rw [hz, hnt]
    by_cases h : 0 ≤ j ∧ j < 0 + n.toNat
    · rw [if_pos h, qCp_in (by omega) (by omega)]
      congr 2
      simp
    · rw [if_neg h, qCp_out (by omega)]
  have hset : (qWs ω.1 ω.2.1 g).set b (ω.1 b, .inl (ω.2.1 0, qAr 0 na (qCp g a b n b))) = qWs ω.1 ω.2.1 (qCp g a b n) := by
    apply List.ext_getElem?
    intro i
    by_cases hi : i = b
    · subst hi
      rw [List.getElem?_set_self (by simp [qWs]; exact hb38), qWs_get _ _ _ hb38]
      unfold qCe
      rw [hlb]
    · rw [List.getElem?_set_ne (Ne.symm hi)]
      by_cases h38 : i < 24
      · rw [qWs_get _ _ _ h38, qWs_get _ _ _ h38]
        unfold qCe
        rw [qCp_row hi]
      · rw [List.getElem?_eq_none (by simp [qWs]; omega), List.getElem?_eq_none (by simp [qWs]; omega)]
  rw [e1, hset] at hP1 hD1
  refine kk H1 locs1 la ⟨hP1, hD1, fun k' j => ?_⟩ hS1 hl
  unfold qCp
  by_cases h : k' = b ∧ 0 ≤ j ∧ j < n
  · rw [if_pos h, h.1, hrg]
    exact hw.2.2 a j
  · rw [if_neg h]
    exact hw.2.2 k' j
end QCP
theorem ml_ac : Cond.methodLink RX4 28 arraycopyName ∈ qAW := qm 601 (by decide +kernel) rfl
theorem w_acn : Cond.native arraycopyName ∈ qAW := qm 603 (by decide +kernel) rfl
theorem w_acs : Cond.static arraycopyName ∈ qAW := qm 602 (by decide +kernel) rfl
theorem w_aci : Cond.initialized "java/lang/System" ∈ qAW := qm 30 (by decide +kernel) rfl
set_option maxRecDepth 20000 in
theorem KX4_stackCount_5 (g : qHp)  : qC yX4_stackCount (.code yX4_stackCount cX4_stackCount 1 (some .int)) 0 0 (fun ad => [.ref (ad 5)]) g (qPi (fun (r : Int) (g' : qHp) => (r = (g 5 5)) ∧ g' = g)) qNo := by
  refine q_meth (by decide +kernel) rfl (fun _ => (Nat.le_of_ble_eq_true rfl)) (fun X ω C => ?_)
  refine q_nm (fun hn => ?_)
  have r5_5 : 0 ≤ g 5 5 ∧ g 5 5 ≤ 4 := hn 5 5
  refine q_loc [(0, .ref (ω.1 5))] ⟨rfl, trivial⟩ ?_
  refine q_aload_n C 0 dX4_stackCount_0 rfl rfl ?_
  refine q_geti C (b := 5) 5 5 0 4 rfl (by decide) rfl in_X4 (by decide) fl_X4_34 rfl rfl rfl dX4_stackCount_1 (fun v1 e1 l1 u1 => ?_)
  subst e1
  exact q_iretI C dX4_stackCount_4 (by omega) (by decide) (⟨by omega, rfl⟩)
set_option maxRecDepth 20000 in
theorem KX4_boxCount_5 (g : qHp)  : qC yX4_boxCount (.code yX4_boxCount cX4_boxCount 1 (some .int)) 0 0 (fun ad => [.ref (ad 5)]) g (qPi (fun (r : Int) (g' : qHp) => (r = g 5 6) ∧ g' = g)) qNo := by
  refine q_meth (by decide +kernel) rfl (fun _ => (Nat.le_of_ble_eq_true rfl)) (fun X ω C => ?_)
  refine q_nm (fun hn => ?_)
  have r5_5 : 0 ≤ g 5 5 ∧ g 5 5 ≤ 4 := hn 5 5
  refine q_loc [(0, .ref (ω.1 5))] ⟨rfl, trivial⟩ ?_
  refine q_aload_n C 0 dX4_boxCount_0 rfl rfl ?_
  refine q_geti C (b := 5) 6 6 (-2147483648) 2147483647 rfl (by decide) rfl in_X4 (by decide) fl_X4_38 rfl rfl rfl dX4_boxCount_1 (fun v1 e1 l1 u1 => ?_)
  subst e1
  exact q_iretI C dX4_boxCount_4 (by omega) (by decide) (⟨by omega, rfl⟩)
set_option maxRecDepth 20000 in
theorem KX4_hasStack_5 (g : qHp) (s : Int) (hs : -2147483648 ≤ s ∧ s < 2147483648)  : qC yX4_hasStack (.code yX4_hasStack cX4_hasStack 2 (some .boolean)) 0 0 (fun ad => [.ref (ad 5), .int (iI s)]) g (qPi (fun (r : Int) (g' : qHp) => (((0 ≤ s ∧ s < (g 5 5)) ∧ r = 1) ∨ (¬ (0 ≤ s ∧ s < (g 5 5)) ∧ r = 0)) ∧ g' = g)) qNo := by
  refine q_meth (by decide +kernel) rfl (fun _ => (Nat.le_of_ble_eq_true rfl)) (fun X ω C => ?_)
  refine q_nm (fun hn => ?_)
  have r5_5 : 0 ≤ g 5 5 ∧ g 5 5 ≤ 4 := hn 5 5
  refine q_loc [(0, .ref (ω.1 5)), (1, .int (iI s))] ⟨rfl, rfl, trivial⟩ ?_
  refine q_iload_n C 1 dX4_hasStack_0 rfl rfl ?_
  refine q_iflt C 16 dX4_hasStack_1 (by decide) (by omega) (fun c1 => ?_) (fun c1 => ?_)
  · refine q_iconst C dX4_hasStack_16 ?_
    exact q_iretZ C dX4_hasStack_17 (by omega) (by decide) (⟨by omega, rfl⟩)
  · refine q_iload_n C 1 dX4_hasStack_4 rfl rfl ?_
    refine q_aload_n C 0 dX4_hasStack_5 rfl rfl ?_
    refine q_geti C (b := 5) 5 5 0 4 rfl (by decide) rfl in_X4 (by decide) fl_X4_34 rfl rfl rfl dX4_hasStack_6 (fun v6 e6 l6 u6 => ?_)
    refine q_icmp_ge C 16 dX4_hasStack_9 (by decide) (by omega) (by omega) (fun c9 => ?_) (fun c9 => ?_)
    · refine q_iconst C dX4_hasStack_16 ?_
      subst e6
      exact q_iretZ C dX4_hasStack_17 (by omega) (by decide) (⟨by omega, rfl⟩)
    · refine q_iconst C dX4_hasStack_12 ?_
      refine q_goto C 17 dX4_hasStack_13 (by decide) ?_
      subst e6
      exact q_iretZ C dX4_hasStack_17 (by omega) (by decide) (⟨by omega, rfl⟩)
set_option maxRecDepth 20000 in
theorem KX4_heightOf_5 (g : qHp) (s : Int) (hs : -2147483648 ≤ s ∧ s < 2147483648)  : qC yX4_heightOf (.code yX4_heightOf cX4_heightOf 2 (some .int)) 0 0 (fun ad => [.ref (ad 5), .int (iI s)]) g (qPi (fun (r : Int) (g' : qHp) => (r = yHt (g 5 5) (g 7) s) ∧ g' = g)) qNo := by
  refine q_meth (by decide +kernel) rfl (fun _ => (Nat.le_of_ble_eq_true rfl)) (fun X ω C => ?_)
  refine q_nm (fun hn => ?_)
  have r5_5 : 0 ≤ g 5 5 ∧ g 5 5 ≤ 4 := hn 5 5
  refine q_loc [(0, .ref (ω.1 5)), (1, .int (iI s))] ⟨rfl, rfl, trivial⟩ ?_
  refine q_iload_n C 1 dX4_heightOf_0 rfl rfl ?_
  refine q_iflt C 21 dX4_heightOf_1 (by decide) (by omega) (fun c1 => ?_) (fun c1 => ?_)
  · refine q_iconst C dX4_heightOf_21 ?_
    exact q_iretI C dX4_heightOf_22 (by omega) (by decide) (⟨by unfold yHt; first | rw [if_pos (by omega)] | rw [if_neg (by omega)], rfl⟩)
  · refine q_iload_n C 1 dX4_heightOf_4 rfl rfl ?_
    refine q_aload_n C 0 dX4_heightOf_5 rfl rfl ?_
    refine q_geti C (b := 5) 5 5 0 4 rfl (by decide) rfl in_X4 (by decide) fl_X4_34 rfl rfl rfl dX4_heightOf_6 (fun v6 e6 l6 u6 => ?_)
    refine q_icmp_ge C 21 dX4_heightOf_9 (by decide) (by omega) (by omega) (fun c9 => ?_) (fun c9 => ?_)
    · refine q_iconst C dX4_heightOf_21 ?_
      subst e6
      exact q_iretI C dX4_heightOf_22 (by omega) (by decide) (⟨by unfold yHt; first | rw [if_pos (by omega)] | rw [if_neg (by omega)], rfl⟩)
    · refine q_aload_n C 0 dX4_heightOf_12 rfl rfl ?_
      refine q_getr C (b := 5) 2 rfl (by decide) rfl in_X4 (by decide) fl_X4_15 rfl dX4_heightOf_13 ?_
      refine q_iload_n C 1 dX4_heightOf_16 rfl rfl ?_
      refine q_iald C (b := 7) (n := 4) 0 4 rfl (by decide) (by decide) (by omega) (fun _ => rfl) dX4_heightOf_17 (fun v17 e17 l17 u17 => ?_)
      refine q_goto C 22 dX4_heightOf_18 (by decide) ?_
      subst e17 e6
      exact q_iretI C dX4_heightOf_22 (by omega) (by decide) (⟨by unfold yHt; first | rw [if_pos (by omega)] | rw [if_neg (by omega)], rfl⟩)
set_option maxRecDepth 20000 in
theorem KX4_isFull_5 (g : qHp) (s : Int) (hs : -2147483648 ≤ s ∧ s < 2147483648)  : qC yX4_isFull (.code yX4_isFull cX4_isFull 2 (some .boolean)) 0 0 (fun ad => [.ref (ad 5), .int (iI s)]) g (qPi (fun (r : Int) (g' : qHp) => (((s < 0 ∨ (g 5 5) ≤ s ∨ (g 6) s ≤ (g 7) s) ∧ r = 1) ∨ (¬ (s < 0 ∨ (g 5 5) ≤ s ∨ (g 6) s ≤ (g 7) s) ∧ r = 0)) ∧ g' = g)) qNo := by
  refine q_meth (by decide +kernel) rfl (fun _ => (Nat.le_of_ble_eq_true rfl)) (fun X ω C => ?_)
  refine q_nm (fun hn => ?_)
  have r5_5 : 0 ≤ g 5 5 ∧ g 5 5 ≤ 4 := hn 5 5
  refine q_loc [(0, .ref (ω.1 5)), (1, .int (iI s))] ⟨rfl, rfl, trivial⟩ ?_
  refine q_iload_n C 1 dX4_isFull_0 rfl rfl ?_
  refine q_iflt C 27 dX4_isFull_1 (by decide) (by omega) (fun c1 => ?_) (fun c1 => ?_)
  · refine q_iconst C dX4_isFull_27 ?_
    refine q_goto C 32 dX4_isFull_28 (by decide) ?_
    exact q_iretZ C dX4_isFull_32 (by omega) (by decide) (⟨by omega, rfl⟩)
  · refine q_iload_n C 1 dX4_isFull_4 rfl rfl ?_
    refine q_aload_n C 0 dX4_isFull_5 rfl rfl ?_
    refine q_geti C (b := 5) 5 5 0 4 rfl (by decide) rfl in_X4 (by decide) fl_X4_34 rfl rfl rfl dX4_isFull_6 (fun v6 e6 l6 u6 => ?_)
    refine q_icmp_ge C 27 dX4_isFull_9 (by decide) (by omega) (by omega) (fun c9 => ?_) (fun c9 => ?_)
    · refine q_iconst C dX4_isFull_27 ?_
      refine q_goto C 32 dX4_isFull_28 (by decide) ?_
      subst e6
      exact q_iretZ C dX4_isFull_32 (by omega) (by decide) (⟨by omega, rfl⟩)
    · refine q_aload_n C 0 dX4_isFull_12 rfl rfl ?_
      refine q_getr C (b := 5) 2 rfl (by decide) rfl in_X4 (by decide) fl_X4_15 rfl dX4_isFull_13 ?_
      refine q_iload_n C 1 dX4_isFull_16 rfl rfl ?_
      refine q_iald C (b := 7) (n := 4) 0 4 rfl (by decide) (by decide) (by omega) (fun _ => rfl) dX4_isFull_17 (fun v17 e17 l17 u17 => ?_)
      refine q_aload_n C 0 dX4_isFull_18 rfl rfl ?_
      refine q_getr C (b := 5) 1 rfl (by decide) rfl in_X4 (by decide) fl_X4_9 rfl dX4_isFull_19 ?_
      refine q_iload_n C 1 dX4_isFull_22 rfl rfl ?_
      refine q_iald C (b := 6) (n := 4) 0 4 rfl (by decide) (by decide) (by omega) (fun _ => rfl) dX4_isFull_23 (fun v23 e23 l23 u23 => ?_)
      refine q_icmp_lt C 31 dX4_isFull_24 (by decide) (by omega) (by omega) (fun c24 => ?_) (fun c24 => ?_)
      · refine q_iconst C dX4_isFull_31 ?_
        subst e23 e17 e6
        exact q_iretZ C dX4_isFull_32 (by omega) (by decide) (⟨by omega, rfl⟩)
      · refine q_iconst C dX4_isFull_27 ?_
        refine q_goto C 32 dX4_isFull_28 (by decide) ?_
        subst e23 e17 e6
        exact q_iretZ C dX4_isFull_32 (by omega) (by decide) (⟨by omega, rfl⟩)
set_option maxRecDepth 20000 in
theorem KX4_topOf_5 (g : qHp) (s : Int) (hs : -2147483648 ≤ s ∧ s < 2147483648)  : qC yX4_topOf (.code yX4_topOf cX4_topOf 2 (some .int)) 0 0 (fun ad => [.ref (ad 5), .int (iI s)]) g (qPi (fun (r : Int) (g' : qHp) => (r = yTop (g 5 5) (g 7) (g 8) s) ∧ g' = g)) qNo := by
  refine q_meth (by decide +kernel) rfl (fun _ => (Nat.le_of_ble_eq_true rfl)) (fun X ω C => ?_)
  refine q_nm (fun hn => ?_)
  have r5_5 : 0 ≤ g 5 5 ∧ g 5 5 ≤ 4 := hn 5 5
  refine q_loc [(0, .ref (ω.1 5)), (1, .int (iI s))] ⟨rfl, rfl, trivial⟩ ?_
  refine q_iload_n C 1 dX4_topOf_0 rfl rfl ?_
  refine q_iflt C 21 dX4_topOf_1 (by decide) (by omega) (fun c1 => ?_) (fun c1 => ?_)
  · refine q_iconst C dX4_topOf_21 ?_
    exact q_iretI C dX4_topOf_22 (by omega) (by decide) (⟨by unfold yTop; first | rw [if_pos (by omega)] | rw [if_neg (by omega)], rfl⟩)
  · refine q_iload_n C 1 dX4_topOf_4 rfl rfl ?_
    refine q_aload_n C 0 dX4_topOf_5 rfl rfl ?_
    refine q_geti C (b := 5) 5 5 0 4 rfl (by decide) rfl in_X4 (by decide) fl_X4_34 rfl rfl rfl dX4_topOf_6 (fun v6 e6 l6 u6 => ?_)
    refine q_icmp_ge C 21 dX4_topOf_9 (by decide) (by omega) (by omega) (fun c9 => ?_) (fun c9 => ?_)
    · refine q_iconst C dX4_topOf_21 ?_
      subst e6
      exact q_iretI C dX4_topOf_22 (by omega) (by decide) (⟨by unfold yTop; first | rw [if_pos (by omega)] | rw [if_neg (by omega)], rfl⟩)
    · refine q_aload_n C 0 dX4_topOf_12 rfl rfl ?_
      refine q_getr C (b := 5) 2 rfl (by decide) rfl in_X4 (by decide) fl_X4_15 rfl dX4_topOf_13 ?_
      refine q_iload_n C 1 dX4_topOf_16 rfl rfl ?_
      refine q_iald C (b := 7) (n := 4) 0 4 rfl (by decide) (by decide) (by omega) (fun _ => rfl) dX4_topOf_17 (fun v17 e17 l17 u17 => ?_)
      refine q_ifne C 23 dX4_topOf_18 (by decide) (by omega) (fun c18 => ?_) (fun c18 => ?_)
      · refine q_aload_n C 0 dX4_topOf_23 rfl rfl ?_
        refine q_getr C (b := 5) 3 rfl (by decide) rfl in_X4 (by decide) fl_X4_18 rfl dX4_topOf_24 ?_
        refine q_iload_n C 1 dX4_topOf_27 rfl rfl ?_
        refine q_iconst C dX4_topOf_28 ?_
        refine q_imul C dX4_topOf_29 ?_
        refine q_aload_n C 0 dX4_topOf_30 rfl rfl ?_
        refine q_getr C (b := 5) 2 rfl (by decide) rfl in_X4 (by decide) fl_X4_15 rfl dX4_topOf_31 ?_
        refine q_iload_n C 1 dX4_topOf_34 rfl rfl ?_
        refine q_iald C (b := 7) (n := 4) 0 4 rfl (by decide) (by decide) (by omega) (fun _ => rfl) dX4_topOf_35 (fun v35 e35 l35 u35 => ?_)
        refine q_iadd C dX4_topOf_36 ?_
        refine q_iconst C dX4_topOf_37 ?_
        refine q_isub C dX4_topOf_38 ?_
        refine q_iald C (b := 8) (n := 16) 0 19 rfl (by decide) (by decide) (by omega) (fun _ => rfl) dX4_topOf_39 (fun v39 e39 l39 u39 => ?_)
        subst e39 e35 e17 e6
        exact q_iretI C dX4_topOf_40 (by omega) (by decide) (⟨by unfold yTop; first | rw [if_pos (by omega)] | rw [if_neg (by omega)], rfl⟩)
      · refine q_iconst C dX4_topOf_21 ?_
        subst e17 e6
        exact q_iretI C dX4_topOf_22 (by omega) (by decide) (⟨by unfold yTop; first | rw [if_pos (by omega)] | rw [if_neg (by omega)], rfl⟩)
set_option maxRecDepth 20000 in
theorem KX4_stackWith_5 (g : qHp) (x : Int) (hx : -2147483648 ≤ x ∧ x < 2147483648)  : qC yX4_stackWith (.code yX4_stackWith cX4_stackWith 2 (some .int)) 0 0 (fun ad => [.ref (ad 5), .int (iI x)]) g (qPi (fun (r : Int) (g' : qHp) => (r = ySt (g 9) x) ∧ g' = g)) qNo := by
  refine q_meth (by decide +kernel) rfl (fun _ => (Nat.le_of_ble_eq_true rfl)) (fun X ω C => ?_)
  refine q_nm (fun hn => ?_)
  have r5_5 : 0 ≤ g 5 5 ∧ g 5 5 ≤ 4 := hn 5 5
  refine q_loc [(0, .ref (ω.1 5)), (1, .int (iI x))] ⟨rfl, rfl, trivial⟩ ?_
  refine q_iload_n C 1 dX4_stackWith_0 rfl rfl ?_
  refine q_iflt C 19 dX4_stackWith_1 (by decide) (by omega) (fun c1 => ?_) (fun c1 => ?_)
  · refine q_iconst C dX4_stackWith_19 ?_
    exact q_iretI C dX4_stackWith_20 (by omega) (by decide) (⟨by unfold ySt; first | rw [if_pos (by omega)] | rw [if_neg (by omega)], rfl⟩)
  · refine q_iload_n C 1 dX4_stackWith_4 rfl rfl ?_
    refine q_bipush C dX4_stackWith_5 (by decide +kernel) ?_
    refine q_icmp_ge C 19 dX4_stackWith_7 (by decide) (by omega) (by omega) (fun c7 => ?_) (fun c7 => ?_)
    · refine q_iconst C dX4_stackWith_19 ?_
      exact q_iretI C dX4_stackWith_20 (by omega) (by decide) (⟨by unfold ySt; first | rw [if_pos (by omega)] | rw [if_neg (by omega)], rfl⟩)
    · refine q_aload_n C 0 dX4_stackWith_10 rfl rfl ?_
      refine q_getr C (b := 5) 4 rfl (by decide) rfl in_X4 (by decide) fl_X4_21 rfl dX4_stackWith_11 ?_
      refine q_iload_n C 1 dX4_stackWith_14 rfl rfl ?_
      refine q_iald C (b := 9) (n := 20) (-1) 3 rfl (by decide) (by decide) (by omega) (fun _ => rfl) dX4_stackWith_15 (fun v15 e15 l15 u15 => ?_)
      refine q_goto C 20 dX4_stackWith_16 (by decide) ?_
      subst e15
      exact q_iretI C dX4_stackWith_20 (by omega) (by decide) (⟨by unfold ySt; first | rw [if_pos (by omega)] | rw [if_neg (by omega)], rfl⟩)
set_option maxRecDepth 20000 in
theorem KX4_boxOn_5 (g : qHp) (s : Int) (hs : -2147483648 ≤ s ∧ s < 2147483648) (k : Int) (hk : -2147483648 ≤ k ∧ k < 2147483648)  : qC yX4_boxOn (.code yX4_boxOn cX4_boxOn 3 (some .int)) 1 0 (fun ad => [.ref (ad 5), .int (iI s), .int (iI k)]) g (qPi (fun (r : Int) (g' : qHp) => (r = yAt (g 5 5) (g 7) (g 8) s k) ∧ g' = g)) qNo := by
  refine q_meth (by decide +kernel) rfl (fun _ => (Nat.le_of_ble_eq_true rfl)) (fun X ω C => ?_)
  refine q_nm (fun hn => ?_)
  have r5_5 : 0 ≤ g 5 5 ∧ g 5 5 ≤ 4 := hn 5 5
  refine q_loc [(0, .ref (ω.1 5)), (1, .int (iI s)), (2, .int (iI k))] ⟨rfl, rfl, rfl, trivial⟩ ?_
  refine q_iload_n C 2 dX4_boxOn_0 rfl rfl ?_
  refine q_iflt C 13 dX4_boxOn_1 (by decide) (by omega) (fun c1 => ?_) (fun c1 => ?_)
  · refine q_iconst C dX4_boxOn_13 ?_
    
    exact q_iretI C dX4_boxOn_14 (by omega) (by decide) ⟨by unfold yAt; rw [if_neg (by omega)], rfl⟩
  · refine q_iload_n C 2 dX4_boxOn_4 rfl rfl ?_
    refine q_aload_n C 0 dX4_boxOn_5 rfl rfl ?_
    refine q_iload_n C 1 dX4_boxOn_6 rfl rfl ?_
    refine q_Vf0 C (KX4_heightOf_5 _ _ (by omega)) mX4_heightOf ml_X4_50 dX4_boxOn_7 (by decide) (by decide) rfl rfl rfl (Nat.le_of_ble_eq_true rfl) rfl (by decide) rfl rfl (fun v7 l7 u7 h7 => ?_)
    refine q_icmp_lt C 15 dX4_boxOn_10 (by decide) (by omega) (by omega) (fun c10 => ?_) (fun c10 => ?_)
    · refine q_aload_n C 0 dX4_boxOn_15 rfl rfl ?_
      have hs5 : 0 ≤ s ∧ s < (g 5 5) ∧ yHt (g 5 5) (g 7) s = (g 7) s := by
        unfold yHt at h7 ⊢
        by_cases q : 0 ≤ s ∧ s < (g 5 5)
        · rw [if_pos q]; exact ⟨q.1, q.2, rfl⟩
        · rw [if_neg q] at h7; omega
      have hr5 : (g 7) s ≤ 4 := (hn 7 s).2
      refine q_getr C (b := 5) 3 rfl (by decide) rfl in_X4 (by decide) fl_X4_18 rfl dX4_boxOn_16 ?_
      refine q_iload_n C 1 dX4_boxOn_19 rfl rfl ?_
      refine q_iconst C dX4_boxOn_20 ?_
      refine q_imul C dX4_boxOn_21 ?_
      refine q_iload_n C 2 dX4_boxOn_22 rfl rfl ?_
      refine q_iadd C dX4_boxOn_23 ?_
      refine q_iald C (b := 8) (n := 16) 0 19 rfl (by decide) (by decide) (by omega) (fun _ => rfl) dX4_boxOn_24 (fun v24 e24 l24 u24 => ?_)
      subst e24
      exact q_iretI C dX4_boxOn_25 (by omega) (by decide) ⟨by unfold yAt; rw [if_pos (by omega)], rfl⟩
    · refine q_iconst C dX4_boxOn_13 ?_
      
      exact q_iretI C dX4_boxOn_14 (by omega) (by decide) ⟨by unfold yAt; rw [if_neg (by omega)], rfl⟩
set_option maxRecDepth 20000 in
theorem KX4_bears_5 (g : qHp) (t : Int) (ht : -2147483648 ≤ t ∧ t < 2147483648) (w : Int) (hw : -2147483648 ≤ w ∧ w < 2147483648)  : qC yX4_bears (.code yX4_bears cX4_bears 4 (some .boolean)) 1 0 (fun ad => [.ref (ad 5), .int (iI t), .int (iI w)]) g (qPi (fun (r : Int) (g' : qHp) => ((yBears g (g 5 5) (g 7) (g 8) t w ∧ r = 1) ∨ (¬ yBears g (g 5 5) (g 7) (g 8) t w ∧ r = 0)) ∧ g' = g)) qNo := by
  refine q_meth (by decide +kernel) rfl (fun _ => (Nat.le_of_ble_eq_true rfl)) (fun X ω C => ?_)
  refine q_nm (fun hn => ?_)
  have r5_5 : 0 ≤ g 5 5 ∧ g 5 5 ≤ 4 := hn 5 5
  refine q_loc [(0, .ref (ω.1 5)), (1, .int (iI t)), (2, .int (iI w))] ⟨rfl, rfl, rfl, trivial⟩ ?_
  refine q_aload_n C 0 dX4_bears_0 rfl rfl ?_
  refine q_iload_n C 1 dX4_bears_1 rfl rfl ?_
  refine q_Vf0 C (KX4_topOf_5 _ _ (by omega)) mX4_topOf ml_X4_41 dX4_bears_2 (by decide) (by decide) rfl rfl rfl (Nat.le_of_ble_eq_true rfl) rfl (by decide) rfl rfl (fun v2 l2 u2 h2 => ?_)
  refine q_istoreV_n C 3 dX4_bears_5 rfl (by decide) (fun v5 e5 => ?_)
  refine q_iload_n C 3 dX4_bears_6 rfl rfl ?_
  refine q_iconst C dX4_bears_7 ?_
  refine q_icmp_eq C 23 dX4_bears_8 (by decide) (by omega) (by omega) (fun c8 => ?_) (fun c8 => ?_)
  · refine q_iconst C dX4_bears_23 ?_
    refine q_goto C 28 dX4_bears_24 (by decide) ?_
    subst e5
    exact q_iretZ C dX4_bears_28 (by omega) (by decide) (⟨by subst h2; unfold yBears; omega, rfl⟩)
  · refine q_aload_n C 0 dX4_bears_11 rfl rfl ?_
    refine q_getr C (b := 5) 0 rfl (by decide) rfl in_X4 (by decide) fl_X4_24 rfl dX4_bears_12 ?_
    refine q_iload_n C 3 dX4_bears_15 rfl rfl ?_
    refine q_Vf0 C (KX0_weightOf _ _ (by omega)) mX0_weightOf ml_X4_45 dX4_bears_16 (by decide) (by decide) rfl rfl rfl (Nat.le_of_ble_eq_true rfl) rfl (by decide) rfl rfl (fun v16 l16 u16 h16 => ?_)
    refine q_iload_n C 2 dX4_bears_19 rfl rfl ?_
    refine q_icmp_lt C 27 dX4_bears_20 (by decide) (by omega) (by omega) (fun c20 => ?_) (fun c20 => ?_)
    · refine q_iconst C dX4_bears_27 ?_
      subst e5
      exact q_iretZ C dX4_bears_28 (by omega) (by decide) (⟨by subst h2; unfold yBears; omega, rfl⟩)
    · refine q_iconst C dX4_bears_23 ?_
      refine q_goto C 28 dX4_bears_24 (by decide) ?_
      subst e5
      exact q_iretZ C dX4_bears_28 (by omega) (by decide) (⟨by subst h2; unfold yBears; omega, rfl⟩)
set_option maxRecDepth 20000 in
theorem KX4_boxesUnder_5 (g : qHp) (x : Int) (hx : -2147483648 ≤ x ∧ x < 2147483648)  : qC yX4_boxesUnder (.code yX4_boxesUnder cX4_boxesUnder 4 (some .int)) 2 0 (fun ad => [.ref (ad 5), .int (iI x)]) g (qPi (fun (r : Int) (g' : qHp) => (r = yUnd (g 5 5) (g 7) (g 8) (g 9) x ∧ 0 ≤ r ∧ r ≤ yHt (g 5 5) (g 7) (ySt (g 9) x)) ∧ g' = g)) qNo := by
  refine q_meth (by decide +kernel) rfl (fun _ => (Nat.le_of_ble_eq_true rfl)) (fun X ω C => ?_)
  refine q_nm (fun hn => ?_)
  have r5_5 : 0 ≤ g 5 5 ∧ g 5 5 ≤ 4 := hn 5 5
  refine q_loc [(0, .ref (ω.1 5)), (1, .int (iI x))] ⟨rfl, rfl, trivial⟩ ?_
  refine q_aload_n C 0 dX4_boxesUnder_0 rfl rfl ?_
  refine q_iload_n C 1 dX4_boxesUnder_1 rfl rfl ?_
  refine q_Vf0 C (KX4_stackWith_5 _ _ (by omega)) mX4_stackWith ml_X4_53 dX4_boxesUnder_2 (by decide) (by decide) rfl rfl rfl (Nat.le_of_ble_eq_true rfl) rfl (by decide) rfl rfl (fun v2 l2 u2 h2 => ?_)
  refine q_istoreV_n C 2 dX4_boxesUnder_5 rfl (by decide) (fun v5 e5 => ?_)
  refine q_iconst C dX4_boxesUnder_6 ?_
  refine q_istoreV_n C 3 dX4_boxesUnder_7 rfl (by decide) (fun v7 e7 => ?_)
  have hq5 : 0 ≤ yHt (g 5 5) (g 7) v5 ∧ yHt (g 5 5) (g 7) v5 ≤ 4 := by
    have q := hn 7 v5
    have q1 : 0 ≤ (g 7) v5 := q.1
    have q2 : (g 7) v5 ≤ 4 := q.2
    unfold yHt; split <;> omega
  have loop : ∀ (n : Nat) (i : Int), ((yHt (g 5 5) (g 7) v5 - i) < (n : Int)) → (0 ≤ i) → (i ≤ yHt (g 5 5) (g 7) v5) → (fstI (fun k => decide (yAt (g 5 5) (g 7) (g 8) v5 k = x)) (yHt (g 5 5) (g 7) v5).toNat 0 = fstI (fun k => decide (yAt (g 5 5) (g 7) (g 8) v5 k = x)) (yHt (g 5 5) (g 7) v5 - i).toNat i) → qT X ω 4 0 (qEnd X ω (qPi (fun (r : Int) (g' : qHp) => (r = yUnd (g 5 5) (g 7) (g 8) (g 9) x ∧ 0 ≤ r ∧ r ≤ yHt (g 5 5) (g 7) (ySt (g 9) x)) ∧ g' = g)) qNo 0) g 8 [(0, .ref (ω.1 5)), (1, .int (iI x)), (2, .int (iI v5)), (3, .int (iI i))] [] := by
    intro n
    induction n with
    | zero => intro i hm hi hi2 hm2; exfalso; omega
    | succ n ih =>
      intro i hm hi hi2 hm2
      refine q_iload_n C 3 dX4_boxesUnder_8 rfl rfl ?_
      refine q_aload_n C 0 dX4_boxesUnder_9 rfl rfl ?_
      refine q_iload_n C 2 dX4_boxesUnder_10 rfl rfl ?_
      refine q_Vf0 C (KX4_heightOf_5 _ _ (by omega)) mX4_heightOf ml_X4_50 dX4_boxesUnder_11 (by decide) (by decide) rfl rfl rfl (Nat.le_of_ble_eq_true rfl) rfl (by decide) rfl rfl (fun v11 l11 u11 h11 => ?_)
      refine q_icmp_ge C 33 dX4_boxesUnder_14 (by decide) (by omega) (by omega) (fun c14 => ?_) (fun c14 => ?_)
      · refine q_iload_n C 3 dX4_boxesUnder_33 rfl rfl ?_
        refine q_iretI C dX4_boxesUnder_34 (by omega) (by decide) ⟨⟨?_, hi, ?_⟩, rfl⟩
        · subst e5
          subst h2
          unfold yUnd
          rw [hm2]
          rw [show (yHt (g 5 5) (g 7) (ySt (g 9) x) - i).toNat = 0 by omega]
          rfl
        · subst e5
          subst h2
          exact hi2
      · refine q_aload_n C 0 dX4_boxesUnder_17 rfl rfl ?_
        refine q_iload_n C 2 dX4_boxesUnder_18 rfl rfl ?_
        refine q_iload_n C 3 dX4_boxesUnder_19 rfl rfl ?_
        refine q_Vf0 C (KX4_boxOn_5 _ _ (by omega) _ (by omega)) mX4_boxOn ml_X4_56 dX4_boxesUnder_20 (by decide) (by decide) rfl rfl rfl (Nat.le_of_ble_eq_true rfl) rfl (by decide) rfl rfl (fun v20 l20 u20 h20 => ?_)
        refine q_iload_n C 1 dX4_boxesUnder_23 rfl rfl ?_
        refine q_icmp_eq C 33 dX4_boxesUnder_24 (by decide) (by omega) (by omega) (fun c24 => ?_) (fun c24 => ?_)
        · refine q_iload_n C 3 dX4_boxesUnder_33 rfl rfl ?_
          refine q_iretI C dX4_boxesUnder_34 (by omega) (by decide) ⟨⟨?_, hi, ?_⟩, rfl⟩
          · subst e5
            subst h2
            unfold yUnd
            rw [hm2]
            rw [show (yHt (g 5 5) (g 7) (ySt (g 9) x) - i).toNat = ((yHt (g 5 5) (g 7) (ySt (g 9) x) - i).toNat - 1) + 1 by omega, fstI_t (decide_eq_true (by omega))]
          · subst e5
            subst h2
            exact hi2
        · refine q_iinc C dX4_boxesUnder_27 rfl (by decide) (fun v27 e27 => ?_)
          refine q_goto C 8 dX4_boxesUnder_30 (by decide) ?_
          refine q_loc [(0, .ref (ω.1 5)), (1, .int (iI x)), (2, .int (iI v5)), (3, .int (iI v27))] ⟨rfl, rfl, rfl, rfl, trivial⟩ ?_
          exact ih v27 (by omega) (by omega) (by omega) (by subst e27; exact fstI_next (p := fun k => decide (yAt (g 5 5) (g 7) (g 8) v5 k = x)) (by omega) (decide_eq_false (by omega)) hm2)
  refine q_loc [(0, .ref (ω.1 5)), (1, .int (iI x)), (2, .int (iI v5)), (3, .int (iI v7))] ⟨rfl, rfl, rfl, rfl, trivial⟩ ?_
  exact loop ((yHt (g 5 5) (g 7) v5 - v7).toNat + 1) v7 (by omega) (by omega) (by omega) (by rw [e7, Int.sub_zero])
set_option maxRecDepth 20000 in
theorem KX4_boxesOver_5 (g : qHp) (x : Int) (hx : -2147483648 ≤ x ∧ x < 2147483648)  : qC yX4_boxesOver (.code yX4_boxesOver cX4_boxesOver 3 (some .int)) 3 0 (fun ad => [.ref (ad 5), .int (iI x)]) g (qPi (fun (r : Int) (g' : qHp) => (r = yOvr (g 5 5) (g 7) (g 8) (g 9) x ∧ -1 ≤ r ∧ r ≤ 3) ∧ g' = g)) qNo := by
  refine q_meth (by decide +kernel) rfl (fun _ => (Nat.le_of_ble_eq_true rfl)) (fun X ω C => ?_)
  refine q_nm (fun hn => ?_)
  have r5_5 : 0 ≤ g 5 5 ∧ g 5 5 ≤ 4 := hn 5 5
  have hq5 : ∀ v, 0 ≤ yHt (g 5 5) (g 7) v ∧ yHt (g 5 5) (g 7) v ≤ 4 := by
    intro v
    have q := hn 7 v
    have q1 : 0 ≤ (g 7) v := q.1
    have q2 : (g 7) v ≤ 4 := q.2
    unfold yHt; split <;> omega
  refine q_loc [(0, .ref (ω.1 5)), (1, .int (iI x))] ⟨rfl, rfl, trivial⟩ ?_
  refine q_aload_n C 0 dX4_boxesOver_0 rfl rfl ?_
  refine q_iload_n C 1 dX4_boxesOver_1 rfl rfl ?_
  refine q_Vf0 C (KX4_stackWith_5 _ _ (by omega)) mX4_stackWith ml_X4_53 dX4_boxesOver_2 (by decide) (by decide) rfl rfl rfl (Nat.le_of_ble_eq_true rfl) rfl (by decide) rfl rfl (fun v2 l2 u2 h2 => ?_)
  refine q_istoreV_n C 2 dX4_boxesOver_5 rfl (by decide) (fun v5 e5 => ?_)
  refine q_iload_n C 2 dX4_boxesOver_6 rfl rfl ?_
  refine q_iconst C dX4_boxesOver_7 ?_
  refine q_icmp_ne C 15 dX4_boxesOver_8 (by decide) (by omega) (by omega) (fun c8 => ?_) (fun c8 => ?_)
  · refine q_aload_n C 0 dX4_boxesOver_15 rfl rfl ?_
    refine q_iload_n C 2 dX4_boxesOver_16 rfl rfl ?_
    have hq6 := hq5 v5
    refine q_Vf0 C (KX4_heightOf_5 _ _ (by omega)) mX4_heightOf ml_X4_50 dX4_boxesOver_17 (by decide) (by decide) rfl rfl rfl (Nat.le_of_ble_eq_true rfl) rfl (by decide) rfl rfl (fun v17 l17 u17 h17 => ?_)
    refine q_iconst C dX4_boxesOver_20 ?_
    refine q_isub C dX4_boxesOver_21 ?_
    refine q_aload_n C 0 dX4_boxesOver_22 rfl rfl ?_
    refine q_iload_n C 1 dX4_boxesOver_23 rfl rfl ?_
    refine q_Vf0 C (KX4_boxesUnder_5 _ _ (by omega)) mX4_boxesUnder ml_X4_60 dX4_boxesOver_24 (by decide) (by decide) rfl rfl rfl (Nat.le_of_ble_eq_true rfl) rfl (by decide) rfl rfl (fun v24 l24 u24 h24 => ?_)
    refine q_isub C dX4_boxesOver_27 ?_
    subst e5
    subst h2
    refine q_iretI C dX4_boxesOver_28 (by omega) (by decide) ⟨⟨?_, by omega, by omega⟩, rfl⟩
    unfold yOvr
    obtain ⟨h24, -⟩ := h24
    rw [if_neg (by omega), ← h24, ← h17]
  · refine q_iconst C dX4_boxesOver_11 ?_
    refine q_goto C 28 dX4_boxesOver_12 (by decide) ?_
    subst e5
    subst h2
    refine q_iretI C dX4_boxesOver_28 (by omega) (by decide) ⟨⟨?_, by omega, by omega⟩, rfl⟩
    unfold yOvr
    rw [if_pos (by omega)]
set_option maxRecDepth 20000 in
theorem KX4_pinnedOver_5 (g : qHp) (x : Int) (hx : -2147483648 ≤ x ∧ x < 2147483648)  : qC yX4_pinnedOver (.code yX4_pinnedOver cX4_pinnedOver 5 (some .int)) 3 0 (fun ad => [.ref (ad 5), .int (iI x)]) g (qPi (fun (r : Int) (g' : qHp) => (r = yPin g (g 5 5) (g 7) (g 8) (g 9) x) ∧ g' = g)) qNo := by
  refine q_meth (by decide +kernel) rfl (fun _ => (Nat.le_of_ble_eq_true rfl)) (fun X ω C => ?_)
  refine q_nm (fun hn => ?_)
  have r5_5 : 0 ≤ g 5 5 ∧ g 5 5 ≤ 4 := hn 5 5
  refine q_loc [(0, .ref (ω.1 5)), (1, .int (iI x))] ⟨rfl, rfl, trivial⟩ ?_
  refine q_aload_n C 0 dX4_pinnedOver_0 rfl rfl ?_
  refine q_iload_n C 1 dX4_pinnedOver_1 rfl rfl ?_
  refine q_Vf0 C (KX4_stackWith_5 _ _ (by omega)) mX4_stackWith ml_X4_53 dX4_pinnedOver_2 (by decide) (by decide) rfl rfl rfl (Nat.le_of_ble_eq_true rfl) rfl (by decide) rfl rfl (fun v2 l2 u2 h2 => ?_)
  refine q_istoreV_n C 2 dX4_pinnedOver_5 rfl (by decide) (fun v5 e5 => ?_)
  refine q_iconst C dX4_pinnedOver_6 ?_
  refine q_istoreV_n C 3 dX4_pinnedOver_7 rfl (by decide) (fun v7 e7 => ?_)
  refine q_aload_n C 0 dX4_pinnedOver_8 rfl rfl ?_
  refine q_iload_n C 1 dX4_pinnedOver_9 rfl rfl ?_
  refine q_Vf0 C (KX4_boxesUnder_5 _ _ (by omega)) mX4_boxesUnder ml_X4_60 dX4_pinnedOver_10 (by decide) (by decide) rfl rfl rfl (Nat.le_of_ble_eq_true rfl) rfl (by decide) rfl rfl (fun v10 l10 u10 h10 => ?_)
  refine q_iconst C dX4_pinnedOver_13 ?_
  refine q_iadd C dX4_pinnedOver_14 ?_
  refine q_istoreV C dX4_pinnedOver_15 (by decide) (fun v15 e15 => ?_)
  have hq5 : 0 ≤ yHt (g 5 5) (g 7) v5 ∧ yHt (g 5 5) (g 7) v5 ≤ 4 := by
    have q := hn 7 v5
    have q1 : 0 ≤ (g 7) v5 := q.1
    have q2 : (g 7) v5 ≤ 4 := q.2
    unfold yHt; split <;> omega
  have loop : ∀ (n : Nat) (q : Int) (i : Int), ((yHt (g 5 5) (g 7) v5 + 1 - i) < (n : Int)) → (v15 ≤ i) → (i ≤ yHt (g 5 5) (g 7) v5 + 1) → (0 ≤ q ∧ q ≤ i) → (cntF (fun k => pinB g (yAt (g 5 5) (g 7) (g 8) v5 k)) (yHt (g 5 5) (g 7) v5 - v15).toNat v15 = q + cntF (fun k => pinB g (yAt (g 5 5) (g 7) (g 8) v5 k)) (yHt (g 5 5) (g 7) v5 - i).toNat i) → qT X ω 5 0 (qEnd X ω (qPi (fun (r : Int) (g' : qHp) => (r = yPin g (g 5 5) (g 7) (g 8) (g 9) x) ∧ g' = g)) qNo 0) g 17 [(0, .ref (ω.1 5)), (1, .int (iI x)), (2, .int (iI v5)), (3, .int (iI q)), (4, .int (iI i))] [] := by
    intro n
    induction n with
    | zero => intro q i hm hi hi2 hq hm2; exfalso; omega
    | succ n ih =>
      intro q i hm hi hi2 hq hm2
      refine q_iload C dX4_pinnedOver_17 rfl ?_
      refine q_aload_n C 0 dX4_pinnedOver_19 rfl rfl ?_
      refine q_iload_n C 2 dX4_pinnedOver_20 rfl rfl ?_
      refine q_Vf0 C (KX4_heightOf_5 _ _ (by omega)) mX4_heightOf ml_X4_50 dX4_pinnedOver_21 (by decide) (by decide) rfl rfl rfl (Nat.le_of_ble_eq_true rfl) rfl (by decide) rfl rfl (fun v21 l21 u21 h21 => ?_)
      refine q_icmp_ge C 53 dX4_pinnedOver_24 (by decide) (by omega) (by omega) (fun c24 => ?_) (fun c24 => ?_)
      · refine q_iload_n C 3 dX4_pinnedOver_53 rfl rfl ?_
        refine q_iretI C dX4_pinnedOver_54 (by omega) (by decide) ⟨?_, rfl⟩
        rw [cntF_0 (c := yHt (g 5 5) (g 7) v5) (i := i) (by omega)] at hm2
        subst e15
        subst e5
        obtain ⟨h10, -⟩ := h10
        subst h10
        subst h2
        unfold yPin
        omega
      · refine q_aload_n C 0 dX4_pinnedOver_27 rfl rfl ?_
        refine q_getr C (b := 5) 0 rfl (by decide) rfl in_X4 (by decide) fl_X4_24 rfl dX4_pinnedOver_28 ?_
        refine q_aload_n C 0 dX4_pinnedOver_31 rfl rfl ?_
        refine q_iload_n C 2 dX4_pinnedOver_32 rfl rfl ?_
        refine q_iload C dX4_pinnedOver_33 rfl ?_
        refine q_Vf0 C (KX4_boxOn_5 _ _ (by omega) _ (by omega)) mX4_boxOn ml_X4_56 dX4_pinnedOver_35 (by decide) (by decide) rfl rfl rfl (Nat.le_of_ble_eq_true rfl) rfl (by decide) rfl rfl (fun v35 l35 u35 h35 => ?_)
        refine q_Vf0 C (KX0_isPinned _ _ (by omega)) mX0_isPinned ml_X4_63 dX4_pinnedOver_38 (by decide) (by decide) rfl rfl rfl (Nat.le_of_ble_eq_true rfl) rfl (by decide) rfl rfl (fun v38 l38 u38 h38 => ?_)
        refine q_ifeq C 47 dX4_pinnedOver_41 (by decide) (by omega) (fun c41 => ?_) (fun c41 => ?_)
        · refine q_iinc C dX4_pinnedOver_47 rfl (by decide) (fun v47 e47 => ?_)
          refine q_goto C 17 dX4_pinnedOver_50 (by decide) ?_
          refine q_loc [(0, .ref (ω.1 5)), (1, .int (iI x)), (2, .int (iI v5)), (3, .int (iI q)), (4, .int (iI v47))] ⟨rfl, rfl, rfl, rfl, rfl, trivial⟩ ?_
          exact ih q v47 (by omega) (by omega) (by omega) (by omega) (by subst e47; subst h35; first | (have z := cntF_t (p := fun k => pinB g (yAt (g 5 5) (g 7) (g 8) v5 k)) (c := v21) (i := i) (by omega) (show _ = true by rcases h38 with ⟨z, _⟩ | ⟨_, z⟩; (· exact z); (· omega)); rw [h21] at z; omega) | (have z := cntF_f (p := fun k => pinB g (yAt (g 5 5) (g 7) (g 8) v5 k)) (c := v21) (i := i) (by omega) (show _ = false by rcases h38 with ⟨_, z⟩ | ⟨z, _⟩; (· omega); (· exact z)); rw [h21] at z; omega))
        · refine q_iinc C dX4_pinnedOver_44 rfl (by decide) (fun v44 e44 => ?_)
          refine q_iinc C dX4_pinnedOver_47 rfl (by decide) (fun v47 e47 => ?_)
          refine q_goto C 17 dX4_pinnedOver_50 (by decide) ?_
          refine q_loc [(0, .ref (ω.1 5)), (1, .int (iI x)), (2, .int (iI v5)), (3, .int (iI v44)), (4, .int (iI v47))] ⟨rfl, rfl, rfl, rfl, rfl, trivial⟩ ?_
          exact ih v44 v47 (by omega) (by omega) (by omega) (by omega) (by subst e47 e44; subst h35; first | (have z := cntF_t (p := fun k => pinB g (yAt (g 5 5) (g 7) (g 8) v5 k)) (c := v21) (i := i) (by omega) (show _ = true by rcases h38 with ⟨z, _⟩ | ⟨_, z⟩; (· exact z); (· omega)); rw [h21] at z; omega) | (have z := cntF_f (p := fun k => pinB g (yAt (g 5 5) (g 7) (g 8) v5 k)) (c := v21) (i := i) (by omega) (show _ = false by rcases h38 with ⟨_, z⟩ | ⟨z, _⟩; (· omega); (· exact z)); rw [h21] at z; omega))
  refine q_loc [(0, .ref (ω.1 5)), (1, .int (iI x)), (2, .int (iI v5)), (3, .int (iI v7)), (4, .int (iI v15))] ⟨rfl, rfl, rfl, rfl, rfl, trivial⟩ ?_
  exact loop ((yHt (g 5 5) (g 7) v5 + 1 - v15).toNat + 1) v7 v15 (by omega) (by omega) (by subst e5; subst h2; omega) (by omega) (by rw [e7, Int.zero_add])
set_option maxRecDepth 20000 in
theorem KX4_reasonAgainst_5 (g : qHp) (x : Int) (hx : -2147483648 ≤ x ∧ x < 2147483648) (t : Int) (ht : -2147483648 ≤ t ∧ t < 2147483648)  : qC yX4_reasonAgainst (.code yX4_reasonAgainst cX4_reasonAgainst 4 (some .char)) 2 0 (fun ad => [.ref (ad 5), .int (iI x), .int (iI t)]) g (qPi (fun (r : Int) (g' : qHp) => (yWhyR g (g 5 5) (g 6) (g 7) (g 8) (g 9) x t r ∧ (0 ≤ r ∧ r < 128)) ∧ g' = g)) qNo := by
  refine q_meth (by decide +kernel) rfl (fun _ => (Nat.le_of_ble_eq_true rfl)) (fun X ω C => ?_)
  refine q_nm (fun hn => ?_)
  have r5_5 : 0 ≤ g 5 5 ∧ g 5 5 ≤ 4 := hn 5 5
  refine q_loc [(0, .ref (ω.1 5)), (1, .int (iI x)), (2, .int (iI t))] ⟨rfl, rfl, rfl, trivial⟩ ?_
  refine q_aload_n C 0 dX4_reasonAgainst_0 rfl rfl ?_
  refine q_iload_n C 1 dX4_reasonAgainst_1 rfl rfl ?_
  refine q_Vf0 C (KX4_stackWith_5 _ _ (by omega)) mX4_stackWith ml_X4_53 dX4_reasonAgainst_2 (by decide) (by decide) rfl rfl rfl (Nat.le_of_ble_eq_true rfl) rfl (by decide) rfl rfl (fun v2 l2 u2 h2 => ?_)
  refine q_istoreV_n C 3 dX4_reasonAgainst_5 rfl (by decide) (fun v5 e5 => ?_)
  refine q_iload_n C 3 dX4_reasonAgainst_6 rfl rfl ?_
  refine q_iconst C dX4_reasonAgainst_7 ?_
  refine q_icmp_eq C 20 dX4_reasonAgainst_8 (by decide) (by omega) (by omega) (fun c8 => ?_) (fun c8 => ?_)
  · refine q_bipush C dX4_reasonAgainst_20 (by decide +kernel) ?_
    subst e5
    subst h2
    exact q_iretC C dX4_reasonAgainst_22 (by omega) (by decide) ⟨⟨Or.inl ⟨by first | exact Or.inl (by omega) | exact Or.inr (by rw [← h13]; omega), rfl⟩, by omega⟩, rfl⟩
  · refine q_aload_n C 0 dX4_reasonAgainst_11 rfl rfl ?_
    refine q_iload_n C 3 dX4_reasonAgainst_12 rfl rfl ?_
    refine q_Vf0 C (KX4_topOf_5 _ _ (by omega)) mX4_topOf ml_X4_41 dX4_reasonAgainst_13 (by decide) (by decide) rfl rfl rfl (Nat.le_of_ble_eq_true rfl) rfl (by decide) rfl rfl (fun v13 l13 u13 h13 => ?_)
    refine q_iload_n C 1 dX4_reasonAgainst_16 rfl rfl ?_
    refine q_icmp_eq C 23 dX4_reasonAgainst_17 (by decide) (by omega) (by omega) (fun c17 => ?_) (fun c17 => ?_)
    · refine q_aload_n C 0 dX4_reasonAgainst_23 rfl rfl ?_
      refine q_getr C (b := 5) 0 rfl (by decide) rfl in_X4 (by decide) fl_X4_24 rfl dX4_reasonAgainst_24 ?_
      refine q_iload_n C 1 dX4_reasonAgainst_27 rfl rfl ?_
      refine q_Vf0 C (KX0_isPinned _ _ (by omega)) mX0_isPinned ml_X4_63 dX4_reasonAgainst_28 (by decide) (by decide) rfl rfl rfl (Nat.le_of_ble_eq_true rfl) rfl (by decide) rfl rfl (fun v28 l28 u28 h28 => ?_)
      refine q_ifeq C 37 dX4_reasonAgainst_31 (by decide) (by omega) (fun c31 => ?_) (fun c31 => ?_)
      · refine q_iload_n C 3 dX4_reasonAgainst_37 rfl rfl ?_
        refine q_iload_n C 2 dX4_reasonAgainst_38 rfl rfl ?_
        refine q_icmp_ne C 45 dX4_reasonAgainst_39 (by decide) (by omega) (by omega) (fun c39 => ?_) (fun c39 => ?_)
        · refine q_aload_n C 0 dX4_reasonAgainst_45 rfl rfl ?_
          refine q_iload_n C 2 dX4_reasonAgainst_46 rfl rfl ?_
          refine q_Vf0 C (KX4_isFull_5 _ _ (by omega)) mX4_isFull ml_X4_67 dX4_reasonAgainst_47 (by decide) (by decide) rfl rfl rfl (Nat.le_of_ble_eq_true rfl) rfl (by decide) rfl rfl (fun v47 l47 u47 h47 => ?_)
          refine q_ifeq C 56 dX4_reasonAgainst_50 (by decide) (by omega) (fun c50 => ?_) (fun c50 => ?_)
          · refine q_aload_n C 0 dX4_reasonAgainst_56 rfl rfl ?_
            refine q_iload_n C 2 dX4_reasonAgainst_57 rfl rfl ?_
            refine q_aload_n C 0 dX4_reasonAgainst_58 rfl rfl ?_
            refine q_getr C (b := 5) 0 rfl (by decide) rfl in_X4 (by decide) fl_X4_24 rfl dX4_reasonAgainst_59 ?_
            refine q_iload_n C 1 dX4_reasonAgainst_62 rfl rfl ?_
            refine q_Vf0 C (KX0_weightOf _ _ (by omega)) mX0_weightOf ml_X4_45 dX4_reasonAgainst_63 (by decide) (by decide) rfl rfl rfl (Nat.le_of_ble_eq_true rfl) rfl (by decide) rfl rfl (fun v63 l63 u63 h63 => ?_)
            refine q_Vf0 C (KX4_bears_5 _ _ (by omega) _ (by omega)) mX4_bears ml_X4_70 dX4_reasonAgainst_66 (by decide) (by decide) rfl rfl rfl (Nat.le_of_ble_eq_true rfl) rfl (by decide) rfl rfl (fun v66 l66 u66 h66 => ?_)
            refine q_ifeq C 77 dX4_reasonAgainst_69 (by decide) (by omega) (fun c69 => ?_) (fun c69 => ?_)
            · refine q_bipush C dX4_reasonAgainst_77 (by decide +kernel) ?_
              subst e5
              subst h2
              subst h63
              exact q_iretC C dX4_reasonAgainst_79 (by omega) (by decide) ⟨⟨Or.inr ⟨(by omega : ySt _ x ≠ -1), (by rw [← h13]; omega), Or.inr ⟨by rcases h28 with ⟨_, z⟩ | ⟨z, _⟩; (· omega); (· exact z), Or.inr ⟨by omega, Or.inr ⟨by omega, by rcases h66 with ⟨z, z2⟩ | ⟨z, z2⟩; (· first | exact Or.inl ⟨z, rfl⟩ | (exfalso; omega)); (· first | exact Or.inr ⟨z, rfl⟩ | (exfalso; omega))⟩⟩⟩⟩, by omega⟩, rfl⟩
            · refine q_bipush C dX4_reasonAgainst_72 (by decide +kernel) ?_
              refine q_goto C 79 dX4_reasonAgainst_74 (by decide) ?_
              subst e5
              subst h2
              subst h63
              exact q_iretC C dX4_reasonAgainst_79 (by omega) (by decide) ⟨⟨Or.inr ⟨(by omega : ySt _ x ≠ -1), (by rw [← h13]; omega), Or.inr ⟨by rcases h28 with ⟨_, z⟩ | ⟨z, _⟩; (· omega); (· exact z), Or.inr ⟨by omega, Or.inr ⟨by omega, by rcases h66 with ⟨z, z2⟩ | ⟨z, z2⟩; (· first | exact Or.inl ⟨z, rfl⟩ | (exfalso; omega)); (· first | exact Or.inr ⟨z, rfl⟩ | (exfalso; omega))⟩⟩⟩⟩, by omega⟩, rfl⟩
          · refine q_bipush C dX4_reasonAgainst_53 (by decide +kernel) ?_
            subst e5
            subst h2
            exact q_iretC C dX4_reasonAgainst_55 (by omega) (by decide) ⟨⟨Or.inr ⟨(by omega : ySt _ x ≠ -1), (by rw [← h13]; omega), Or.inr ⟨by rcases h28 with ⟨_, z⟩ | ⟨z, _⟩; (· omega); (· exact z), Or.inr ⟨by omega, Or.inl ⟨by omega, rfl⟩⟩⟩⟩, by omega⟩, rfl⟩
        · refine q_bipush C dX4_reasonAgainst_42 (by decide +kernel) ?_
          subst e5
          subst h2
          exact q_iretC C dX4_reasonAgainst_44 (by omega) (by decide) ⟨⟨Or.inr ⟨(by omega : ySt _ x ≠ -1), (by rw [← h13]; omega), Or.inr ⟨by rcases h28 with ⟨_, z⟩ | ⟨z, _⟩; (· omega); (· exact z), Or.inl ⟨by omega, rfl⟩⟩⟩, by omega⟩, rfl⟩
      · refine q_bipush C dX4_reasonAgainst_34 (by decide +kernel) ?_
        subst e5
        subst h2
        exact q_iretC C dX4_reasonAgainst_36 (by omega) (by decide) ⟨⟨Or.inr ⟨(by omega : ySt _ x ≠ -1), (by rw [← h13]; omega), Or.inl ⟨by rcases h28 with ⟨z, _⟩ | ⟨_, z⟩; (· exact z); (· omega), rfl⟩⟩, by omega⟩, rfl⟩
    · refine q_bipush C dX4_reasonAgainst_20 (by decide +kernel) ?_
      subst e5
      subst h2
      exact q_iretC C dX4_reasonAgainst_22 (by omega) (by decide) ⟨⟨Or.inl ⟨by first | exact Or.inl (by omega) | exact Or.inr (by rw [← h13]; omega), rfl⟩, by omega⟩, rfl⟩
set_option maxRecDepth 20000 in
theorem KX4_put_5 (g : qHp) (x : Int) (hx : -2147483648 ≤ x ∧ x < 2147483648) (s : Int) (hs : -2147483648 ≤ s ∧ s < 2147483648) (hx2 : 0 ≤ x ∧ x ≤ 19) (hs2 : 0 ≤ s ∧ s < (g 5 5) ∧ (g 7) s < (g 6) s) : qC yX4_put (.code yX4_put cX4_put 3 none) 1 0 (fun ad => [.ref (ad 5), .int (iI x), .int (iI s)]) g (qPv (fun g' : qHp => g' = (qUp (qUp (qUp (qUp g 8 (s * 4 + (g 7) s) x) 7 s ((g 7) s + 1)) 9 x s) 5 6 (w32 (g 5 6 + 1))))) qNo := by
  refine q_meth (by decide +kernel) rfl (fun _ => (Nat.le_of_ble_eq_true rfl)) (fun X ω C => ?_)
  refine q_nm (fun hn => ?_)
  have r5_5 : 0 ≤ g 5 5 ∧ g 5 5 ≤ 4 := hn 5 5
  have hr4 : 0 ≤ (g 7) s ∧ (g 6) s ≤ 4 := ⟨(hn 7 s).1, (hn 6 s).2⟩
  refine q_loc [(0, .ref (ω.1 5)), (1, .int (iI x)), (2, .int (iI s))] ⟨rfl, rfl, rfl, trivial⟩ ?_
  refine q_iload_n C 1 dX4_put_0 rfl rfl ?_
  refine q_iflt C 18 dX4_put_1 (by decide) (by omega) (fun c1 => ?_) (fun c1 => ?_)
  · exfalso; omega
  · refine q_iload_n C 1 dX4_put_4 rfl rfl ?_
    refine q_bipush C dX4_put_5 (by decide +kernel) ?_
    refine q_icmp_ge C 18 dX4_put_7 (by decide) (by omega) (by omega) (fun c7 => ?_) (fun c7 => ?_)
    · exfalso; omega
    · refine q_aload_n C 0 dX4_put_10 rfl rfl ?_
      refine q_iload_n C 2 dX4_put_11 rfl rfl ?_
      refine q_Vf0 C (KX4_isFull_5 _ _ (by omega)) mX4_isFull ml_X4_67 dX4_put_12 (by decide) (by decide) rfl rfl rfl (Nat.le_of_ble_eq_true rfl) rfl (by decide) rfl rfl (fun v12 l12 u12 h12 => ?_)
      refine q_ifeq C 19 dX4_put_15 (by decide) (by omega) (fun c15 => ?_) (fun c15 => ?_)
      · refine q_aload_n C 0 dX4_put_19 rfl rfl ?_
        refine q_getr C (b := 5) 3 rfl (by decide) rfl in_X4 (by decide) fl_X4_18 rfl dX4_put_20 ?_
        refine q_iload_n C 2 dX4_put_23 rfl rfl ?_
        refine q_iconst C dX4_put_24 ?_
        refine q_imul C dX4_put_25 ?_
        refine q_aload_n C 0 dX4_put_26 rfl rfl ?_
        refine q_getr C (b := 5) 2 rfl (by decide) rfl in_X4 (by decide) fl_X4_15 rfl dX4_put_27 ?_
        refine q_iload_n C 2 dX4_put_30 rfl rfl ?_
        refine q_iald C (b := 7) (n := 4) 0 4 rfl (by decide) (by decide) (by omega) (fun _ => rfl) dX4_put_31 (fun v31 e31 l31 u31 => ?_)
        refine q_iadd C dX4_put_32 ?_
        refine q_iload_n C 1 dX4_put_33 rfl rfl ?_
        refine q_iast C (b := 8) (n := 16) rfl (by decide) (by decide) (by omega)  (show 0 ≤ _ ∧ _ ≤ 19 from (by omega)) dX4_put_34 ?_
        refine q_aload_n C 0 dX4_put_35 rfl rfl ?_
        refine q_getr C (b := 5) 2 rfl (by decide) rfl in_X4 (by decide) fl_X4_15 rfl dX4_put_36 ?_
        refine q_iload_n C 2 dX4_put_39 rfl rfl ?_
        refine q_dup2 C dX4_put_40 rfl rfl ?_
        refine q_iald C (b := 7) (n := 4) 0 4 rfl (by decide) (by decide) (by omega) (fun _ => rfl) dX4_put_41 (fun v41 e41 l41 u41 => ?_)
        refine q_iconst C dX4_put_42 ?_
        refine q_iadd C dX4_put_43 ?_
        refine q_iast C (b := 7) (n := 4) rfl (by decide) (by decide) (by omega)  (show 0 ≤ _ ∧ _ ≤ 4 from (by have q41 : v41 = g 7 s := by {rw [e41, qUp_k (by decide)]}; omega)) dX4_put_44 ?_
        refine q_aload_n C 0 dX4_put_45 rfl rfl ?_
        refine q_getr C (b := 5) 4 rfl (by decide) rfl in_X4 (by decide) fl_X4_21 rfl dX4_put_46 ?_
        refine q_iload_n C 1 dX4_put_49 rfl rfl ?_
        refine q_iload_n C 2 dX4_put_50 rfl rfl ?_
        refine q_iast C (b := 9) (n := 20) rfl (by decide) (by decide) (by omega)  (show (-1) ≤ _ ∧ _ ≤ 3 from (by omega)) dX4_put_51 ?_
        refine q_aload_n C 0 dX4_put_52 rfl rfl ?_
        refine q_dup C dX4_put_53 rfl ?_
        refine q_geti C (b := 5) 6 6 (-2147483648) 2147483647 rfl (by decide) rfl in_X4 (by decide) fl_X4_38 rfl rfl rfl dX4_put_54 (fun v54 e54 l54 u54 => ?_)
        refine q_iconst C dX4_put_57 ?_
        refine q_iadd C dX4_put_58 ?_
        have q41 : v41 = g 7 s := by rw [e41, qUp_k (by decide)]
        have q54 : v54 = g 5 6 := by rw [e54, qUp_k (by decide), qUp_k (by decide), qUp_k (by decide)]
        refine q_puti C (b := 5) 6 6 (-2147483648) 2147483647 (w32 _) rfl (by decide) rfl in_X4 tyX4_ok nmX4 (by decide) fl_X4_38 rfl (by decide +kernel) rfl rfl rfl (w32_iI _) (by have := w32_rng (v54 + 1); omega) dX4_put_59 ?_
        exact q_retV C dX4_put_62 (by decide) (by rw [e31, q41, q54])
      · exfalso; omega
set_option maxRecDepth 20000 in
theorem KX4_take_5 (g : qHp) (s : Int) (hs : -2147483648 ≤ s ∧ s < 2147483648) (hs2 : 0 ≤ s ∧ s < (g 5 5) ∧ (g 7) s ≠ 0) : qC yX4_take (.code yX4_take cX4_take 3 none) 1 0 (fun ad => [.ref (ad 5), .int (iI s)]) g (qPv (fun g' : qHp => g' = (qUp (qUp (qUp g 7 s ((g 7) s - 1)) 9 ((g 8) (s * 4 + (g 7) s - 1)) (-1)) 5 6 (w32 (g 5 6 - 1))))) qNo := by
  refine q_meth (by decide +kernel) rfl (fun _ => (Nat.le_of_ble_eq_true rfl)) (fun X ω C => ?_)
  refine q_nm (fun hn => ?_)
  have r5_5 : 0 ≤ g 5 5 ∧ g 5 5 ≤ 4 := hn 5 5
  have hr4 : 0 ≤ (g 7) s ∧ (g 7) s ≤ 4 := ⟨(hn 7 s).1, (hn 7 s).2⟩
  have hr5 : 0 ≤ (g 8) (s * 4 + (g 7) s - 1) ∧ (g 8) (s * 4 + (g 7) s - 1) ≤ 19 := ⟨(hn 8 _).1, (hn 8 _).2⟩
  have ht5 : yTop (g 5 5) (g 7) (g 8) s = (g 8) (s * 4 + (g 7) s - 1) := by unfold yTop; rw [if_pos (by omega)]
  refine q_loc [(0, .ref (ω.1 5)), (1, .int (iI s))] ⟨rfl, rfl, trivial⟩ ?_
  refine q_aload_n C 0 dX4_take_0 rfl rfl ?_
  refine q_iload_n C 1 dX4_take_1 rfl rfl ?_
  refine q_Vf0 C (KX4_topOf_5 _ _ (by omega)) mX4_topOf ml_X4_41 dX4_take_2 (by decide) (by decide) rfl rfl rfl (Nat.le_of_ble_eq_true rfl) rfl (by decide) rfl rfl (fun v2 l2 u2 h2 => ?_)
  refine q_istoreV_n C 2 dX4_take_5 rfl (by decide) (fun v5 e5 => ?_)
  refine q_iload_n C 2 dX4_take_6 rfl rfl ?_
  refine q_iconst C dX4_take_7 ?_
  refine q_icmp_ne C 12 dX4_take_8 (by decide) (by omega) (by omega) (fun c8 => ?_) (fun c8 => ?_)
  · refine q_aload_n C 0 dX4_take_12 rfl rfl ?_
    refine q_getr C (b := 5) 2 rfl (by decide) rfl in_X4 (by decide) fl_X4_15 rfl dX4_take_13 ?_
    refine q_iload_n C 1 dX4_take_16 rfl rfl ?_
    refine q_dup2 C dX4_take_17 rfl rfl ?_
    refine q_iald C (b := 7) (n := 4) 0 4 rfl (by decide) (by decide) (by omega) (fun _ => rfl) dX4_take_18 (fun v18 e18 l18 u18 => ?_)
    refine q_iconst C dX4_take_19 ?_
    refine q_isub C dX4_take_20 ?_
    refine q_iast C (b := 7) (n := 4) rfl (by decide) (by decide) (by omega)  (show 0 ≤ _ ∧ _ ≤ 4 from (by omega)) dX4_take_21 ?_
    refine q_aload_n C 0 dX4_take_22 rfl rfl ?_
    refine q_getr C (b := 5) 4 rfl (by decide) rfl in_X4 (by decide) fl_X4_21 rfl dX4_take_23 ?_
    refine q_iload_n C 2 dX4_take_26 rfl rfl ?_
    refine q_iconst C dX4_take_27 ?_
    refine q_iast C (b := 9) (n := 20) rfl (by decide) (by decide) (by omega)  (show (-1) ≤ _ ∧ _ ≤ 3 from (by omega)) dX4_take_28 ?_
    refine q_aload_n C 0 dX4_take_29 rfl rfl ?_
    refine q_dup C dX4_take_30 rfl ?_
    refine q_geti C (b := 5) 6 6 (-2147483648) 2147483647 rfl (by decide) rfl in_X4 (by decide) fl_X4_38 rfl rfl rfl dX4_take_31 (fun v31 e31 l31 u31 => ?_)
    refine q_iconst C dX4_take_34 ?_
    refine q_isub C dX4_take_35 ?_
    have q31 : v31 = g 5 6 := by rw [e31, qUp_k (by decide), qUp_k (by decide)]
    refine q_puti C (b := 5) 6 6 (-2147483648) 2147483647 (w32 _) rfl (by decide) rfl in_X4 tyX4_ok nmX4 (by decide) fl_X4_38 rfl (by decide +kernel) rfl rfl rfl (w32_iI _) (by have := w32_rng (v31 - 1); omega) dX4_take_36 ?_
    subst e18
    subst e5
    subst h2
    exact q_retV C dX4_take_39 (by decide) (by rw [q31, ht5])
  · exfalso; omega
set_option maxRecDepth 20000 in
theorem KX4_shift_5 (g : qHp) (f : Int) (hf : -2147483648 ≤ f ∧ f < 2147483648) (t : Int) (ht : -2147483648 ≤ t ∧ t < 2147483648) (hs2 : 0 ≤ f ∧ f < (g 5 5) ∧ (g 7) f ≠ 0 ∧ f ≠ t) (ht2 : 0 ≤ t ∧ t < (g 5 5) ∧ (g 7) t < (g 6) t) : qC yX4_shift (.code yX4_shift cX4_shift 4 none) 2 0 (fun ad => [.ref (ad 5), .int (iI f), .int (iI t)]) g (qPv (fun g' : qHp => g' = (qUp (qUp (qUp (qUp (qUp (qUp (qUp g 7 f ((g 7) f - 1)) 9 ((g 8) (f * 4 + (g 7) f - 1)) (-1)) 5 6 (w32 (g 5 6 - 1))) 8 (t * 4 + (g 7) t) ((g 8) (f * 4 + (g 7) f - 1))) 7 t ((g 7) t + 1)) 9 ((g 8) (f * 4 + (g 7) f - 1)) t) 5 6 (w32 (w32 (g 5 6 - 1) + 1))))) qNo := by
  refine q_meth (by decide +kernel) rfl (fun _ => (Nat.le_of_ble_eq_true rfl)) (fun X ω C => ?_)
  refine q_nm (fun hn => ?_)
  have r5_5 : 0 ≤ g 5 5 ∧ g 5 5 ≤ 4 := hn 5 5
  have hr5 : 0 ≤ (g 8) (f * 4 + (g 7) f - 1) ∧ (g 8) (f * 4 + (g 7) f - 1) ≤ 19 := ⟨(hn 8 _).1, (hn 8 _).2⟩
  have ht5 : yTop (g 5 5) (g 7) (g 8) f = (g 8) (f * 4 + (g 7) f - 1) := by unfold yTop; rw [if_pos (by omega)]
  refine q_loc [(0, .ref (ω.1 5)), (1, .int (iI f)), (2, .int (iI t))] ⟨rfl, rfl, rfl, trivial⟩ ?_
  refine q_aload_n C 0 dX4_shift_0 rfl rfl ?_
  refine q_iload_n C 1 dX4_shift_1 rfl rfl ?_
  refine q_Vf0 C (KX4_topOf_5 _ _ (by omega)) mX4_topOf ml_X4_41 dX4_shift_2 (by decide) (by decide) rfl rfl rfl (Nat.le_of_ble_eq_true rfl) rfl (by decide) rfl rfl (fun v2 l2 u2 h2 => ?_)
  refine q_istoreV_n C 3 dX4_shift_5 rfl (by decide) (fun v5 e5 => ?_)
  refine q_iload_n C 3 dX4_shift_6 rfl rfl ?_
  refine q_iconst C dX4_shift_7 ?_
  refine q_icmp_eq C 24 dX4_shift_8 (by decide) (by omega) (by omega) (fun c8 => ?_) (fun c8 => ?_)
  · exfalso; omega
  · refine q_iload_n C 1 dX4_shift_11 rfl rfl ?_
    refine q_iload_n C 2 dX4_shift_12 rfl rfl ?_
    refine q_icmp_eq C 24 dX4_shift_13 (by decide) (by omega) (by omega) (fun c13 => ?_) (fun c13 => ?_)
    · exfalso; omega
    · refine q_aload_n C 0 dX4_shift_16 rfl rfl ?_
      refine q_iload_n C 2 dX4_shift_17 rfl rfl ?_
      refine q_Vf0 C (KX4_isFull_5 _ _ (by omega)) mX4_isFull ml_X4_67 dX4_shift_18 (by decide) (by decide) rfl rfl rfl (Nat.le_of_ble_eq_true rfl) rfl (by decide) rfl rfl (fun v18 l18 u18 h18 => ?_)
      refine q_ifeq C 25 dX4_shift_21 (by decide) (by omega) (fun c21 => ?_) (fun c21 => ?_)
      · refine q_aload_n C 0 dX4_shift_25 rfl rfl ?_
        refine q_iload_n C 1 dX4_shift_26 rfl rfl ?_
        refine q_Vv0 C (KX4_take_5 _ _ (by omega) (by omega)) mX4_take ml_X4_74 dX4_shift_27 (by decide) (by decide) rfl rfl rfl (Nat.le_of_ble_eq_true rfl) rfl (by decide) rfl rfl ?_
        refine q_aload_n C 0 dX4_shift_30 rfl rfl ?_
        refine q_iload_n C 3 dX4_shift_31 rfl rfl ?_
        refine q_iload_n C 2 dX4_shift_32 rfl rfl ?_
        have g5 : (qUp (qUp (qUp g 7 f ((g 7) f - 1)) 9 ((g 8) (f * 4 + (g 7) f - 1)) (-1)) 5 6 (w32 (g 5 6 - 1))) 5 5 = (g 5 5) := by rw [qUp_j (by decide), qUp_k (by decide), qUp_k (by decide)]
        have g6 : (qUp (qUp (qUp g 7 f ((g 7) f - 1)) 9 ((g 8) (f * 4 + (g 7) f - 1)) (-1)) 5 6 (w32 (g 5 6 - 1))) 6 t = (g 6) t := by rw [qUp_k (by decide), qUp_k (by decide), qUp_k (by decide)]
        have g7 : (qUp (qUp (qUp g 7 f ((g 7) f - 1)) 9 ((g 8) (f * 4 + (g 7) f - 1)) (-1)) 5 6 (w32 (g 5 6 - 1))) 7 t = (g 7) t := by rw [qUp_k (by decide), qUp_k (by decide), qUp_j (by omega)]
        have g8 : (qUp (qUp (qUp g 7 f ((g 7) f - 1)) 9 ((g 8) (f * 4 + (g 7) f - 1)) (-1)) 5 6 (w32 (g 5 6 - 1))) 5 6 = w32 (g 5 6 - 1) := by rw [qUp_s]
        refine q_Vv0 C (KX4_put_5 _ _ (by omega) _ (by omega) (by omega) (by rw [g5, g7, g6]; omega)) mX4_put ml_X4_78 dX4_shift_33 (by decide) (by decide) rfl rfl rfl (Nat.le_of_ble_eq_true rfl) rfl (by decide) rfl rfl ?_
        subst e5
        subst h2
        exact q_retV C dX4_shift_36 (by decide) (by rw [g7, g8, ht5])
      · exfalso; omega
set_option maxRecDepth 20000 in
theorem KX4_openStack_5 (g : qHp) (rc : Int) (hrc : -2147483648 ≤ rc ∧ rc < 2147483648) (hr2 : 1 ≤ rc ∧ rc ≤ 4) : qC yX4_openStack (.code yX4_openStack cX4_openStack 3 (some .int)) 0 0 (fun ad => [.ref (ad 5), .int (iI rc)]) g (qPi (fun (r : Int) (g' : qHp) => (((g 5 5) < 4 ∧ r = (g 5 5)) ∨ (4 ≤ (g 5 5) ∧ r = -1)) ∧ g' = (if (g 5 5) < 4 then qUp (qUp g 5 5 ((g 5 5) + 1)) 6 (g 5 5) rc else g))) qNo := by
  refine q_meth (by decide +kernel) rfl (fun _ => (Nat.le_of_ble_eq_true rfl)) (fun X ω C => ?_)
  refine q_nm (fun hn => ?_)
  have r5_5 : 0 ≤ g 5 5 ∧ g 5 5 ≤ 4 := hn 5 5
  refine q_loc [(0, .ref (ω.1 5)), (1, .int (iI rc))] ⟨rfl, rfl, trivial⟩ ?_
  refine q_aload_n C 0 dX4_openStack_0 rfl rfl ?_
  refine q_geti C (b := 5) 5 5 0 4 rfl (by decide) rfl in_X4 (by decide) fl_X4_34 rfl rfl rfl dX4_openStack_1 (fun v1 e1 l1 u1 => ?_)
  refine q_iconst C dX4_openStack_4 ?_
  refine q_icmp_lt C 10 dX4_openStack_5 (by decide) (by omega) (by omega) (fun c5 => ?_) (fun c5 => ?_)
  · refine q_aload_n C 0 dX4_openStack_10 rfl rfl ?_
    refine q_geti C (b := 5) 5 5 0 4 rfl (by decide) rfl in_X4 (by decide) fl_X4_34 rfl rfl rfl dX4_openStack_11 (fun v11 e11 l11 u11 => ?_)
    refine q_istoreV_n C 2 dX4_openStack_14 rfl (by decide) (fun v14 e14 => ?_)
    refine q_aload_n C 0 dX4_openStack_15 rfl rfl ?_
    refine q_dup C dX4_openStack_16 rfl ?_
    refine q_geti C (b := 5) 5 5 0 4 rfl (by decide) rfl in_X4 (by decide) fl_X4_34 rfl rfl rfl dX4_openStack_17 (fun v17 e17 l17 u17 => ?_)
    refine q_iconst C dX4_openStack_20 ?_
    refine q_iadd C dX4_openStack_21 ?_
    refine q_puti C (b := 5) 5 5 0 4 _ rfl (by decide) rfl in_X4 tyX4_ok nmX4 (by decide) fl_X4_34 rfl (by decide +kernel) rfl rfl rfl rfl (by omega) dX4_openStack_22 ?_
    refine q_aload_n C 0 dX4_openStack_25 rfl rfl ?_
    refine q_getr C (b := 5) 1 rfl (by decide) rfl in_X4 (by decide) fl_X4_9 rfl dX4_openStack_26 ?_
    refine q_iload_n C 2 dX4_openStack_29 rfl rfl ?_
    refine q_iload_n C 1 dX4_openStack_30 rfl rfl ?_
    refine q_iast C (b := 6) (n := 4) rfl (by decide) (by decide) (by omega)  (show 0 ≤ _ ∧ _ ≤ 4 from (by omega)) dX4_openStack_31 ?_
    refine q_iload_n C 2 dX4_openStack_32 rfl rfl ?_
    subst e17 e14 e11 e1
    exact q_iretI C dX4_openStack_33 (by omega) (by decide) (⟨by omega, by first | rw [if_pos (by omega)] | rw [if_neg (by omega)]⟩)
  · refine q_iconst C dX4_openStack_8 ?_
    subst e1
    exact q_iretI C dX4_openStack_9 (by omega) (by decide) (⟨by omega, by first | rw [if_pos (by omega)] | rw [if_neg (by omega)]⟩)
set_option maxRecDepth 20000 in
theorem KX4_stackCount_10 (g : qHp)  : qC yX4_stackCount (.code yX4_stackCount cX4_stackCount 1 (some .int)) 0 0 (fun ad => [.ref (ad 10)]) g (qPi (fun (r : Int) (g' : qHp) => (r = (g 10 5)) ∧ g' = g)) qNo := by
  refine q_meth (by decide +kernel) rfl (fun _ => (Nat.le_of_ble_eq_true rfl)) (fun X ω C => ?_)
  refine q_nm (fun hn => ?_)
  have r10_5 : 0 ≤ g 10 5 ∧ g 10 5 ≤ 4 := hn 10 5
  refine q_loc [(0, .ref (ω.1 10))] ⟨rfl, trivial⟩ ?_
  refine q_aload_n C 0 dX4_stackCount_0 rfl rfl ?_
  refine q_geti C (b := 10) 5 5 0 4 rfl (by decide) rfl in_X4 (by decide) fl_X4_34 rfl rfl rfl dX4_stackCount_1 (fun v1 e1 l1 u1 => ?_)
  subst e1
  exact q_iretI C dX4_stackCount_4 (by omega) (by decide) (⟨by omega, rfl⟩)
set_option maxRecDepth 20000 in
theorem KX4_boxCount_10 (g : qHp)  : qC yX4_boxCount (.code yX4_boxCount cX4_boxCount 1 (some .int)) 0 0 (fun ad => [.ref (ad 10)]) g (qPi (fun (r : Int) (g' : qHp) => (r = g 10 6) ∧ g' = g)) qNo := by
  refine q_meth (by decide +kernel) rfl (fun _ => (Nat.le_of_ble_eq_true rfl)) (fun X ω C => ?_)
  refine q_nm (fun hn => ?_)
  have r10_5 : 0 ≤ g 10 5 ∧ g 10 5 ≤ 4 := hn 10 5
  refine q_loc [(0, .ref (ω.1 10))] ⟨rfl, trivial⟩ ?_
  refine q_aload_n C 0 dX4_boxCount_0 rfl rfl ?_
  refine q_geti C (b := 10) 6 6 (-2147483648) 2147483647 rfl (by decide) rfl in_X4 (by decide) fl_X4_38 rfl rfl rfl dX4_boxCount_1 (fun v1 e1 l1 u1 => ?_)
  subst e1
  exact q_iretI C dX4_boxCount_4 (by omega) (by decide) (⟨by omega, rfl⟩)
set_option maxRecDepth 20000 in
theorem KX4_hasStack_10 (g : qHp) (s : Int) (hs : -2147483648 ≤ s ∧ s < 2147483648)  : qC yX4_hasStack (.code yX4_hasStack cX4_hasStack 2 (some .boolean)) 0 0 (fun ad => [.ref (ad 10), .int (iI s)]) g (qPi (fun (r : Int) (g' : qHp) => (((0 ≤ s ∧ s < (g 10 5)) ∧ r = 1) ∨ (¬ (0 ≤ s ∧ s < (g 10 5)) ∧ r = 0)) ∧ g' = g)) qNo := by
  refine q_meth (by decide +kernel) rfl (fun _ => (Nat.le_of_ble_eq_true rfl)) (fun X ω C => ?_)
  refine q_nm (fun hn => ?_)
  have r10_5 : 0 ≤ g 10 5 ∧ g 10 5 ≤ 4 := hn 10 5
  refine q_loc [(0, .ref (ω.1 10)), (1, .int (iI s))] ⟨rfl, rfl, trivial⟩ ?_
  refine q_iload_n C 1 dX4_hasStack_0 rfl rfl ?_
  refine q_iflt C 16 dX4_hasStack_1 (by decide) (by omega) (fun c1 => ?_) (fun c1 => ?_)
  · refine q_iconst C dX4_hasStack_16 ?_
    exact q_iretZ C dX4_hasStack_17 (by omega) (by decide) (⟨by omega, rfl⟩)
  · refine q_iload_n C 1 dX4_hasStack_4 rfl rfl ?_
    refine q_aload_n C 0 dX4_hasStack_5 rfl rfl ?_
    refine q_geti C (b := 10) 5 5 0 4 rfl (by decide) rfl in_X4 (by decide) fl_X4_34 rfl rfl rfl dX4_hasStack_6 (fun v6 e6 l6 u6 => ?_)
    refine q_icmp_ge C 16 dX4_hasStack_9 (by decide) (by omega) (by omega) (fun c9 => ?_) (fun c9 => ?_)
    · refine q_iconst C dX4_hasStack_16 ?_
      subst e6
      exact q_iretZ C dX4_hasStack_17 (by omega) (by decide) (⟨by omega, rfl⟩)
    · refine q_iconst C dX4_hasStack_12 ?_
      refine q_goto C 17 dX4_hasStack_13 (by decide) ?_
      subst e6
      exact q_iretZ C dX4_hasStack_17 (by omega) (by decide) (⟨by omega, rfl⟩)
set_option maxRecDepth 20000 in
theorem KX4_heightOf_10 (g : qHp) (s : Int) (hs : -2147483648 ≤ s ∧ s < 2147483648)  : qC yX4_heightOf (.code yX4_heightOf cX4_heightOf 2 (some .int)) 0 0 (fun ad => [.ref (ad 10), .int (iI s)]) g (qPi (fun (r : Int) (g' : qHp) => (r = yHt (g 10 5) (g 12) s) ∧ g' = g)) qNo := by
  refine q_meth (by decide +kernel) rfl (fun _ => (Nat.le_of_ble_eq_true rfl)) (fun X ω C => ?_)
  refine q_nm (fun hn => ?_)
  have r10_5 : 0 ≤ g 10 5 ∧ g 10 5 ≤ 4 := hn 10 5
  refine q_loc [(0, .ref (ω.1 10)), (1, .int (iI s))] ⟨rfl, rfl, trivial⟩ ?_
  refine q_iload_n C 1 dX4_heightOf_0 rfl rfl ?_
  refine q_iflt C 21 dX4_heightOf_1 (by decide) (by omega) (fun c1 => ?_) (fun c1 => ?_)
  · refine q_iconst C dX4_heightOf_21 ?_
    exact q_iretI C dX4_heightOf_22 (by omega) (by decide) (⟨by unfold yHt; first | rw [if_pos (by omega)] | rw [if_neg (by omega)], rfl⟩)
  · refine q_iload_n C 1 dX4_heightOf_4 rfl rfl ?_
    refine q_aload_n C 0 dX4_heightOf_5 rfl rfl ?_
    refine q_geti C (b := 10) 5 5 0 4 rfl (by decide) rfl in_X4 (by decide) fl_X4_34 rfl rfl rfl dX4_heightOf_6 (fun v6 e6 l6 u6 => ?_)
    refine q_icmp_ge C 21 dX4_heightOf_9 (by decide) (by omega) (by omega) (fun c9 => ?_) (fun c9 => ?_)
    · refine q_iconst C dX4_heightOf_21 ?_
      subst e6
      exact q_iretI C dX4_heightOf_22 (by omega) (by decide) (⟨by unfold yHt; first | rw [if_pos (by omega)] | rw [if_neg (by omega)], rfl⟩)
    · refine q_aload_n C 0 dX4_heightOf_12 rfl rfl ?_
      refine q_getr C (b := 10) 2 rfl (by decide) rfl in_X4 (by decide) fl_X4_15 rfl dX4_heightOf_13 ?_
      refine q_iload_n C 1 dX4_heightOf_16 rfl rfl ?_
      refine q_iald C (b := 12) (n := 4) 0 4 rfl (by decide) (by decide) (by omega) (fun _ => rfl) dX4_heightOf_17 (fun v17 e17 l17 u17 => ?_)
      refine q_goto C 22 dX4_heightOf_18 (by decide) ?_
      subst e17 e6
      exact q_iretI C dX4_heightOf_22 (by omega) (by decide) (⟨by unfold yHt; first | rw [if_pos (by omega)] | rw [if_neg (by omega)], rfl⟩)
set_option maxRecDepth 20000 in
theorem KX4_isFull_10 (g : qHp) (s : Int) (hs : -2147483648 ≤ s ∧ s < 2147483648)  : qC yX4_isFull (.code yX4_isFull cX4_isFull 2 (some .boolean)) 0 0 (fun ad => [.ref (ad 10), .int (iI s)]) g (qPi (fun (r : Int) (g' : qHp) => (((s < 0 ∨ (g 10 5) ≤ s ∨ (g 11) s ≤ (g 12) s) ∧ r = 1) ∨ (¬ (s < 0 ∨ (g 10 5) ≤ s ∨ (g 11) s ≤ (g 12) s) ∧ r = 0)) ∧ g' = g)) qNo := by
  refine q_meth (by decide +kernel) rfl (fun _ => (Nat.le_of_ble_eq_true rfl)) (fun X ω C => ?_)
  refine q_nm (fun hn => ?_)
  have r10_5 : 0 ≤ g 10 5 ∧ g 10 5 ≤ 4 := hn 10 5
  refine q_loc [(0, .ref (ω.1 10)), (1, .int (iI s))] ⟨rfl, rfl, trivial⟩ ?_
  refine q_iload_n C 1 dX4_isFull_0 rfl rfl ?_
  refine q_iflt C 27 dX4_isFull_1 (by decide) (by omega) (fun c1 => ?_) (fun c1 => ?_)
  · refine q_iconst C dX4_isFull_27 ?_
    refine q_goto C 32 dX4_isFull_28 (by decide) ?_
    exact q_iretZ C dX4_isFull_32 (by omega) (by decide) (⟨by omega, rfl⟩)
  · refine q_iload_n C 1 dX4_isFull_4 rfl rfl ?_
    refine q_aload_n C 0 dX4_isFull_5 rfl rfl ?_
    refine q_geti C (b := 10) 5 5 0 4 rfl (by decide) rfl in_X4 (by decide) fl_X4_34 rfl rfl rfl dX4_isFull_6 (fun v6 e6 l6 u6 => ?_)
    refine q_icmp_ge C 27 dX4_isFull_9 (by decide) (by omega) (by omega) (fun c9 => ?_) (fun c9 => ?_)
    · refine q_iconst C dX4_isFull_27 ?_
      refine q_goto C 32 dX4_isFull_28 (by decide) ?_
      subst e6
      exact q_iretZ C dX4_isFull_32 (by omega) (by decide) (⟨by omega, rfl⟩)
    · refine q_aload_n C 0 dX4_isFull_12 rfl rfl ?_
      refine q_getr C (b := 10) 2 rfl (by decide) rfl in_X4 (by decide) fl_X4_15 rfl dX4_isFull_13 ?_
      refine q_iload_n C 1 dX4_isFull_16 rfl rfl ?_
      refine q_iald C (b := 12) (n := 4) 0 4 rfl (by decide) (by decide) (by omega) (fun _ => rfl) dX4_isFull_17 (fun v17 e17 l17 u17 => ?_)
      refine q_aload_n C 0 dX4_isFull_18 rfl rfl ?_
      refine q_getr C (b := 10) 1 rfl (by decide) rfl in_X4 (by decide) fl_X4_9 rfl dX4_isFull_19 ?_
      refine q_iload_n C 1 dX4_isFull_22 rfl rfl ?_
      refine q_iald C (b := 11) (n := 4) 0 4 rfl (by decide) (by decide) (by omega) (fun _ => rfl) dX4_isFull_23 (fun v23 e23 l23 u23 => ?_)
      refine q_icmp_lt C 31 dX4_isFull_24 (by decide) (by omega) (by omega) (fun c24 => ?_) (fun c24 => ?_)
      · refine q_iconst C dX4_isFull_31 ?_
        subst e23 e17 e6
        exact q_iretZ C dX4_isFull_32 (by omega) (by decide) (⟨by omega, rfl⟩)
      · refine q_iconst C dX4_isFull_27 ?_
        refine q_goto C 32 dX4_isFull_28 (by decide) ?_
        subst e23 e17 e6
        exact q_iretZ C dX4_isFull_32 (by omega) (by decide) (⟨by omega, rfl⟩)
set_option maxRecDepth 20000 in
theorem KX4_topOf_10 (g : qHp) (s : Int) (hs : -2147483648 ≤ s ∧ s < 2147483648)  : qC yX4_topOf (.code yX4_topOf cX4_topOf 2 (some .int)) 0 0 (fun ad => [.ref (ad 10), .int (iI s)]) g (qPi (fun (r : Int) (g' : qHp) => (r = yTop (g 10 5) (g 12) (g 13) s) ∧ g' = g)) qNo := by
  refine q_meth (by decide +kernel) rfl (fun _ => (Nat.le_of_ble_eq_true rfl)) (fun X ω C => ?_)
  refine q_nm (fun hn => ?_)
  have r10_5 : 0 ≤ g 10 5 ∧ g 10 5 ≤ 4 := hn 10 5
  refine q_loc [(0, .ref (ω.1 10)), (1, .int (iI s))] ⟨rfl, rfl, trivial⟩ ?_
  refine q_iload_n C 1 dX4_topOf_0 rfl rfl ?_
  refine q_iflt C 21 dX4_topOf_1 (by decide) (by omega) (fun c1 => ?_) (fun c1 => ?_)
  · refine q_iconst C dX4_topOf_21 ?_
    exact q_iretI C dX4_topOf_22 (by omega) (by decide) (⟨by unfold yTop; first | rw [if_pos (by omega)] | rw [if_neg (by omega)], rfl⟩)
  · refine q_iload_n C 1 dX4_topOf_4 rfl rfl ?_
    refine q_aload_n C 0 dX4_topOf_5 rfl rfl ?_
    refine q_geti C (b := 10) 5 5 0 4 rfl (by decide) rfl in_X4 (by decide) fl_X4_34 rfl rfl rfl dX4_topOf_6 (fun v6 e6 l6 u6 => ?_)
    refine q_icmp_ge C 21 dX4_topOf_9 (by decide) (by omega) (by omega) (fun c9 => ?_) (fun c9 => ?_)
    · refine q_iconst C dX4_topOf_21 ?_
      subst e6
      exact q_iretI C dX4_topOf_22 (by omega) (by decide) (⟨by unfold yTop; first | rw [if_pos (by omega)] | rw [if_neg (by omega)], rfl⟩)
    · refine q_aload_n C 0 dX4_topOf_12 rfl rfl ?_
      refine q_getr C (b := 10) 2 rfl (by decide) rfl in_X4 (by decide) fl_X4_15 rfl dX4_topOf_13 ?_
      refine q_iload_n C 1 dX4_topOf_16 rfl rfl ?_
      refine q_iald C (b := 12) (n := 4) 0 4 rfl (by decide) (by decide) (by omega) (fun _ => rfl) dX4_topOf_17 (fun v17 e17 l17 u17 => ?_)
      refine q_ifne C 23 dX4_topOf_18 (by decide) (by omega) (fun c18 => ?_) (fun c18 => ?_)
      · refine q_aload_n C 0 dX4_topOf_23 rfl rfl ?_
        refine q_getr C (b := 10) 3 rfl (by decide) rfl in_X4 (by decide) fl_X4_18 rfl dX4_topOf_24 ?_
        refine q_iload_n C 1 dX4_topOf_27 rfl rfl ?_
        refine q_iconst C dX4_topOf_28 ?_
        refine q_imul C dX4_topOf_29 ?_
        refine q_aload_n C 0 dX4_topOf_30 rfl rfl ?_
        refine q_getr C (b := 10) 2 rfl (by decide) rfl in_X4 (by decide) fl_X4_15 rfl dX4_topOf_31 ?_
        refine q_iload_n C 1 dX4_topOf_34 rfl rfl ?_
        refine q_iald C (b := 12) (n := 4) 0 4 rfl (by decide) (by decide) (by omega) (fun _ => rfl) dX4_topOf_35 (fun v35 e35 l35 u35 => ?_)
        refine q_iadd C dX4_topOf_36 ?_
        refine q_iconst C dX4_topOf_37 ?_
        refine q_isub C dX4_topOf_38 ?_
        refine q_iald C (b := 13) (n := 16) 0 19 rfl (by decide) (by decide) (by omega) (fun _ => rfl) dX4_topOf_39 (fun v39 e39 l39 u39 => ?_)
        subst e39 e35 e17 e6
        exact q_iretI C dX4_topOf_40 (by omega) (by decide) (⟨by unfold yTop; first | rw [if_pos (by omega)] | rw [if_neg (by omega)], rfl⟩)
      · refine q_iconst C dX4_topOf_21 ?_
        subst e17 e6
        exact q_iretI C dX4_topOf_22 (by omega) (by decide) (⟨by unfold yTop; first | rw [if_pos (by omega)] | rw [if_neg (by omega)], rfl⟩)
set_option maxRecDepth 20000 in
theorem KX4_stackWith_10 (g : qHp) (x : Int) (hx : -2147483648 ≤ x ∧ x < 2147483648)  : qC yX4_stackWith (.code yX4_stackWith cX4_stackWith 2 (some .int)) 0 0 (fun ad => [.ref (ad 10), .int (iI x)]) g (qPi (fun (r : Int) (g' : qHp) => (r = ySt (g 14) x) ∧ g' = g)) qNo := by
  refine q_meth (by decide +kernel) rfl (fun _ => (Nat.le_of_ble_eq_true rfl)) (fun X ω C => ?_)
  refine q_nm (fun hn => ?_)
  have r10_5 : 0 ≤ g 10 5 ∧ g 10 5 ≤ 4 := hn 10 5
  refine q_loc [(0, .ref (ω.1 10)), (1, .int (iI x))] ⟨rfl, rfl, trivial⟩ ?_
  refine q_iload_n C 1 dX4_stackWith_0 rfl rfl ?_
  refine q_iflt C 19 dX4_stackWith_1 (by decide) (by omega) (fun c1 => ?_) (fun c1 => ?_)
  · refine q_iconst C dX4_stackWith_19 ?_
    exact q_iretI C dX4_stackWith_20 (by omega) (by decide) (⟨by unfold ySt; first | rw [if_pos (by omega)] | rw [if_neg (by omega)], rfl⟩)
  · refine q_iload_n C 1 dX4_stackWith_4 rfl rfl ?_
    refine q_bipush C dX4_stackWith_5 (by decide +kernel) ?_
    refine q_icmp_ge C 19 dX4_stackWith_7 (by decide) (by omega) (by omega) (fun c7 => ?_) (fun c7 => ?_)
    · refine q_iconst C dX4_stackWith_19 ?_
      exact q_iretI C dX4_stackWith_20 (by omega) (by decide) (⟨by unfold ySt; first | rw [if_pos (by omega)] | rw [if_neg (by omega)], rfl⟩)
    · refine q_aload_n C 0 dX4_stackWith_10 rfl rfl ?_
      refine q_getr C (b := 10) 4 rfl (by decide) rfl in_X4 (by decide) fl_X4_21 rfl dX4_stackWith_11 ?_
      refine q_iload_n C 1 dX4_stackWith_14 rfl rfl ?_
      refine q_iald C (b := 14) (n := 20) (-1) 3 rfl (by decide) (by decide) (by omega) (fun _ => rfl) dX4_stackWith_15 (fun v15 e15 l15 u15 => ?_)
      refine q_goto C 20 dX4_stackWith_16 (by decide) ?_
      subst e15
      exact q_iretI C dX4_stackWith_20 (by omega) (by decide) (⟨by unfold ySt; first | rw [if_pos (by omega)] | rw [if_neg (by omega)], rfl⟩)
set_option maxRecDepth 20000 in
theorem KX4_boxOn_10 (g : qHp) (s : Int) (hs : -2147483648 ≤ s ∧ s < 2147483648) (k : Int) (hk : -2147483648 ≤ k ∧ k < 2147483648)  : qC yX4_boxOn (.code yX4_boxOn cX4_boxOn 3 (some .int)) 1 0 (fun ad => [.ref (ad 10), .int (iI s), .int (iI k)]) g (qPi (fun (r : Int) (g' : qHp) => (r = yAt (g 10 5) (g 12) (g 13) s k) ∧ g' = g)) qNo := by
  refine q_meth (by decide +kernel) rfl (fun _ => (Nat.le_of_ble_eq_true rfl)) (fun X ω C => ?_)
  refine q_nm (fun hn => ?_)
  have r10_5 : 0 ≤ g 10 5 ∧ g 10 5 ≤ 4 := hn 10 5
  refine q_loc [(0, .ref (ω.1 10)), (1, .int (iI s)), (2, .int (iI k))] ⟨rfl, rfl, rfl, trivial⟩ ?_
  refine q_iload_n C 2 dX4_boxOn_0 rfl rfl ?_
  refine q_iflt C 13 dX4_boxOn_1 (by decide) (by omega) (fun c1 => ?_) (fun c1 => ?_)
  · refine q_iconst C dX4_boxOn_13 ?_
    
    exact q_iretI C dX4_boxOn_14 (by omega) (by decide) ⟨by unfold yAt; rw [if_neg (by omega)], rfl⟩
  · refine q_iload_n C 2 dX4_boxOn_4 rfl rfl ?_
    refine q_aload_n C 0 dX4_boxOn_5 rfl rfl ?_
    refine q_iload_n C 1 dX4_boxOn_6 rfl rfl ?_
    refine q_Vf0 C (KX4_heightOf_10 _ _ (by omega)) mX4_heightOf ml_X4_50 dX4_boxOn_7 (by decide) (by decide) rfl rfl rfl (Nat.le_of_ble_eq_true rfl) rfl (by decide) rfl rfl (fun v7 l7 u7 h7 => ?_)
    refine q_icmp_lt C 15 dX4_boxOn_10 (by decide) (by omega) (by omega) (fun c10 => ?_) (fun c10 => ?_)
    · refine q_aload_n C 0 dX4_boxOn_15 rfl rfl ?_
      have hs5 : 0 ≤ s ∧ s < (g 10 5) ∧ yHt (g 10 5) (g 12) s = (g 12) s := by
        unfold yHt at h7 ⊢
        by_cases q : 0 ≤ s ∧ s < (g 10 5)
        · rw [if_pos q]; exact ⟨q.1, q.2, rfl⟩
        · rw [if_neg q] at h7; omega
      have hr5 : (g 12) s ≤ 4 := (hn 12 s).2
      refine q_getr C (b := 10) 3 rfl (by decide) rfl in_X4 (by decide) fl_X4_18 rfl dX4_boxOn_16 ?_
      refine q_iload_n C 1 dX4_boxOn_19 rfl rfl ?_
      refine q_iconst C dX4_boxOn_20 ?_
      refine q_imul C dX4_boxOn_21 ?_
      refine q_iload_n C 2 dX4_boxOn_22 rfl rfl ?_
      refine q_iadd C dX4_boxOn_23 ?_
      refine q_iald C (b := 13) (n := 16) 0 19 rfl (by decide) (by decide) (by omega) (fun _ => rfl) dX4_boxOn_24 (fun v24 e24 l24 u24 => ?_)
      subst e24
      exact q_iretI C dX4_boxOn_25 (by omega) (by decide) ⟨by unfold yAt; rw [if_pos (by omega)], rfl⟩
    · refine q_iconst C dX4_boxOn_13 ?_
      
      exact q_iretI C dX4_boxOn_14 (by omega) (by decide) ⟨by unfold yAt; rw [if_neg (by omega)], rfl⟩
set_option maxRecDepth 20000 in
theorem KX4_bears_10 (g : qHp) (t : Int) (ht : -2147483648 ≤ t ∧ t < 2147483648) (w : Int) (hw : -2147483648 ≤ w ∧ w < 2147483648)  : qC yX4_bears (.code yX4_bears cX4_bears 4 (some .boolean)) 1 0 (fun ad => [.ref (ad 10), .int (iI t), .int (iI w)]) g (qPi (fun (r : Int) (g' : qHp) => ((yBears g (g 10 5) (g 12) (g 13) t w ∧ r = 1) ∨ (¬ yBears g (g 10 5) (g 12) (g 13) t w ∧ r = 0)) ∧ g' = g)) qNo := by
  refine q_meth (by decide +kernel) rfl (fun _ => (Nat.le_of_ble_eq_true rfl)) (fun X ω C => ?_)
  refine q_nm (fun hn => ?_)
  have r10_5 : 0 ≤ g 10 5 ∧ g 10 5 ≤ 4 := hn 10 5
  refine q_loc [(0, .ref (ω.1 10)), (1, .int (iI t)), (2, .int (iI w))] ⟨rfl, rfl, rfl, trivial⟩ ?_
  refine q_aload_n C 0 dX4_bears_0 rfl rfl ?_
  refine q_iload_n C 1 dX4_bears_1 rfl rfl ?_
  refine q_Vf0 C (KX4_topOf_10 _ _ (by omega)) mX4_topOf ml_X4_41 dX4_bears_2 (by decide) (by decide) rfl rfl rfl (Nat.le_of_ble_eq_true rfl) rfl (by decide) rfl rfl (fun v2 l2 u2 h2 => ?_)
  refine q_istoreV_n C 3 dX4_bears_5 rfl (by decide) (fun v5 e5 => ?_)
  refine q_iload_n C 3 dX4_bears_6 rfl rfl ?_
  refine q_iconst C dX4_bears_7 ?_
  refine q_icmp_eq C 23 dX4_bears_8 (by decide) (by omega) (by omega) (fun c8 => ?_) (fun c8 => ?_)
  · refine q_iconst C dX4_bears_23 ?_
    refine q_goto C 28 dX4_bears_24 (by decide) ?_
    subst e5
    exact q_iretZ C dX4_bears_28 (by omega) (by decide) (⟨by subst h2; unfold yBears; omega, rfl⟩)
  · refine q_aload_n C 0 dX4_bears_11 rfl rfl ?_
    refine q_getr C (b := 10) 0 rfl (by decide) rfl in_X4 (by decide) fl_X4_24 rfl dX4_bears_12 ?_
    refine q_iload_n C 3 dX4_bears_15 rfl rfl ?_
    refine q_Vf0 C (KX0_weightOf _ _ (by omega)) mX0_weightOf ml_X4_45 dX4_bears_16 (by decide) (by decide) rfl rfl rfl (Nat.le_of_ble_eq_true rfl) rfl (by decide) rfl rfl (fun v16 l16 u16 h16 => ?_)
    refine q_iload_n C 2 dX4_bears_19 rfl rfl ?_
    refine q_icmp_lt C 27 dX4_bears_20 (by decide) (by omega) (by omega) (fun c20 => ?_) (fun c20 => ?_)
    · refine q_iconst C dX4_bears_27 ?_
      subst e5
      exact q_iretZ C dX4_bears_28 (by omega) (by decide) (⟨by subst h2; unfold yBears; omega, rfl⟩)
    · refine q_iconst C dX4_bears_23 ?_
      refine q_goto C 28 dX4_bears_24 (by decide) ?_
      subst e5
      exact q_iretZ C dX4_bears_28 (by omega) (by decide) (⟨by subst h2; unfold yBears; omega, rfl⟩)
set_option maxRecDepth 20000 in
theorem KX4_boxesUnder_10 (g : qHp) (x : Int) (hx : -2147483648 ≤ x ∧ x < 2147483648)  : qC yX4_boxesUnder (.code yX4_boxesUnder cX4_boxesUnder 4 (some .int)) 2 0 (fun ad => [.ref (ad 10), .int (iI x)]) g (qPi (fun (r : Int) (g' : qHp) => (r = yUnd (g 10 5) (g 12) (g 13) (g 14) x ∧ 0 ≤ r ∧ r ≤ yHt (g 10 5) (g 12) (ySt (g 14) x)) ∧ g' = g)) qNo := by
  refine q_meth (by decide +kernel) rfl (fun _ => (Nat.le_of_ble_eq_true rfl)) (fun X ω C => ?_)
  refine q_nm (fun hn => ?_)
  have r10_5 : 0 ≤ g 10 5 ∧ g 10 5 ≤ 4 := hn 10 5
  refine q_loc [(0, .ref (ω.1 10)), (1, .int (iI x))] ⟨rfl, rfl, trivial⟩ ?_
  refine q_aload_n C 0 dX4_boxesUnder_0 rfl rfl ?_
  refine q_iload_n C 1 dX4_boxesUnder_1 rfl rfl ?_
  refine q_Vf0 C (KX4_stackWith_10 _ _ (by omega)) mX4_stackWith ml_X4_53 dX4_boxesUnder_2 (by decide) (by decide) rfl rfl rfl (Nat.le_of_ble_eq_true rfl) rfl (by decide) rfl rfl (fun v2 l2 u2 h2 => ?_)
  refine q_istoreV_n C 2 dX4_boxesUnder_5 rfl (by decide) (fun v5 e5 => ?_)
  refine q_iconst C dX4_boxesUnder_6 ?_
  refine q_istoreV_n C 3 dX4_boxesUnder_7 rfl (by decide) (fun v7 e7 => ?_)
  have hq5 : 0 ≤ yHt (g 10 5) (g 12) v5 ∧ yHt (g 10 5) (g 12) v5 ≤ 4 := by
    have q := hn 12 v5
    have q1 : 0 ≤ (g 12) v5 := q.1
    have q2 : (g 12) v5 ≤ 4 := q.2
    unfold yHt; split <;> omega
  have loop : ∀ (n : Nat) (i : Int), ((yHt (g 10 5) (g 12) v5 - i) < (n : Int)) → (0 ≤ i) → (i ≤ yHt (g 10 5) (g 12) v5) → (fstI (fun k => decide (yAt (g 10 5) (g 12) (g 13) v5 k = x)) (yHt (g 10 5) (g 12) v5).toNat 0 = fstI (fun k => decide (yAt (g 10 5) (g 12) (g 13) v5 k = x)) (yHt (g 10 5) (g 12) v5 - i).toNat i) → qT X ω 4 0 (qEnd X ω (qPi (fun (r : Int) (g' : qHp) => (r = yUnd (g 10 5) (g 12) (g 13) (g 14) x ∧ 0 ≤ r ∧ r ≤ yHt (g 10 5) (g 12) (ySt (g 14) x)) ∧ g' = g)) qNo 0) g 8 [(0, .ref (ω.1 10)), (1, .int (iI x)), (2, .int (iI v5)), (3, .int (iI i))] [] := by
    intro n
    induction n with
    | zero => intro i hm hi hi2 hm2; exfalso; omega
    | succ n ih =>
      intro i hm hi hi2 hm2
      refine q_iload_n C 3 dX4_boxesUnder_8 rfl rfl ?_
      refine q_aload_n C 0 dX4_boxesUnder_9 rfl rfl ?_
      refine q_iload_n C 2 dX4_boxesUnder_10 rfl rfl ?_
      refine q_Vf0 C (KX4_heightOf_10 _ _ (by omega)) mX4_heightOf ml_X4_50 dX4_boxesUnder_11 (by decide) (by decide) rfl rfl rfl (Nat.le_of_ble_eq_true rfl) rfl (by decide) rfl rfl (fun v11 l11 u11 h11 => ?_)
      refine q_icmp_ge C 33 dX4_boxesUnder_14 (by decide) (by omega) (by omega) (fun c14 => ?_) (fun c14 => ?_)
      · refine q_iload_n C 3 dX4_boxesUnder_33 rfl rfl ?_
        refine q_iretI C dX4_boxesUnder_34 (by omega) (by decide) ⟨⟨?_, hi, ?_⟩, rfl⟩
        · subst e5
          subst h2
          unfold yUnd
          rw [hm2]
          rw [show (yHt (g 10 5) (g 12) (ySt (g 14) x) - i).toNat = 0 by omega]
          rfl
        · subst e5
          subst h2
          exact hi2
      · refine q_aload_n C 0 dX4_boxesUnder_17 rfl rfl ?_
        refine q_iload_n C 2 dX4_boxesUnder_18 rfl rfl ?_
        refine q_iload_n C 3 dX4_boxesUnder_19 rfl rfl ?_
        refine q_Vf0 C (KX4_boxOn_10 _ _ (by omega) _ (by omega)) mX4_boxOn ml_X4_56 dX4_boxesUnder_20 (by decide) (by decide) rfl rfl rfl (Nat.le_of_ble_eq_true rfl) rfl (by decide) rfl rfl (fun v20 l20 u20 h20 => ?_)
        refine q_iload_n C 1 dX4_boxesUnder_23 rfl rfl ?_
        refine q_icmp_eq C 33 dX4_boxesUnder_24 (by decide) (by omega) (by omega) (fun c24 => ?_) (fun c24 => ?_)
        · refine q_iload_n C 3 dX4_boxesUnder_33 rfl rfl ?_
          refine q_iretI C dX4_boxesUnder_34 (by omega) (by decide) ⟨⟨?_, hi, ?_⟩, rfl⟩
          · subst e5
            subst h2
            unfold yUnd
            rw [hm2]
            rw [show (yHt (g 10 5) (g 12) (ySt (g 14) x) - i).toNat = ((yHt (g 10 5) (g 12) (ySt (g 14) x) - i).toNat - 1) + 1 by omega, fstI_t (decide_eq_true (by omega))]
          · subst e5
            subst h2
            exact hi2
        · refine q_iinc C dX4_boxesUnder_27 rfl (by decide) (fun v27 e27 => ?_)
          refine q_goto C 8 dX4_boxesUnder_30 (by decide) ?_
          refine q_loc [(0, .ref (ω.1 10)), (1, .int (iI x)), (2, .int (iI v5)), (3, .int (iI v27))] ⟨rfl, rfl, rfl, rfl, trivial⟩ ?_
          exact ih v27 (by omega) (by omega) (by omega) (by subst e27; exact fstI_next (p := fun k => decide (yAt (g 10 5) (g 12) (g 13) v5 k = x)) (by omega) (decide_eq_false (by omega)) hm2)
  refine q_loc [(0, .ref (ω.1 10)), (1, .int (iI x)), (2, .int (iI v5)), (3, .int (iI v7))] ⟨rfl, rfl, rfl, rfl, trivial⟩ ?_
  exact loop ((yHt (g 10 5) (g 12) v5 - v7).toNat + 1) v7 (by omega) (by omega) (by omega) (by rw [e7, Int.sub_zero])
set_option maxRecDepth 20000 in
theorem KX4_boxesOver_10 (g : qHp) (x : Int) (hx : -2147483648 ≤ x ∧ x < 2147483648)  : qC yX4_boxesOver (.code yX4_boxesOver cX4_boxesOver 3 (some .int)) 3 0 (fun ad => [.ref (ad 10), .int (iI x)]) g (qPi (fun (r : Int) (g' : qHp) => (r = yOvr (g 10 5) (g 12) (g 13) (g 14) x ∧ -1 ≤ r ∧ r ≤ 3) ∧ g' = g)) qNo := by
  refine q_meth (by decide +kernel) rfl (fun _ => (Nat.le_of_ble_eq_true rfl)) (fun X ω C => ?_)
  refine q_nm (fun hn => ?_)
  have r10_5 : 0 ≤ g 10 5 ∧ g 10 5 ≤ 4 := hn 10 5
  have hq5 : ∀ v, 0 ≤ yHt (g 10 5) (g 12) v ∧ yHt (g 10 5) (g 12) v ≤ 4 := by
    intro v
    have q := hn 12 v
    have q1 : 0 ≤ (g 12) v := q.1
    have q2 : (g 12) v ≤ 4 := q.2
    unfold yHt; split <;> omega
  refine q_loc [(0, .ref (ω.1 10)), (1, .int (iI x))] ⟨rfl, rfl, trivial⟩ ?_
  refine q_aload_n C 0 dX4_boxesOver_0 rfl rfl ?_
  refine q_iload_n C 1 dX4_boxesOver_1 rfl rfl ?_
  refine q_Vf0 C (KX4_stackWith_10 _ _ (by omega)) mX4_stackWith ml_X4_53 dX4_boxesOver_2 (by decide) (by decide) rfl rfl rfl (Nat.le_of_ble_eq_true rfl) rfl (by decide) rfl rfl (fun v2 l2 u2 h2 => ?_)
  refine q_istoreV_n C 2 dX4_boxesOver_5 rfl (by decide) (fun v5 e5 => ?_)
  refine q_iload_n C 2 dX4_boxesOver_6 rfl rfl ?_
  refine q_iconst C dX4_boxesOver_7 ?_
  refine q_icmp_ne C 15 dX4_boxesOver_8 (by decide) (by omega) (by omega) (fun c8 => ?_) (fun c8 => ?_)
  · refine q_aload_n C 0 dX4_boxesOver_15 rfl rfl ?_
    refine q_iload_n C 2 dX4_boxesOver_16 rfl rfl ?_
    have hq6 := hq5 v5
    refine q_Vf0 C (KX4_heightOf_10 _ _ (by omega)) mX4_heightOf ml_X4_50 dX4_boxesOver_17 (by decide) (by decide) rfl rfl rfl (Nat.le_of_ble_eq_true rfl) rfl (by decide) rfl rfl (fun v17 l17 u17 h17 => ?_)
    refine q_iconst C dX4_boxesOver_20 ?_
    refine q_isub C dX4_boxesOver_21 ?_
    refine q_aload_n C 0 dX4_boxesOver_22 rfl rfl ?_
    refine q_iload_n C 1 dX4_boxesOver_23 rfl rfl ?_
    refine q_Vf0 C (KX4_boxesUnder_10 _ _ (by omega)) mX4_boxesUnder ml_X4_60 dX4_boxesOver_24 (by decide) (by decide) rfl rfl rfl (Nat.le_of_ble_eq_true rfl) rfl (by decide) rfl rfl (fun v24 l24 u24 h24 => ?_)
    refine q_isub C dX4_boxesOver_27 ?_
    subst e5
    subst h2
    refine q_iretI C dX4_boxesOver_28 (by omega) (by decide) ⟨⟨?_, by omega, by omega⟩, rfl⟩
    unfold yOvr
    obtain ⟨h24, -⟩ := h24
    rw [if_neg (by omega), ← h24, ← h17]
  · refine q_iconst C dX4_boxesOver_11 ?_
    refine q_goto C 28 dX4_boxesOver_12 (by decide) ?_
    subst e5
    subst h2
    refine q_iretI C dX4_boxesOver_28 (by omega) (by decide) ⟨⟨?_, by omega, by omega⟩, rfl⟩
    unfold yOvr
    rw [if_pos (by omega)]
set_option maxRecDepth 20000 in
theorem KX4_pinnedOver_10 (g : qHp) (x : Int) (hx : -2147483648 ≤ x ∧ x < 2147483648)  : qC yX4_pinnedOver (.code yX4_pinnedOver cX4_pinnedOver 5 (some .int)) 3 0 (fun ad => [.ref (ad 10), .int (iI x)]) g (qPi (fun (r : Int) (g' : qHp) => (r = yPin g (g 10 5) (g 12) (g 13) (g 14) x) ∧ g' = g)) qNo := by
  refine q_meth (by decide +kernel) rfl (fun _ => (Nat.le_of_ble_eq_true rfl)) (fun X ω C => ?_)
  refine q_nm (fun hn => ?_)
  have r10_5 : 0 ≤ g 10 5 ∧ g 10 5 ≤ 4 := hn 10 5
  refine q_loc [(0, .ref (ω.1 10)), (1, .int (iI x))] ⟨rfl, rfl, trivial⟩ ?_
  refine q_aload_n C 0 dX4_pinnedOver_0 rfl rfl ?_
  refine q_iload_n C 1 dX4_pinnedOver_1 rfl rfl ?_
  refine q_Vf0 C (KX4_stackWith_10 _ _ (by omega)) mX4_stackWith ml_X4_53 dX4_pinnedOver_2 (by decide) (by decide) rfl rfl rfl (Nat.le_of_ble_eq_true rfl) rfl (by decide) rfl rfl (fun v2 l2 u2 h2 => ?_)
  refine q_istoreV_n C 2 dX4_pinnedOver_5 rfl (by decide) (fun v5 e5 => ?_)
  refine q_iconst C dX4_pinnedOver_6 ?_
  refine q_istoreV_n C 3 dX4_pinnedOver_7 rfl (by decide) (fun v7 e7 => ?_)
  refine q_aload_n C 0 dX4_pinnedOver_8 rfl rfl ?_
  refine q_iload_n C 1 dX4_pinnedOver_9 rfl rfl ?_
  refine q_Vf0 C (KX4_boxesUnder_10 _ _ (by omega)) mX4_boxesUnder ml_X4_60 dX4_pinnedOver_10 (by decide) (by decide) rfl rfl rfl (Nat.le_of_ble_eq_true rfl) rfl (by decide) rfl rfl (fun v10 l10 u10 h10 => ?_)
  refine q_iconst C dX4_pinnedOver_13 ?_
  refine q_iadd C dX4_pinnedOver_14 ?_
  refine q_istoreV C dX4_pinnedOver_15 (by decide) (fun v15 e15 => ?_)
  have hq5 : 0 ≤ yHt (g 10 5) (g 12) v5 ∧ yHt (g 10 5) (g 12) v5 ≤ 4 := by
    have q := hn 12 v5
    have q1 : 0 ≤ (g 12) v5 := q.1
    have q2 : (g 12) v5 ≤ 4 := q.2
    unfold yHt; split <;> omega
  have loop : ∀ (n : Nat) (q : Int) (i : Int), ((yHt (g 10 5) (g 12) v5 + 1 - i) < (n : Int)) → (v15 ≤ i) → (i ≤ yHt (g 10 5) (g 12) v5 + 1) → (0 ≤ q ∧ q ≤ i) → (cntF (fun k => pinB g (yAt (g 10 5) (g 12) (g 13) v5 k)) (yHt (g 10 5) (g 12) v5 - v15).toNat v15 = q + cntF (fun k => pinB g (yAt (g 10 5) (g 12) (g 13) v5 k)) (yHt (g 10 5) (g 12) v5 - i).toNat i) → qT X ω 5 0 (qEnd X ω (qPi (fun (r : Int) (g' : qHp) => (r = yPin g (g 10 5) (g 12) (g 13) (g 14) x) ∧ g' = g)) qNo 0) g 17 [(0, .ref (ω.1 10)), (1, .int (iI x)), (2, .int (iI v5)), (3, .int (iI q)), (4, .int (iI i))] [] := by
    intro n
    induction n with
    | zero => intro q i hm hi hi2 hq hm2; exfalso; omega
    | succ n ih =>
      intro q i hm hi hi2 hq hm2
      refine q_iload C dX4_pinnedOver_17 rfl ?_
      refine q_aload_n C 0 dX4_pinnedOver_19 rfl rfl ?_
      refine q_iload_n C 2 dX4_pinnedOver_20 rfl rfl ?_
      refine q_Vf0 C (KX4_heightOf_10 _ _ (by omega)) mX4_heightOf ml_X4_50 dX4_pinnedOver_21 (by decide) (by decide) rfl rfl rfl (Nat.le_of_ble_eq_true rfl) rfl (by decide) rfl rfl (fun v21 l21 u21 h21 => ?_)
      refine q_icmp_ge C 53 dX4_pinnedOver_24 (by decide) (by omega) (by omega) (fun c24 => ?_) (fun c24 => ?_)
      · refine q_iload_n C 3 dX4_pinnedOver_53 rfl rfl ?_
        refine q_iretI C dX4_pinnedOver_54 (by omega) (by decide) ⟨?_, rfl⟩
        rw [cntF_0 (c := yHt (g 10 5) (g 12) v5) (i := i) (by omega)] at hm2
        subst e15
        subst e5
        obtain ⟨h10, -⟩ := h10
        subst h10
        subst h2
        unfold yPin
        omega
      · refine q_aload_n C 0 dX4_pinnedOver_27 rfl rfl ?_
        refine q_getr C (b := 10) 0 rfl (by decide) rfl in_X4 (by decide) fl_X4_24 rfl dX4_pinnedOver_28 ?_
        refine q_aload_n C 0 dX4_pinnedOver_31 rfl rfl ?_
        refine q_iload_n C 2 dX4_pinnedOver_32 rfl rfl ?_
        refine q_iload C dX4_pinnedOver_33 rfl ?_
        refine q_Vf0 C (KX4_boxOn_10 _ _ (by omega) _ (by omega)) mX4_boxOn ml_X4_56 dX4_pinnedOver_35 (by decide) (by decide) rfl rfl rfl (Nat.le_of_ble_eq_true rfl) rfl (by decide) rfl rfl (fun v35 l35 u35 h35 => ?_)
        refine q_Vf0 C (KX0_isPinned _ _ (by omega)) mX0_isPinned ml_X4_63 dX4_pinnedOver_38 (by decide) (by decide) rfl rfl rfl (Nat.le_of_ble_eq_true rfl) rfl (by decide) rfl rfl (fun v38 l38 u38 h38 => ?_)
        refine q_ifeq C 47 dX4_pinnedOver_41 (by decide) (by omega) (fun c41 => ?_) (fun c41 => ?_)
        · refine q_iinc C dX4_pinnedOver_47 rfl (by decide) (fun v47 e47 => ?_)
          refine q_goto C 17 dX4_pinnedOver_50 (by decide) ?_
          refine q_loc [(0, .ref (ω.1 10)), (1, .int (iI x)), (2, .int (iI v5)), (3, .int (iI q)), (4, .int (iI v47))] ⟨rfl, rfl, rfl, rfl, rfl, trivial⟩ ?_
          exact ih q v47 (by omega) (by omega) (by omega) (by omega) (by subst e47; subst h35; first | (have z := cntF_t (p := fun k => pinB g (yAt (g 10 5) (g 12) (g 13) v5 k)) (c := v21) (i := i) (by omega) (show _ = true by rcases h38 with ⟨z, _⟩ | ⟨_, z⟩; (· exact z); (· omega)); rw [h21] at z; omega) | (have z := cntF_f (p := fun k => pinB g (yAt (g 10 5) (g 12) (g 13) v5 k)) (c := v21) (i := i) (by omega) (show _ = false by rcases h38 with ⟨_, z⟩ | ⟨z, _⟩; (· omega); (· exact z)); rw [h21] at z; omega))
        · refine q_iinc C dX4_pinnedOver_44 rfl (by decide) (fun v44 e44 => ?_)
          refine q_iinc C dX4_pinnedOver_47 rfl (by decide) (fun v47 e47 => ?_)
          refine q_goto C 17 dX4_pinnedOver_50 (by decide) ?_
          refine q_loc [(0, .ref (ω.1 10)), (1, .int (iI x)), (2, .int (iI v5)), (3, .int (iI v44)), (4, .int (iI v47))] ⟨rfl, rfl, rfl, rfl, rfl, trivial⟩ ?_
          exact ih v44 v47 (by omega) (by omega) (by omega) (by omega) (by subst e47 e44; subst h35; first | (have z := cntF_t (p := fun k => pinB g (yAt (g 10 5) (g 12) (g 13) v5 k)) (c := v21) (i := i) (by omega) (show _ = true by rcases h38 with ⟨z, _⟩ | ⟨_, z⟩; (· exact z); (· omega)); rw [h21] at z; omega) | (have z := cntF_f (p := fun k => pinB g (yAt (g 10 5) (g 12) (g 13) v5 k)) (c := v21) (i := i) (by omega) (show _ = false by rcases h38 with ⟨_, z⟩ | ⟨z, _⟩; (· omega); (· exact z)); rw [h21] at z; omega))
  refine q_loc [(0, .ref (ω.1 10)), (1, .int (iI x)), (2, .int (iI v5)), (3, .int (iI v7)), (4, .int (iI v15))] ⟨rfl, rfl, rfl, rfl, rfl, trivial⟩ ?_
  exact loop ((yHt (g 10 5) (g 12) v5 + 1 - v15).toNat + 1) v7 v15 (by omega) (by omega) (by subst e5; subst h2; omega) (by omega) (by rw [e7, Int.zero_add])
set_option maxRecDepth 20000 in
theorem KX4_reasonAgainst_10 (g : qHp) (x : Int) (hx : -2147483648 ≤ x ∧ x < 2147483648) (t : Int) (ht : -2147483648 ≤ t ∧ t < 2147483648)  : qC yX4_reasonAgainst (.code yX4_reasonAgainst cX4_reasonAgainst 4 (some .char)) 2 0 (fun ad => [.ref (ad 10), .int (iI x), .int (iI t)]) g (qPi (fun (r : Int) (g' : qHp) => (yWhyR g (g 10 5) (g 11) (g 12) (g 13) (g 14) x t r ∧ (0 ≤ r ∧ r < 128)) ∧ g' = g)) qNo := by
  refine q_meth (by decide +kernel) rfl (fun _ => (Nat.le_of_ble_eq_true rfl)) (fun X ω C => ?_)
  refine q_nm (fun hn => ?_)
  have r10_5 : 0 ≤ g 10 5 ∧ g 10 5 ≤ 4 := hn 10 5
  refine q_loc [(0, .ref (ω.1 10)), (1, .int (iI x)), (2, .int (iI t))] ⟨rfl, rfl, rfl, trivial⟩ ?_
  refine q_aload_n C 0 dX4_reasonAgainst_0 rfl rfl ?_
  refine q_iload_n C 1 dX4_reasonAgainst_1 rfl rfl ?_
  refine q_Vf0 C (KX4_stackWith_10 _ _ (by omega)) mX4_stackWith ml_X4_53 dX4_reasonAgainst_2 (by decide) (by decide) rfl rfl rfl (Nat.le_of_ble_eq_true rfl) rfl (by decide) rfl rfl (fun v2 l2 u2 h2 => ?_)
  refine q_istoreV_n C 3 dX4_reasonAgainst_5 rfl (by decide) (fun v5 e5 => ?_)
  refine q_iload_n C 3 dX4_reasonAgainst_6 rfl rfl ?_
  refine q_iconst C dX4_reasonAgainst_7 ?_
  refine q_icmp_eq C 20 dX4_reasonAgainst_8 (by decide) (by omega) (by omega) (fun c8 => ?_) (fun c8 => ?_)
  · refine q_bipush C dX4_reasonAgainst_20 (by decide +kernel) ?_
    subst e5
    subst h2
    exact q_iretC C dX4_reasonAgainst_22 (by omega) (by decide) ⟨⟨Or.inl ⟨by first | exact Or.inl (by omega) | exact Or.inr (by rw [← h13]; omega), rfl⟩, by omega⟩, rfl⟩
  · refine q_aload_n C 0 dX4_reasonAgainst_11 rfl rfl ?_
    refine q_iload_n C 3 dX4_reasonAgainst_12 rfl rfl ?_
    refine q_Vf0 C (KX4_topOf_10 _ _ (by omega)) mX4_topOf ml_X4_41 dX4_reasonAgainst_13 (by decide) (by decide) rfl rfl rfl (Nat.le_of_ble_eq_true rfl) rfl (by decide) rfl rfl (fun v13 l13 u13 h13 => ?_)
    refine q_iload_n C 1 dX4_reasonAgainst_16 rfl rfl ?_
    refine q_icmp_eq C 23 dX4_reasonAgainst_17 (by decide) (by omega) (by omega) (fun c17 => ?_) (fun c17 => ?_)
    · refine q_aload_n C 0 dX4_reasonAgainst_23 rfl rfl ?_
      refine q_getr C (b := 10) 0 rfl (by decide) rfl in_X4 (by decide) fl_X4_24 rfl dX4_reasonAgainst_24 ?_
      refine q_iload_n C 1 dX4_reasonAgainst_27 rfl rfl ?_
      refine q_Vf0 C (KX0_isPinned _ _ (by omega)) mX0_isPinned ml_X4_63 dX4_reasonAgainst_28 (by decide) (by decide) rfl rfl rfl (Nat.le_of_ble_eq_true rfl) rfl (by decide) rfl rfl (fun v28 l28 u28 h28 => ?_)
      refine q_ifeq C 37 dX4_reasonAgainst_31 (by decide) (by omega) (fun c31 => ?_) (fun c31 => ?_)
      · refine q_iload_n C 3 dX4_reasonAgainst_37 rfl rfl ?_
        refine q_iload_n C 2 dX4_reasonAgainst_38 rfl rfl ?_
        refine q_icmp_ne C 45 dX4_reasonAgainst_39 (by decide) (by omega) (by omega) (fun c39 => ?_) (fun c39 => ?_)
        · refine q_aload_n C 0 dX4_reasonAgainst_45 rfl rfl ?_
          refine q_iload_n C 2 dX4_reasonAgainst_46 rfl rfl ?_
          refine q_Vf0 C (KX4_isFull_10 _ _ (by omega)) mX4_isFull ml_X4_67 dX4_reasonAgainst_47 (by decide) (by decide) rfl rfl rfl (Nat.le_of_ble_eq_true rfl) rfl (by decide) rfl rfl (fun v47 l47 u47 h47 => ?_)
          refine q_ifeq C 56 dX4_reasonAgainst_50 (by decide) (by omega) (fun c50 => ?_) (fun c50 => ?_)
          · refine q_aload_n C 0 dX4_reasonAgainst_56 rfl rfl ?_
            refine q_iload_n C 2 dX4_reasonAgainst_57 rfl rfl ?_
            refine q_aload_n C 0 dX4_reasonAgainst_58 rfl rfl ?_
            refine q_getr C (b := 10) 0 rfl (by decide) rfl in_X4 (by decide) fl_X4_24 rfl dX4_reasonAgainst_59 ?_
            refine q_iload_n C 1 dX4_reasonAgainst_62 rfl rfl ?_
            refine q_Vf0 C (KX0_weightOf _ _ (by omega)) mX0_weightOf ml_X4_45 dX4_reasonAgainst_63 (by decide) (by decide) rfl rfl rfl (Nat.le_of_ble_eq_true rfl) rfl (by decide) rfl rfl (fun v63 l63 u63 h63 => ?_)
            refine q_Vf0 C (KX4_bears_10 _ _ (by omega) _ (by omega)) mX4_bears ml_X4_70 dX4_reasonAgainst_66 (by decide) (by decide) rfl rfl rfl (Nat.le_of_ble_eq_true rfl) rfl (by decide) rfl rfl (fun v66 l66 u66 h66 => ?_)
            refine q_ifeq C 77 dX4_reasonAgainst_69 (by decide) (by omega) (fun c69 => ?_) (fun c69 => ?_)
            · refine q_bipush C dX4_reasonAgainst_77 (by decide +kernel) ?_
              subst e5
              subst h2
              subst h63
              exact q_iretC C dX4_reasonAgainst_79 (by omega) (by decide) ⟨⟨Or.inr ⟨(by omega : ySt _ x ≠ -1), (by rw [← h13]; omega), Or.inr ⟨by rcases h28 with ⟨_, z⟩ | ⟨z, _⟩; (· omega); (· exact z), Or.inr ⟨by omega, Or.inr ⟨by omega, by rcases h66 with ⟨z, z2⟩ | ⟨z, z2⟩; (· first | exact Or.inl ⟨z, rfl⟩ | (exfalso; omega)); (· first | exact Or.inr ⟨z, rfl⟩ | (exfalso; omega))⟩⟩⟩⟩, by omega⟩, rfl⟩
            · refine q_bipush C dX4_reasonAgainst_72 (by decide +kernel) ?_
              refine q_goto C 79 dX4_reasonAgainst_74 (by decide) ?_
              subst e5
              subst h2
              subst h63
              exact q_iretC C dX4_reasonAgainst_79 (by omega) (by decide) ⟨⟨Or.inr ⟨(by omega : ySt _ x ≠ -1), (by rw [← h13]; omega), Or.inr ⟨by rcases h28 with ⟨_, z⟩ | ⟨z, _⟩; (· omega); (· exact z), Or.inr ⟨by omega, Or.inr ⟨by omega, by rcases h66 with ⟨z, z2⟩ | ⟨z, z2⟩; (· first | exact Or.inl ⟨z, rfl⟩ | (exfalso; omega)); (· first | exact Or.inr ⟨z, rfl⟩ | (exfalso; omega))⟩⟩⟩⟩, by omega⟩, rfl⟩
          · refine q_bipush C dX4_reasonAgainst_53 (by decide +kernel) ?_
            subst e5
            subst h2
            exact q_iretC C dX4_reasonAgainst_55 (by omega) (by decide) ⟨⟨Or.inr ⟨(by omega : ySt _ x ≠ -1), (by rw [← h13]; omega), Or.inr ⟨by rcases h28 with ⟨_, z⟩ | ⟨z, _⟩; (· omega); (· exact z), Or.inr ⟨by omega, Or.inl ⟨by omega, rfl⟩⟩⟩⟩, by omega⟩, rfl⟩
        · refine q_bipush C dX4_reasonAgainst_42 (by decide +kernel) ?_
          subst e5
          subst h2
          exact q_iretC C dX4_reasonAgainst_44 (by omega) (by decide) ⟨⟨Or.inr ⟨(by omega : ySt _ x ≠ -1), (by rw [← h13]; omega), Or.inr ⟨by rcases h28 with ⟨_, z⟩ | ⟨z, _⟩; (· omega); (· exact z), Or.inl ⟨by omega, rfl⟩⟩⟩, by omega⟩, rfl⟩
      · refine q_bipush C dX4_reasonAgainst_34 (by decide +kernel) ?_
        subst e5
        subst h2
        exact q_iretC C dX4_reasonAgainst_36 (by omega) (by decide) ⟨⟨Or.inr ⟨(by omega : ySt _ x ≠ -1), (by rw [← h13]; omega), Or.inl ⟨by rcases h28 with ⟨z, _⟩ | ⟨_, z⟩; (· exact z); (· omega), rfl⟩⟩, by omega⟩, rfl⟩
    · refine q_bipush C dX4_reasonAgainst_20 (by decide +kernel) ?_
      subst e5
      subst h2
      exact q_iretC C dX4_reasonAgainst_22 (by omega) (by decide) ⟨⟨Or.inl ⟨by first | exact Or.inl (by omega) | exact Or.inr (by rw [← h13]; omega), rfl⟩, by omega⟩, rfl⟩
set_option maxRecDepth 20000 in
theorem KX4_put_10 (g : qHp) (x : Int) (hx : -2147483648 ≤ x ∧ x < 2147483648) (s : Int) (hs : -2147483648 ≤ s ∧ s < 2147483648) (hx2 : 0 ≤ x ∧ x ≤ 19) (hs2 : 0 ≤ s ∧ s < (g 10 5) ∧ (g 12) s < (g 11) s) : qC yX4_put (.code yX4_put cX4_put 3 none) 1 0 (fun ad => [.ref (ad 10), .int (iI x), .int (iI s)]) g (qPv (fun g' : qHp => g' = (qUp (qUp (qUp (qUp g 13 (s * 4 + (g 12) s) x) 12 s ((g 12) s + 1)) 14 x s) 10 6 (w32 (g 10 6 + 1))))) qNo := by
  refine q_meth (by decide +kernel) rfl (fun _ => (Nat.le_of_ble_eq_true rfl)) (fun X ω C => ?_)
  refine q_nm (fun hn => ?_)
  have r10_5 : 0 ≤ g 10 5 ∧ g 10 5 ≤ 4 := hn 10 5
  have hr4 : 0 ≤ (g 12) s ∧ (g 11) s ≤ 4 := ⟨(hn 12 s).1, (hn 11 s).2⟩
  refine q_loc [(0, .ref (ω.1 10)), (1, .int (iI x)), (2, .int (iI s))] ⟨rfl, rfl, rfl, trivial⟩ ?_
  refine q_iload_n C 1 dX4_put_0 rfl rfl ?_
  refine q_iflt C 18 dX4_put_1 (by decide) (by omega) (fun c1 => ?_) (fun c1 => ?_)
  · exfalso; omega
  · refine q_iload_n C 1 dX4_put_4 rfl rfl ?_
    refine q_bipush C dX4_put_5 (by decide +kernel) ?_
    refine q_icmp_ge C 18 dX4_put_7 (by decide) (by omega) (by omega) (fun c7 => ?_) (fun c7 => ?_)
    · exfalso; omega
    · refine q_aload_n C 0 dX4_put_10 rfl rfl ?_
      refine q_iload_n C 2 dX4_put_11 rfl rfl ?_
      refine q_Vf0 C (KX4_isFull_10 _ _ (by omega)) mX4_isFull ml_X4_67 dX4_put_12 (by decide) (by decide) rfl rfl rfl (Nat.le_of_ble_eq_true rfl) rfl (by decide) rfl rfl (fun v12 l12 u12 h12 => ?_)
      refine q_ifeq C 19 dX4_put_15 (by decide) (by omega) (fun c15 => ?_) (fun c15 => ?_)
      · refine q_aload_n C 0 dX4_put_19 rfl rfl ?_
        refine q_getr C (b := 10) 3 rfl (by decide) rfl in_X4 (by decide) fl_X4_18 rfl dX4_put_20 ?_
        refine q_iload_n C 2 dX4_put_23 rfl rfl ?_
        refine q_iconst C dX4_put_24 ?_
        refine q_imul C dX4_put_25 ?_
        refine q_aload_n C 0 dX4_put_26 rfl rfl ?_
        refine q_getr C (b := 10) 2 rfl (by decide) rfl in_X4 (by decide) fl_X4_15 rfl dX4_put_27 ?_
        refine q_iload_n C 2 dX4_put_30 rfl rfl ?_
        refine q_iald C (b := 12) (n := 4) 0 4 rfl (by decide) (by decide) (by omega) (fun _ => rfl) dX4_put_31 (fun v31 e31 l31 u31 => ?_)
        refine q_iadd C dX4_put_32 ?_
        refine q_iload_n C 1 dX4_put_33 rfl rfl ?_
        refine q_iast C (b := 13) (n := 16) rfl (by decide) (by decide) (by omega)  (show 0 ≤ _ ∧ _ ≤ 19 from (by omega)) dX4_put_34 ?_
        refine q_aload_n C 0 dX4_put_35 rfl rfl ?_
        refine q_getr C (b := 10) 2 rfl (by decide) rfl in_X4 (by decide) fl_X4_15 rfl dX4_put_36 ?_
        refine q_iload_n C 2 dX4_put_39 rfl rfl ?_
        refine q_dup2 C dX4_put_40 rfl rfl ?_
        refine q_iald C (b := 12) (n := 4) 0 4 rfl (by decide) (by decide) (by omega) (fun _ => rfl) dX4_put_41 (fun v41 e41 l41 u41 => ?_)
        refine q_iconst C dX4_put_42 ?_
        refine q_iadd C dX4_put_43 ?_
        refine q_iast C (b := 12) (n := 4) rfl (by decide) (by decide) (by omega)  (show 0 ≤ _ ∧ _ ≤ 4 from (by have q41 : v41 = g 12 s := by {rw [e41, qUp_k (by decide)]}; omega)) dX4_put_44 ?_
        refine q_aload_n C 0 dX4_put_45 rfl rfl ?_
        refine q_getr C (b := 10) 4 rfl (by decide) rfl in_X4 (by decide) fl_X4_21 rfl dX4_put_46 ?_
        refine q_iload_n C 1 dX4_put_49 rfl rfl ?_
        refine q_iload_n C 2 dX4_put_50 rfl rfl ?_
        refine q_iast C (b := 14) (n := 20) rfl (by decide) (by decide) (by omega)  (show (-1) ≤ _ ∧ _ ≤ 3 from (by omega)) dX4_put_51 ?_
        refine q_aload_n C 0 dX4_put_52 rfl rfl ?_
        refine q_dup C dX4_put_53 rfl ?_
        refine q_geti C (b := 10) 6 6 (-2147483648) 2147483647 rfl (by decide) rfl in_X4 (by decide) fl_X4_38 rfl rfl rfl dX4_put_54 (fun v54 e54 l54 u54 => ?_)
        refine q_iconst C dX4_put_57 ?_
        refine q_iadd C dX4_put_58 ?_
        have q41 : v41 = g 12 s := by rw [e41, qUp_k (by decide)]
        have q54 : v54 = g 10 6 := by rw [e54, qUp_k (by decide), qUp_k (by decide), qUp_k (by decide)]
        refine q_puti C (b := 10) 6 6 (-2147483648) 2147483647 (w32 _) rfl (by decide) rfl in_X4 tyX4_ok nmX4 (by decide) fl_X4_38 rfl (by decide +kernel) rfl rfl rfl (w32_iI _) (by have := w32_rng (v54 + 1); omega) dX4_put_59 ?_
        exact q_retV C dX4_put_62 (by decide) (by rw [e31, q41, q54])
      · exfalso; omega
set_option maxRecDepth 20000 in
theorem KX4_take_10 (g : qHp) (s : Int) (hs : -2147483648 ≤ s ∧ s < 2147483648) (hs2 : 0 ≤ s ∧ s < (g 10 5) ∧ (g 12) s ≠ 0) : qC yX4_take (.code yX4_take cX4_take 3 none) 1 0 (fun ad => [.ref (ad 10), .int (iI s)]) g (qPv (fun g' : qHp => g' = (qUp (qUp (qUp g 12 s ((g 12) s - 1)) 14 ((g 13) (s * 4 + (g 12) s - 1)) (-1)) 10 6 (w32 (g 10 6 - 1))))) qNo := by
  refine q_meth (by decide +kernel) rfl (fun _ => (Nat.le_of_ble_eq_true rfl)) (fun X ω C => ?_)
  refine q_nm (fun hn => ?_)
  have r10_5 : 0 ≤ g 10 5 ∧ g 10 5 ≤ 4 := hn 10 5
  have hr4 : 0 ≤ (g 12) s ∧ (g 12) s ≤ 4 := ⟨(hn 12 s).1, (hn 12 s).2⟩
  have hr5 : 0 ≤ (g 13) (s * 4 + (g 12) s - 1) ∧ (g 13) (s * 4 + (g 12) s - 1) ≤ 19 := ⟨(hn 13 _).1, (hn 13 _).2⟩
  have ht5 : yTop (g 10 5) (g 12) (g 13) s = (g 13) (s * 4 + (g 12) s - 1) := by unfold yTop; rw [if_pos (by omega)]
  refine q_loc [(0, .ref (ω.1 10)), (1, .int (iI s))] ⟨rfl, rfl, trivial⟩ ?_
  refine q_aload_n C 0 dX4_take_0 rfl rfl ?_
  refine q_iload_n C 1 dX4_take_1 rfl rfl ?_
  refine q_Vf0 C (KX4_topOf_10 _ _ (by omega)) mX4_topOf ml_X4_41 dX4_take_2 (by decide) (by decide) rfl rfl rfl (Nat.le_of_ble_eq_true rfl) rfl (by decide) rfl rfl (fun v2 l2 u2 h2 => ?_)
  refine q_istoreV_n C 2 dX4_take_5 rfl (by decide) (fun v5 e5 => ?_)
  refine q_iload_n C 2 dX4_take_6 rfl rfl ?_
  refine q_iconst C dX4_take_7 ?_
  refine q_icmp_ne C 12 dX4_take_8 (by decide) (by omega) (by omega) (fun c8 => ?_) (fun c8 => ?_)
  · refine q_aload_n C 0 dX4_take_12 rfl rfl ?_
    refine q_getr C (b := 10) 2 rfl (by decide) rfl in_X4 (by decide) fl_X4_15 rfl dX4_take_13 ?_
    refine q_iload_n C 1 dX4_take_16 rfl rfl ?_
    refine q_dup2 C dX4_take_17 rfl rfl ?_
    refine q_iald C (b := 12) (n := 4) 0 4 rfl (by decide) (by decide) (by omega) (fun _ => rfl) dX4_take_18 (fun v18 e18 l18 u18 => ?_)
    refine q_iconst C dX4_take_19 ?_
    refine q_isub C dX4_take_20 ?_
    refine q_iast C (b := 12) (n := 4) rfl (by decide) (by decide) (by omega)  (show 0 ≤ _ ∧ _ ≤ 4 from (by omega)) dX4_take_21 ?_
    refine q_aload_n C 0 dX4_take_22 rfl rfl ?_
    refine q_getr C (b := 10) 4 rfl (by decide) rfl in_X4 (by decide) fl_X4_21 rfl dX4_take_23 ?_
    refine q_iload_n C 2 dX4_take_26 rfl rfl ?_
    refine q_iconst C dX4_take_27 ?_
    refine q_iast C (b := 14) (n := 20) rfl (by decide) (by decide) (by omega)  (show (-1) ≤ _ ∧ _ ≤ 3 from (by omega)) dX4_take_28 ?_
    refine q_aload_n C 0 dX4_take_29 rfl rfl ?_
    refine q_dup C dX4_take_30 rfl ?_
    refine q_geti C (b := 10) 6 6 (-2147483648) 2147483647 rfl (by decide) rfl in_X4 (by decide) fl_X4_38 rfl rfl rfl dX4_take_31 (fun v31 e31 l31 u31 => ?_)
    refine q_iconst C dX4_take_34 ?_
    refine q_isub C dX4_take_35 ?_
    have q31 : v31 = g 10 6 := by rw [e31, qUp_k (by decide), qUp_k (by decide)]
    refine q_puti C (b := 10) 6 6 (-2147483648) 2147483647 (w32 _) rfl (by decide) rfl in_X4 tyX4_ok nmX4 (by decide) fl_X4_38 rfl (by decide +kernel) rfl rfl rfl (w32_iI _) (by have := w32_rng (v31 - 1); omega) dX4_take_36 ?_
    subst e18
    subst e5
    subst h2
    exact q_retV C dX4_take_39 (by decide) (by rw [q31, ht5])
  · exfalso; omega
set_option maxRecDepth 20000 in
theorem KX4_shift_10 (g : qHp) (f : Int) (hf : -2147483648 ≤ f ∧ f < 2147483648) (t : Int) (ht : -2147483648 ≤ t ∧ t < 2147483648) (hs2 : 0 ≤ f ∧ f < (g 10 5) ∧ (g 12) f ≠ 0 ∧ f ≠ t) (ht2 : 0 ≤ t ∧ t < (g 10 5) ∧ (g 12) t < (g 11) t) : qC yX4_shift (.code yX4_shift cX4_shift 4 none) 2 0 (fun ad => [.ref (ad 10), .int (iI f), .int (iI t)]) g (qPv (fun g' : qHp => g' = (qUp (qUp (qUp (qUp (qUp (qUp (qUp g 12 f ((g 12) f - 1)) 14 ((g 13) (f * 4 + (g 12) f - 1)) (-1)) 10 6 (w32 (g 10 6 - 1))) 13 (t * 4 + (g 12) t) ((g 13) (f * 4 + (g 12) f - 1))) 12 t ((g 12) t + 1)) 14 ((g 13) (f * 4 + (g 12) f - 1)) t) 10 6 (w32 (w32 (g 10 6 - 1) + 1))))) qNo := by
  refine q_meth (by decide +kernel) rfl (fun _ => (Nat.le_of_ble_eq_true rfl)) (fun X ω C => ?_)
  refine q_nm (fun hn => ?_)
  have r10_5 : 0 ≤ g 10 5 ∧ g 10 5 ≤ 4 := hn 10 5
  have hr5 : 0 ≤ (g 13) (f * 4 + (g 12) f - 1) ∧ (g 13) (f * 4 + (g 12) f - 1) ≤ 19 := ⟨(hn 13 _).1, (hn 13 _).2⟩
  have ht5 : yTop (g 10 5) (g 12) (g 13) f = (g 13) (f * 4 + (g 12) f - 1) := by unfold yTop; rw [if_pos (by omega)]
  refine q_loc [(0, .ref (ω.1 10)), (1, .int (iI f)), (2, .int (iI t))] ⟨rfl, rfl, rfl, trivial⟩ ?_
  refine q_aload_n C 0 dX4_shift_0 rfl rfl ?_
  refine q_iload_n C 1 dX4_shift_1 rfl rfl ?_
  refine q_Vf0 C (KX4_topOf_10 _ _ (by omega)) mX4_topOf ml_X4_41 dX4_shift_2 (by decide) (by decide) rfl rfl rfl (Nat.le_of_ble_eq_true rfl) rfl (by decide) rfl rfl (fun v2 l2 u2 h2 => ?_)
  refine q_istoreV_n C 3 dX4_shift_5 rfl (by decide) (fun v5 e5 => ?_)
  refine q_iload_n C 3 dX4_shift_6 rfl rfl ?_
  refine q_iconst C dX4_shift_7 ?_
  refine q_icmp_eq C 24 dX4_shift_8 (by decide) (by omega) (by omega) (fun c8 => ?_) (fun c8 => ?_)
  · exfalso; omega
  · refine q_iload_n C 1 dX4_shift_11 rfl rfl ?_
    refine q_iload_n C 2 dX4_shift_12 rfl rfl ?_
    refine q_icmp_eq C 24 dX4_shift_13 (by decide) (by omega) (by omega) (fun c13 => ?_) (fun c13 => ?_)
    · exfalso; omega
    · refine q_aload_n C 0 dX4_shift_16 rfl rfl ?_
      refine q_iload_n C 2 dX4_shift_17 rfl rfl ?_
      refine q_Vf0 C (KX4_isFull_10 _ _ (by omega)) mX4_isFull ml_X4_67 dX4_shift_18 (by decide) (by decide) rfl rfl rfl (Nat.le_of_ble_eq_true rfl) rfl (by decide) rfl rfl (fun v18 l18 u18 h18 => ?_)
      refine q_ifeq C 25 dX4_shift_21 (by decide) (by omega) (fun c21 => ?_) (fun c21 => ?_)
      · refine q_aload_n C 0 dX4_shift_25 rfl rfl ?_
        refine q_iload_n C 1 dX4_shift_26 rfl rfl ?_
        refine q_Vv0 C (KX4_take_10 _ _ (by omega) (by omega)) mX4_take ml_X4_74 dX4_shift_27 (by decide) (by decide) rfl rfl rfl (Nat.le_of_ble_eq_true rfl) rfl (by decide) rfl rfl ?_
        refine q_aload_n C 0 dX4_shift_30 rfl rfl ?_
        refine q_iload_n C 3 dX4_shift_31 rfl rfl ?_
        refine q_iload_n C 2 dX4_shift_32 rfl rfl ?_
        have g5 : (qUp (qUp (qUp g 12 f ((g 12) f - 1)) 14 ((g 13) (f * 4 + (g 12) f - 1)) (-1)) 10 6 (w32 (g 10 6 - 1))) 10 5 = (g 10 5) := by rw [qUp_j (by decide), qUp_k (by decide), qUp_k (by decide)]
        have g6 : (qUp (qUp (qUp g 12 f ((g 12) f - 1)) 14 ((g 13) (f * 4 + (g 12) f - 1)) (-1)) 10 6 (w32 (g 10 6 - 1))) 11 t = (g 11) t := by rw [qUp_k (by decide), qUp_k (by decide), qUp_k (by decide)]
        have g7 : (qUp (qUp (qUp g 12 f ((g 12) f - 1)) 14 ((g 13) (f * 4 + (g 12) f - 1)) (-1)) 10 6 (w32 (g 10 6 - 1))) 12 t = (g 12) t := by rw [qUp_k (by decide), qUp_k (by decide), qUp_j (by omega)]
        have g8 : (qUp (qUp (qUp g 12 f ((g 12) f - 1)) 14 ((g 13) (f * 4 + (g 12) f - 1)) (-1)) 10 6 (w32 (g 10 6 - 1))) 10 6 = w32 (g 10 6 - 1) := by rw [qUp_s]
        refine q_Vv0 C (KX4_put_10 _ _ (by omega) _ (by omega) (by omega) (by rw [g5, g7, g6]; omega)) mX4_put ml_X4_78 dX4_shift_33 (by decide) (by decide) rfl rfl rfl (Nat.le_of_ble_eq_true rfl) rfl (by decide) rfl rfl ?_
        subst e5
        subst h2
        exact q_retV C dX4_shift_36 (by decide) (by rw [g7, g8, ht5])
      · exfalso; omega
set_option maxRecDepth 20000 in
theorem KX4_copyFrom (g : qHp)  : qC yX4_copyFrom (.code yX4_copyFrom cX4_copyFrom 2 none) 1 0 (fun ad => [.ref (ad 10), .ref (ad 5)]) g (qPv (fun g' : qHp => g' = (qUp (qUp (qCp (qCp (qCp (qCp g 6 11 4) 7 12 4) 8 13 16) 9 14 20) 10 5 (g 5 5)) 10 6 (g 5 6)))) qNo := by
  refine q_meth (by decide +kernel) rfl (fun _ => (Nat.le_of_ble_eq_true rfl)) (fun X ω C => ?_)
  refine q_loc [(0, .ref (ω.1 10)), (1, .ref (ω.1 5))] ⟨rfl, rfl, trivial⟩ ?_
  refine q_aload_n C 1 dX4_copyFrom_0 rfl rfl ?_
  refine q_getr C (b := 5) 1 rfl (by decide) rfl in_X4 (by decide) fl_X4_9 rfl dX4_copyFrom_1 ?_
  refine q_iconst C dX4_copyFrom_4 ?_
  refine q_aload_n C 0 dX4_copyFrom_5 rfl rfl ?_
  refine q_getr C (b := 10) 1 rfl (by decide) rfl in_X4 (by decide) fl_X4_9 rfl dX4_copyFrom_6 ?_
  refine q_iconst C dX4_copyFrom_9 ?_
  refine q_iconst C dX4_copyFrom_10 ?_
  refine q_copyi C (a := 6) (b := 11) (na := 4) rfl rfl (by decide) (by decide) (by decide) (by omega) (by decide) (fun _ => rfl) ml_ac w_acn w_acs w_aci (by decide) (Nat.le_of_ble_eq_true rfl) (by decide +kernel) dX4_copyFrom_11 ?_
  refine q_aload_n C 1 dX4_copyFrom_14 rfl rfl ?_
  refine q_getr C (b := 5) 2 rfl (by decide) rfl in_X4 (by decide) fl_X4_15 rfl dX4_copyFrom_15 ?_
  refine q_iconst C dX4_copyFrom_18 ?_
  refine q_aload_n C 0 dX4_copyFrom_19 rfl rfl ?_
  refine q_getr C (b := 10) 2 rfl (by decide) rfl in_X4 (by decide) fl_X4_15 rfl dX4_copyFrom_20 ?_
  refine q_iconst C dX4_copyFrom_23 ?_
  refine q_iconst C dX4_copyFrom_24 ?_
  refine q_copyi C (a := 7) (b := 12) (na := 4) rfl rfl (by decide) (by decide) (by decide) (by omega) (by decide) (fun _ => rfl) ml_ac w_acn w_acs w_aci (by decide) (Nat.le_of_ble_eq_true rfl) (by decide +kernel) dX4_copyFrom_25 ?_
  refine q_aload_n C 1 dX4_copyFrom_28 rfl rfl ?_
  refine q_getr C (b := 5) 3 rfl (by decide) rfl in_X4 (by decide) fl_X4_18 rfl dX4_copyFrom_29 ?_
  refine q_iconst C dX4_copyFrom_32 ?_
  refine q_aload_n C 0 dX4_copyFrom_33 rfl rfl ?_
  refine q_getr C (b := 10) 3 rfl (by decide) rfl in_X4 (by decide) fl_X4_18 rfl dX4_copyFrom_34 ?_
  refine q_iconst C dX4_copyFrom_37 ?_
  refine q_bipush C dX4_copyFrom_38 (by decide +kernel) ?_
  refine q_copyi C (a := 8) (b := 13) (na := 16) rfl rfl (by decide) (by decide) (by decide) (by omega) (by decide) (fun _ => rfl) ml_ac w_acn w_acs w_aci (by decide) (Nat.le_of_ble_eq_true rfl) (by decide +kernel) dX4_copyFrom_40 ?_
  refine q_aload_n C 1 dX4_copyFrom_43 rfl rfl ?_
  refine q_getr C (b := 5) 4 rfl (by decide) rfl in_X4 (by decide) fl_X4_21 rfl dX4_copyFrom_44 ?_
  refine q_iconst C dX4_copyFrom_47 ?_
  refine q_aload_n C 0 dX4_copyFrom_48 rfl rfl ?_
  refine q_getr C (b := 10) 4 rfl (by decide) rfl in_X4 (by decide) fl_X4_21 rfl dX4_copyFrom_49 ?_
  refine q_iconst C dX4_copyFrom_52 ?_
  refine q_bipush C dX4_copyFrom_53 (by decide +kernel) ?_
  refine q_copyi C (a := 9) (b := 14) (na := 20) rfl rfl (by decide) (by decide) (by decide) (by omega) (by decide) (fun _ => rfl) ml_ac w_acn w_acs w_aci (by decide) (Nat.le_of_ble_eq_true rfl) (by decide +kernel) dX4_copyFrom_55 ?_
  refine q_aload_n C 0 dX4_copyFrom_58 rfl rfl ?_
  refine q_aload_n C 1 dX4_copyFrom_59 rfl rfl ?_
  refine q_geti C (b := 5) 5 5 0 4 rfl (by decide) rfl in_X4 (by decide) fl_X4_34 rfl rfl rfl dX4_copyFrom_60 (fun v60 e60 l60 u60 => ?_)
  refine q_puti C (b := 10) 5 5 0 4 _ rfl (by decide) rfl in_X4 tyX4_ok nmX4 (by decide) fl_X4_34 rfl (by decide +kernel) rfl rfl rfl rfl (by omega) dX4_copyFrom_63 ?_
  refine q_aload_n C 0 dX4_copyFrom_66 rfl rfl ?_
  refine q_aload_n C 1 dX4_copyFrom_67 rfl rfl ?_
  refine q_geti C (b := 5) 6 6 (-2147483648) 2147483647 rfl (by decide) rfl in_X4 (by decide) fl_X4_38 rfl rfl rfl dX4_copyFrom_68 (fun v68 e68 l68 u68 => ?_)
  refine q_puti C (b := 10) 6 6 (-2147483648) 2147483647 _ rfl (by decide) rfl in_X4 tyX4_ok nmX4 (by decide) fl_X4_38 rfl (by decide +kernel) rfl rfl rfl rfl (by omega) dX4_copyFrom_71 ?_
  have q60 : v60 = g 5 5 := by rw [e60, qCp_row (by decide), qCp_row (by decide), qCp_row (by decide), qCp_row (by decide)]
  have q68 : v68 = g 5 6 := by rw [e68, qUp_k (by decide), qCp_row (by decide), qCp_row (by decide), qCp_row (by decide), qCp_row (by decide)]
  exact q_retV C dX4_copyFrom_74 (by decide) (by rw [q60, q68])
