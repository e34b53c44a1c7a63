/-! the reference: what can be moved in a yard -/
theorem stM_ix {g : qHp} {y s b k : Int} (hs : 0 ≤ s ∧ s < 4) (hd : (stM g y s).Nodup) (h0 : 0 ≤ k) (h1 : k < hM g y s) (e : g 30 (16 * y + 4 * s + k) = b) : k = hM g y s - 1 - (ixO b (stM g y s) : Nat) := by
  have hd2 : (stOf (hM g y) (pM g y) s).Nodup := hd
  show k = hM g y s - 1 - (ixO b (stOf (hM g y) (pM g y) s) : Nat)
  rw [stOf_in hs] at hd2 ⊢
  have q := tlS_ix (p := pM g y) (s := s) (x := b) (k := k) hd2 h0 (by omega) (by show g 30 (16 * y + (s * 4 + k)) = b; rw [← e]; congr 1; omega)
  omega
theorem stM_hd {g : qHp} {y s : Int} (hs : 0 ≤ s ∧ s < 4) (h0 : 0 < hM g y s) : (stM g y s).head? = some (g 30 (16 * y + 4 * s + hM g y s - 1)) := by
  show (stOf (hM g y) (pM g y) s).head? = _
  rw [stOf_hd hs h0]
  show some (g 30 (16 * y + (s * 4 + hM g y s - 1))) = _
  congr 2
  omega
theorem stM_nil {g : qHp} {y s : Int} (h0 : hM g y s = 0) : stM g y s = [] := stOf_nil h0
set_option maxRecDepth 20000 in
theorem KX6_levelOf (g : qHp) (y : Int) (hy : -2147483648 ≤ y ∧ y < 2147483648) (b : Int) (hb : -2147483648 ≤ b ∧ b < 2147483648) (hy2 : 0 ≤ y ∧ y < 6) (so : Int → Int) (o : yOK (g 23 2) (g 24) (hM g y) (pM g y) so) (hin : inS (stM g y) b) : qC yX6_levelOf (.code yX6_levelOf cX6_levelOf 5 (some .int)) 1 0 (fun ad => [.ref (ad 23), .int (iI y), .int (iI b)]) g (qPi (fun (r : Int) (g' : qHp) => (r = hM g y (soS (stM g y) b) - 1 - (ixO b (stM g y (soS (stM g y) b)) : Nat) ∧ 0 ≤ r ∧ r ≤ 3) ∧ g' = g)) qNo := by
  refine q_meth (by decide +kernel) rfl (fun _ => (Nat.le_of_ble_eq_true rfl)) (fun X ω C => ?_)
  refine q_nm (fun hn => ?_)
  have r23_2 : 0 ≤ g 23 2 ∧ g 23 2 ≤ 4 := hn 23 2
  obtain ⟨s0, hs0⟩ := hin
  have hs0c := o.2.2.2.2.1.2.2.2.2 s0 b hs0
  have hc4 := o.1
  have es : soS (stM g y) b = s0 := soS_hit (by omega) hs0 (fun u a c hu => by have := o.2.2.2.2.1.2.1 u s0 b hu hs0; omega)
  have hr29 : ∀ j, 0 ≤ g 29 j ∧ g 29 j ≤ 4 := fun j => hn 29 j
  have hr30 : ∀ j, 0 ≤ g 30 j ∧ g 30 j ≤ 19 := fun j => hn 30 j
  obtain ⟨K, K1, K2, K3⟩ := (stM_mem (by omega) (hr29 _).1).mp hs0
  have K2 : K < g 29 (4 * y + s0) := K2
  have h29 := hr29 (4 * y + s0)
  refine q_loc [(0, .ref (ω.1 23)), (1, .int (iI y)), (2, .int (iI b))] ⟨rfl, rfl, rfl, trivial⟩ ?_
  refine q_aload_n C 0 dX6_levelOf_0 rfl rfl ?_
  refine q_iload_n C 1 dX6_levelOf_1 rfl rfl ?_
  refine q_iload_n C 2 dX6_levelOf_2 rfl rfl ?_
  refine q_Vf0 C (KX6_placeOf _ _ (by omega) _ (by omega) hy2 o.2.2.1) mX6_placeOf ml_X6_62 dX6_levelOf_3 (by decide) (by decide) rfl rfl rfl (Nat.le_of_ble_eq_true rfl) rfl (by decide) rfl rfl (fun v3 l3 u3 h3 => ?_)
  refine q_istoreV_n C 3 dX6_levelOf_6 rfl (by decide) (fun v6 e6 => ?_)
  refine q_iconst C dX6_levelOf_7 ?_
  refine q_istoreV C dX6_levelOf_8 (by decide) (fun v8 e8 => ?_)
  have q6 : v6 = s0 := by rw [e6, h3, es]
  subst q6
  have loop : ∀ (n : Nat) (k : Int), ((K - k) < (n : Int)) → (0 ≤ k ∧ k ≤ K) → qT X ω 5 0 (qEnd X ω (qPi (fun (r : Int) (g' : qHp) => (r = hM g y (soS (stM g y) b) - 1 - (ixO b (stM g y (soS (stM g y) b)) : Nat) ∧ 0 ≤ r ∧ r ≤ 3) ∧ g' = g)) qNo 0) g 10 [(0, .ref (ω.1 23)), (1, .int (iI y)), (2, .int (iI b)), (3, .int (iI v6)), (4, .int (iI k))] [] := by
    intro n
    induction n with
    | zero => intro k hm hk; exfalso; omega
    | succ n ih =>
      intro k hm hk
      refine q_aload_n C 0 dX6_levelOf_10 rfl rfl ?_
      refine q_getr C (b := 23) 10 rfl (by decide) rfl in_X6 (by decide) fl_X6_30 rfl dX6_levelOf_11 ?_
      refine q_bipush C dX6_levelOf_14 (by decide +kernel) ?_
      refine q_iload_n C 1 dX6_levelOf_16 rfl rfl ?_
      refine q_imul C dX6_levelOf_17 ?_
      refine q_iconst C dX6_levelOf_18 ?_
      refine q_iload_n C 3 dX6_levelOf_19 rfl rfl ?_
      refine q_imul C dX6_levelOf_20 ?_
      refine q_iadd C dX6_levelOf_21 ?_
      refine q_iload C dX6_levelOf_22 rfl ?_
      refine q_iadd C dX6_levelOf_24 ?_
      refine q_iald C (b := 30) (n := 96) 0 19 rfl (by decide) (by decide) (by omega) (fun _ => rfl) dX6_levelOf_25 (fun v25 e25 l25 u25 => ?_)
      refine q_iload_n C 2 dX6_levelOf_26 rfl rfl ?_
      refine q_icmp_eq C 36 dX6_levelOf_27 (by decide) (by omega) (by omega) (fun c27 => ?_) (fun c27 => ?_)
      · refine q_iload C dX6_levelOf_36 rfl ?_
        exact q_iretI C dX6_levelOf_38 (by omega) (by decide) ⟨⟨by rw [es]; exact stM_ix (by omega) (o.2.2.2.2.1.1 _) hk.1 (by show k < g 29 (4 * y + v6); omega) (by omega), by omega, by omega⟩, rfl⟩
      · refine q_iinc C dX6_levelOf_30 rfl (by decide) (fun v30 e30 => ?_)
        refine q_goto C 10 dX6_levelOf_33 (by decide) ?_
        refine q_loc [(0, .ref (ω.1 23)), (1, .int (iI y)), (2, .int (iI b)), (3, .int (iI v6)), (4, .int (iI v30))] ⟨rfl, rfl, rfl, rfl, rfl, trivial⟩ ?_
        exact ih v30 (by omega) (by have q : k ≠ K := fun q => by {subst q; omega}; omega)
  refine q_loc [(0, .ref (ω.1 23)), (1, .int (iI y)), (2, .int (iI b)), (3, .int (iI v6)), (4, .int (iI v8))] ⟨rfl, rfl, rfl, rfl, rfl, trivial⟩ ?_
  exact loop ((K - v8).toNat + 1) v8 (by omega) (by omega)
set_option maxRecDepth 20000 in
theorem KX6_topOf (g : qHp) (y : Int) (hy : -2147483648 ≤ y ∧ y < 2147483648) (s : Int) (hs : -2147483648 ≤ s ∧ s < 2147483648) (hy2 : 0 ≤ y ∧ y < 6) (hs2 : 0 ≤ s ∧ s < 4) : qC yX6_topOf (.code yX6_topOf cX6_topOf 4 (some .int)) 0 0 (fun ad => [.ref (ad 23), .int (iI y), .int (iI s)]) g (qPi (fun (r : Int) (g' : qHp) => (((stM g y s).head? = none ∧ r = -1) ∨ ((stM g y s).head? = some r ∧ 0 ≤ r ∧ r < 20)) ∧ g' = g)) qNo := by
  refine q_meth (by decide +kernel) rfl (fun _ => (Nat.le_of_ble_eq_true rfl)) (fun X ω C => ?_)
  refine q_nm (fun hn => ?_)
  have h29 : 0 ≤ g 29 (4 * y + s) ∧ g 29 (4 * y + s) ≤ 4 := hn 29 _
  refine q_loc [(0, .ref (ω.1 23)), (1, .int (iI y)), (2, .int (iI s))] ⟨rfl, rfl, rfl, trivial⟩ ?_
  refine q_aload_n C 0 dX6_topOf_0 rfl rfl ?_
  refine q_getr C (b := 23) 9 rfl (by decide) rfl in_X6 (by decide) fl_X6_27 rfl dX6_topOf_1 ?_
  refine q_iconst C dX6_topOf_4 ?_
  refine q_iload_n C 1 dX6_topOf_5 rfl rfl ?_
  refine q_imul C dX6_topOf_6 ?_
  refine q_iload_n C 2 dX6_topOf_7 rfl rfl ?_
  refine q_iadd C dX6_topOf_8 ?_
  refine q_iald C (b := 29) (n := 24) 0 4 rfl (by decide) (by decide) (by omega) (fun _ => rfl) dX6_topOf_9 (fun v9 e9 l9 u9 => ?_)
  refine q_istoreV_n C 3 dX6_topOf_10 rfl (by decide) (fun v10 e10 => ?_)
  refine q_iload_n C 3 dX6_topOf_11 rfl rfl ?_
  refine q_ifne C 19 dX6_topOf_12 (by decide) (by omega) (fun c12 => ?_) (fun c12 => ?_)
  · refine q_aload_n C 0 dX6_topOf_19 rfl rfl ?_
    refine q_getr C (b := 23) 10 rfl (by decide) rfl in_X6 (by decide) fl_X6_30 rfl dX6_topOf_20 ?_
    refine q_bipush C dX6_topOf_23 (by decide +kernel) ?_
    refine q_iload_n C 1 dX6_topOf_25 rfl rfl ?_
    refine q_imul C dX6_topOf_26 ?_
    refine q_iconst C dX6_topOf_27 ?_
    refine q_iload_n C 2 dX6_topOf_28 rfl rfl ?_
    refine q_imul C dX6_topOf_29 ?_
    refine q_iadd C dX6_topOf_30 ?_
    refine q_iload_n C 3 dX6_topOf_31 rfl rfl ?_
    refine q_iadd C dX6_topOf_32 ?_
    refine q_iconst C dX6_topOf_33 ?_
    refine q_isub C dX6_topOf_34 ?_
    refine q_iald C (b := 30) (n := 96) 0 19 rfl (by decide) (by decide) (by omega) (fun _ => rfl) dX6_topOf_35 (fun v35 e35 l35 u35 => ?_)
    subst e35 e10 e9
    exact q_iretI C dX6_topOf_36 (by omega) (by decide) ⟨Or.inr ⟨stM_hd hs2 (by show 0 < g 29 (4 * y + s); omega), l35, by omega⟩, rfl⟩
  · refine q_iconst C dX6_topOf_15 ?_
    refine q_goto C 36 dX6_topOf_16 (by decide) ?_
    exact q_iretI C dX6_topOf_36 (by omega) (by decide) ⟨Or.inl ⟨by rw [stM_nil (by show g 29 (4 * y + s) = 0; omega)]; rfl, rfl⟩, rfl⟩
set_option maxRecDepth 20000 in
theorem KX6_isTop (g : qHp) (y : Int) (hy : -2147483648 ≤ y ∧ y < 2147483648) (b : Int) (hb : -2147483648 ≤ b ∧ b < 2147483648) (hy2 : 0 ≤ y ∧ y < 6) (so : Int → Int) (o : yOK (g 23 2) (g 24) (hM g y) (pM g y) so) (hin : inS (stM g y) b) : qC yX6_isTop (.code yX6_isTop cX6_isTop 3 (some .boolean)) 1 0 (fun ad => [.ref (ad 23), .int (iI y), .int (iI b)]) g (qPi (fun (r : Int) (g' : qHp) => (((stM g y (soS (stM g y) b)).head? = some b ∧ r = 1) ∨ ((stM g y (soS (stM g y) b)).head? ≠ some b ∧ r = 0)) ∧ g' = g)) qNo := by
  refine q_meth (by decide +kernel) rfl (fun _ => (Nat.le_of_ble_eq_true rfl)) (fun X ω C => ?_)
  refine q_nm (fun hn => ?_)
  have r23_2 : 0 ≤ g 23 2 ∧ g 23 2 ≤ 4 := hn 23 2
  obtain ⟨s0, hs0⟩ := hin
  have hs0c := o.2.2.2.2.1.2.2.2.2 s0 b hs0
  have hc4 := o.1
  have es : soS (stM g y) b = s0 := soS_hit (by omega) hs0 (fun u a c hu => by have := o.2.2.2.2.1.2.1 u s0 b hu hs0; omega)
  have hr29 : ∀ j, 0 ≤ g 29 j ∧ g 29 j ≤ 4 := fun j => hn 29 j
  have hr30 : ∀ j, 0 ≤ g 30 j ∧ g 30 j ≤ 19 := fun j => hn 30 j
  have hbr := o.2.2.2.2.1.2.2.1 s0 b hs0
  refine q_loc [(0, .ref (ω.1 23)), (1, .int (iI y)), (2, .int (iI b))] ⟨rfl, rfl, rfl, trivial⟩ ?_
  refine q_aload_n C 0 dX6_isTop_0 rfl rfl ?_
  refine q_iload_n C 1 dX6_isTop_1 rfl rfl ?_
  refine q_aload_n C 0 dX6_isTop_2 rfl rfl ?_
  refine q_iload_n C 1 dX6_isTop_3 rfl rfl ?_
  refine q_iload_n C 2 dX6_isTop_4 rfl rfl ?_
  refine q_Vf0 C (KX6_placeOf _ _ (by omega) _ (by omega) hy2 o.2.2.1) mX6_placeOf ml_X6_62 dX6_isTop_5 (by decide) (by decide) rfl rfl rfl (Nat.le_of_ble_eq_true rfl) rfl (by decide) rfl rfl (fun v5 l5 u5 h5 => ?_)
  refine q_Vf0 C (KX6_topOf _ _ (by omega) _ (by omega) hy2 (by rw [h5, es]; omega)) mX6_topOf ml_X6_66 dX6_isTop_8 (by decide) (by decide) rfl rfl rfl (Nat.le_of_ble_eq_true rfl) rfl (by decide) rfl rfl (fun v8 l8 u8 h8 => ?_)
  refine q_iload_n C 2 dX6_isTop_11 rfl rfl ?_
  refine q_icmp_ne C 19 dX6_isTop_12 (by decide) (by omega) (by omega) (fun c12 => ?_) (fun c12 => ?_)
  · refine q_iconst C dX6_isTop_19 ?_
    rw [h5, es] at h8
    rw [es]
    refine q_iretZ C dX6_isTop_20 (by omega) (by decide) ⟨?_, rfl⟩
    rcases h8 with ⟨z1, z2⟩ | ⟨z1, z2⟩
    · first
      | (exfalso; omega)
      | exact Or.inr ⟨(by rw [z1]; intro q; cases q), rfl⟩
    · first
      | (have q : v8 = b := by omega
         rw [q] at z1
         exact Or.inl ⟨z1, rfl⟩)
      | (refine Or.inr ⟨?_, rfl⟩
         rw [z1]
         intro q
         have q : v8 = b := by simpa using q
         omega)
  · refine q_iconst C dX6_isTop_15 ?_
    refine q_goto C 20 dX6_isTop_16 (by decide) ?_
    rw [h5, es] at h8
    rw [es]
    refine q_iretZ C dX6_isTop_20 (by omega) (by decide) ⟨?_, rfl⟩
    rcases h8 with ⟨z1, z2⟩ | ⟨z1, z2⟩
    · first
      | (exfalso; omega)
      | exact Or.inr ⟨(by rw [z1]; intro q; cases q), rfl⟩
    · first
      | (have q : v8 = b := by omega
         rw [q] at z1
         exact Or.inl ⟨z1, rfl⟩)
      | (refine Or.inr ⟨?_, rfl⟩
         rw [z1]
         intro q
         have q : v8 = b := by simpa using q
         omega)
set_option maxRecDepth 20000 in
theorem KX6_takes (g : qHp) (y : Int) (hy : -2147483648 ≤ y ∧ y < 2147483648) (s : Int) (hs : -2147483648 ≤ s ∧ s < 2147483648) (w : Int) (hw : -2147483648 ≤ w ∧ w < 2147483648) (hy2 : 0 ≤ y ∧ y < 6) (hs2 : 0 ≤ s ∧ s < 4) : qC yX6_takes (.code yX6_takes cX6_takes 4 (some .boolean)) 1 0 (fun ad => [.ref (ad 23), .int (iI y), .int (iI s), .int (iI w)]) g (qPi (fun (r : Int) (g' : qHp) => (((hM g y s < g 24 s ∧ ∀ x, (stM g y s).head? = some x → w ≤ g 25 x) ∧ r = 1) ∨ (¬ (hM g y s < g 24 s ∧ ∀ x, (stM g y s).head? = some x → w ≤ g 25 x) ∧ r = 0)) ∧ g' = g)) qNo := by
  refine q_meth (by decide +kernel) rfl (fun _ => (Nat.le_of_ble_eq_true rfl)) (fun X ω C => ?_)
  refine q_nm (fun hn => ?_)
  have h29 : 0 ≤ g 29 (4 * y + s) ∧ g 29 (4 * y + s) ≤ 4 := hn 29 _
  refine q_loc [(0, .ref (ω.1 23)), (1, .int (iI y)), (2, .int (iI s)), (3, .int (iI w))] ⟨rfl, rfl, rfl, rfl, trivial⟩ ?_
  refine q_aload_n C 0 dX6_takes_0 rfl rfl ?_
  refine q_getr C (b := 23) 9 rfl (by decide) rfl in_X6 (by decide) fl_X6_27 rfl dX6_takes_1 ?_
  refine q_iconst C dX6_takes_4 ?_
  refine q_iload_n C 1 dX6_takes_5 rfl rfl ?_
  refine q_imul C dX6_takes_6 ?_
  refine q_iload_n C 2 dX6_takes_7 rfl rfl ?_
  refine q_iadd C dX6_takes_8 ?_
  refine q_iald C (b := 29) (n := 24) 0 4 rfl (by decide) (by decide) (by omega) (fun _ => rfl) dX6_takes_9 (fun v9 e9 l9 u9 => ?_)
  refine q_aload_n C 0 dX6_takes_10 rfl rfl ?_
  refine q_getr C (b := 23) 3 rfl (by decide) rfl in_X6 (by decide) fl_X6_7 rfl dX6_takes_11 ?_
  refine q_iload_n C 2 dX6_takes_14 rfl rfl ?_
  refine q_iald C (b := 24) (n := 4) 0 4 rfl (by decide) (by decide) (by omega) (fun _ => rfl) dX6_takes_15 (fun v15 e15 l15 u15 => ?_)
  refine q_icmp_ge C 51 dX6_takes_16 (by decide) (by omega) (by omega) (fun c16 => ?_) (fun c16 => ?_)
  · refine q_iconst C dX6_takes_51 ?_
    refine q_iretZ C dX6_takes_52 (by omega) (by decide) ⟨?_, rfl⟩
    first
      | (refine Or.inl ⟨⟨by show g 29 (4 * y + s) < g 24 s; omega, fun x hx => ?_⟩, by omega⟩
         rw [stM_nil (by show g 29 (4 * y + s) = 0; omega)] at hx
         cases hx)
      | (refine Or.inr ⟨fun q => ?_, by omega⟩
         have q1 : g 29 (4 * y + s) < g 24 s := q.1
         omega)
  · refine q_aload_n C 0 dX6_takes_19 rfl rfl ?_
    refine q_getr C (b := 23) 9 rfl (by decide) rfl in_X6 (by decide) fl_X6_27 rfl dX6_takes_20 ?_
    refine q_iconst C dX6_takes_23 ?_
    refine q_iload_n C 1 dX6_takes_24 rfl rfl ?_
    refine q_imul C dX6_takes_25 ?_
    refine q_iload_n C 2 dX6_takes_26 rfl rfl ?_
    refine q_iadd C dX6_takes_27 ?_
    refine q_iald C (b := 29) (n := 24) 0 4 rfl (by decide) (by decide) (by omega) (fun _ => rfl) dX6_takes_28 (fun v28 e28 l28 u28 => ?_)
    refine q_ifeq C 47 dX6_takes_29 (by decide) (by omega) (fun c29 => ?_) (fun c29 => ?_)
    · refine q_iconst C dX6_takes_47 ?_
      refine q_goto C 52 dX6_takes_48 (by decide) ?_
      refine q_iretZ C dX6_takes_52 (by omega) (by decide) ⟨?_, rfl⟩
      first
        | (refine Or.inl ⟨⟨by show g 29 (4 * y + s) < g 24 s; omega, fun x hx => ?_⟩, by omega⟩
           rw [stM_nil (by show g 29 (4 * y + s) = 0; omega)] at hx
           cases hx)
        | (refine Or.inr ⟨fun q => ?_, by omega⟩
           have q1 : g 29 (4 * y + s) < g 24 s := q.1
           omega)
    · refine q_aload_n C 0 dX6_takes_32 rfl rfl ?_
      refine q_getr C (b := 23) 5 rfl (by decide) rfl in_X6 (by decide) fl_X6_13 rfl dX6_takes_33 ?_
      refine q_aload_n C 0 dX6_takes_36 rfl rfl ?_
      refine q_iload_n C 1 dX6_takes_37 rfl rfl ?_
      refine q_iload_n C 2 dX6_takes_38 rfl rfl ?_
      refine q_Vf0 C (KX6_topOf _ _ (by omega) _ (by omega) hy2 hs2) mX6_topOf ml_X6_66 dX6_takes_39 (by decide) (by decide) rfl rfl rfl (Nat.le_of_ble_eq_true rfl) rfl (by decide) rfl rfl (fun v39 l39 u39 h39 => ?_)
      have hne : (stM g y s).head? = some v39 ∧ 0 ≤ v39 ∧ v39 < 20 := by
        rcases h39 with ⟨z1, -⟩ | z1
        · rw [stM_hd hs2 (by show 0 < g 29 (4 * y + s); omega)] at z1
          cases z1
        · exact z1
      refine q_iald C (b := 25) (n := 20) 0 30 rfl (by decide) (by decide) (by omega) (fun _ => rfl) dX6_takes_42 (fun v42 e42 l42 u42 => ?_)
      refine q_iload_n C 3 dX6_takes_43 rfl rfl ?_
      refine q_icmp_lt C 51 dX6_takes_44 (by decide) (by omega) (by omega) (fun c44 => ?_) (fun c44 => ?_)
      · refine q_iconst C dX6_takes_51 ?_
        refine q_iretZ C dX6_takes_52 (by omega) (by decide) ⟨?_, rfl⟩
        first
          | (refine Or.inl ⟨⟨by show g 29 (4 * y + s) < g 24 s; omega, fun x hx => ?_⟩, by omega⟩
             rw [hne.1] at hx
             have q : v39 = x := by simpa using hx
             rw [← q]
             omega)
          | (refine Or.inr ⟨fun q => ?_, by omega⟩
             have q2 := q.2 v39 hne.1
             omega)
      · refine q_iconst C dX6_takes_47 ?_
        refine q_goto C 52 dX6_takes_48 (by decide) ?_
        refine q_iretZ C dX6_takes_52 (by omega) (by decide) ⟨?_, rfl⟩
        first
          | (refine Or.inl ⟨⟨by show g 29 (4 * y + s) < g 24 s; omega, fun x hx => ?_⟩, by omega⟩
             rw [hne.1] at hx
             have q : v39 = x := by simpa using hx
             rw [← q]
             omega)
          | (refine Or.inr ⟨fun q => ?_, by omega⟩
             have q2 := q.2 v39 hne.1
             omega)
