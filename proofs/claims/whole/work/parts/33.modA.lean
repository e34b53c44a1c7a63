/-! the reference: its yards -/
abbrev hM (g : qHp) (y : Int) : Int → Int := fun s => g 29 (4 * y + s)
abbrev pM (g : qHp) (y : Int) : Int → Int := fun j => g 30 (16 * y + j)
abbrev stM (g : qHp) (y : Int) : St := stOf (hM g y) (pM g y)
/-- where a box stands, by the stacks alone -/
def soS (z : St) (x : Int) : Int := if x ∈ z 0 then 0 else if x ∈ z 1 then 1 else if x ∈ z 2 then 2 else if x ∈ z 3 then 3 else -1
theorem soS_hit {z : St} {x s : Int} (h0 : 0 ≤ s ∧ s < 4) (h : x ∈ z s) (hn : ∀ u, 0 ≤ u → u < s → x ∉ z u) : soS z x = s := by
  unfold soS
  rcases (show s = 0 ∨ s = 1 ∨ s = 2 ∨ s = 3 by omega) with e | e | e | e
  · subst e
    rw [if_pos h]
  · subst e
    rw [if_neg (hn 0 (by decide) (by decide)), if_pos h]
  · subst e
    rw [if_neg (hn 0 (by decide) (by decide)), if_neg (hn 1 (by decide) (by decide)), if_pos h]
  · subst e
    rw [if_neg (hn 0 (by decide) (by decide)), if_neg (hn 1 (by decide) (by decide)), if_neg (hn 2 (by decide) (by decide)), if_pos h]
theorem soS_no {z : St} {x : Int} (hn : ∀ u, 0 ≤ u → u < 4 → x ∉ z u) : soS z x = -1 := by
  unfold soS
  rw [if_neg (hn 0 (by decide) (by decide)), if_neg (hn 1 (by decide) (by decide)), if_neg (hn 2 (by decide) (by decide)), if_neg (hn 3 (by decide) (by decide))]
/-- in a yard in order it is the cell of the box -/
theorem soS_so {c : Int} {r h p so : Int → Int} (o : yOK c r h p so) {x : Int} : soS (stOf h p) x = ySt so x := by
  by_cases q : ySt so x = -1
  · rw [q]
    refine soS_no (fun u a b hu => ?_)
    exact (inS_so o).mpr ⟨u, hu⟩ q
  · obtain ⟨hx, e⟩ := ySt_in q
    rw [e] at q ⊢
    have hm := o.2.2.2.2.2.2 x hx.1 hx.2 q
    have hs := o.2.2.2.2.1.2.2.2.2 _ x hm
    have hc := o.1
    exact soS_hit (by omega) hm (fun u a b hu => by have := o.2.2.2.2.1.2.1 u (so x) x hu hm; omega)
theorem stM_mem {g : qHp} {y s x : Int} (hs : 0 ≤ s ∧ s < 4) (h0 : 0 ≤ hM g y s) : x ∈ stM g y s ↔ ∃ k : Int, 0 ≤ k ∧ k < hM g y s ∧ g 30 (16 * y + 4 * s + k) = x := by
  show x ∈ stOf (hM g y) (pM g y) s ↔ _
  rw [stOf_in hs, tlS_mem]
  constructor
  · rintro ⟨k, k1, k2, k3⟩
    refine ⟨k, k1, by omega, ?_⟩
    have k3 : g 30 (16 * y + (s * 4 + k)) = x := k3
    rw [← k3]
    congr 1
    omega
  · rintro ⟨k, k1, k2, k3⟩
    refine ⟨k, k1, by omega, ?_⟩
    show g 30 (16 * y + (s * 4 + k)) = x
    rw [← k3]
    congr 1
    omega
set_option maxRecDepth 20000 in
theorem KX6_thrown (g : qHp)  : qC yX6_thrown (.code yX6_thrown cX6_thrown 1 (some .int)) 0 0 (fun ad => [.ref (ad 23)]) g (qPi (fun (r : Int) (g' : qHp) => (r = g 23 0) ∧ g' = g)) qNo := by
  refine q_meth (by decide +kernel) rfl (fun _ => (Nat.le_of_ble_eq_true rfl)) (fun X ω C => ?_)
  refine q_loc [(0, .ref (ω.1 23))] ⟨rfl, trivial⟩ ?_
  refine q_aload_n C 0 dX6_thrown_0 rfl rfl ?_
  refine q_geti C (b := 23) 0 0 0 4 rfl (by decide) rfl in_X6 (by decide) fl_X6_48 rfl rfl rfl dX6_thrown_1 (fun v1 e1 l1 u1 => ?_)
  subst e1
  exact q_iretI C dX6_thrown_4 (by omega) (by decide) (⟨by omega, rfl⟩)
set_option maxRecDepth 20000 in
theorem KX6_in (g : qHp) (v : Int) (hv : -2147483648 ≤ v ∧ v < 2147483648) (lo : Int) (hlo : -2147483648 ≤ lo ∧ lo < 2147483648) (hi : Int) (hhi : -2147483648 ≤ hi ∧ hi < 2147483648)  : qC yX6_in (.code yX6_in cX6_in 3 (some .boolean)) 0 0 (fun ad => [.int (iI v), .int (iI lo), .int (iI hi)]) g (qPi (fun (r : Int) (g' : qHp) => (((lo ≤ v ∧ v ≤ hi) ∧ r = 1) ∨ (¬ (lo ≤ v ∧ v ≤ hi) ∧ r = 0)) ∧ g' = g)) qNo := by
  refine q_meth (by decide +kernel) rfl (fun _ => (Nat.le_of_ble_eq_true rfl)) (fun X ω C => ?_)
  refine q_loc [(0, .int (iI v)), (1, .int (iI lo)), (2, .int (iI hi))] ⟨rfl, rfl, rfl, trivial⟩ ?_
  refine q_iload_n C 0 dX6_in_0 rfl rfl ?_
  refine q_iload_n C 1 dX6_in_1 rfl rfl ?_
  refine q_icmp_lt C 14 dX6_in_2 (by decide) (by omega) (by omega) (fun c2 => ?_) (fun c2 => ?_)
  · refine q_iconst C dX6_in_14 ?_
    exact q_iretZ C dX6_in_15 (by omega) (by decide) (⟨by omega, rfl⟩)
  · refine q_iload_n C 0 dX6_in_5 rfl rfl ?_
    refine q_iload_n C 2 dX6_in_6 rfl rfl ?_
    refine q_icmp_gt C 14 dX6_in_7 (by decide) (by omega) (by omega) (fun c7 => ?_) (fun c7 => ?_)
    · refine q_iconst C dX6_in_14 ?_
      exact q_iretZ C dX6_in_15 (by omega) (by decide) (⟨by omega, rfl⟩)
    · refine q_iconst C dX6_in_10 ?_
      refine q_goto C 15 dX6_in_11 (by decide) ?_
      exact q_iretZ C dX6_in_15 (by omega) (by decide) (⟨by omega, rfl⟩)
set_option maxRecDepth 20000 in
theorem KX6_fails (g : qHp) (w : Int) (hw : -2147483648 ≤ w ∧ w < 2147483648) (hw2 : 0 ≤ w ∧ w ≤ 4) : qC yX6_fails (.code yX6_fails cX6_fails 2 (some .int)) 0 0 (fun ad => [.ref (ad 23), .int (iI w)]) g (qPi (fun (r : Int) (g' : qHp) => r = 0 ∧ g' = qUp g 23 0 w)) qNo := by
  refine q_meth (by decide +kernel) rfl (fun _ => (Nat.le_of_ble_eq_true rfl)) (fun X ω C => ?_)
  refine q_loc [(0, .ref (ω.1 23)), (1, .int (iI w))] ⟨rfl, rfl, trivial⟩ ?_
  refine q_aload_n C 0 dX6_fails_0 rfl rfl ?_
  refine q_iload_n C 1 dX6_fails_1 rfl rfl ?_
  refine q_puti C (b := 23) 0 0 0 4 _ rfl (by decide) rfl in_X6 tyX6_ok nmX6 (by decide) fl_X6_48 rfl (by decide +kernel) rfl rfl rfl rfl (by omega) dX6_fails_2 ?_
  refine q_iconst C dX6_fails_5 ?_
  exact q_iretI C dX6_fails_6 (by omega) (by decide) (⟨by omega, rfl⟩)
set_option maxRecDepth 20000 in
theorem KX6_isBox (g : qHp) (b : Int) (hb : -2147483648 ≤ b ∧ b < 2147483648)  : qC yX6_isBox (.code yX6_isBox cX6_isBox 2 (some .boolean)) 1 0 (fun ad => [.ref (ad 23), .int (iI b)]) g (qPi (fun (r : Int) (g' : qHp) => (((0 ≤ b ∧ b < g 23 4 ∧ g 26 b = 1) ∧ r = 1) ∨ (¬ (0 ≤ b ∧ b < g 23 4 ∧ g 26 b = 1) ∧ r = 0)) ∧ g' = g)) qNo := by
  refine q_meth (by decide +kernel) rfl (fun _ => (Nat.le_of_ble_eq_true rfl)) (fun X ω C => ?_)
  refine q_nm (fun hn => ?_)
  have r23_4 : 0 ≤ g 23 4 ∧ g 23 4 ≤ 20 := hn 23 4
  refine q_loc [(0, .ref (ω.1 23)), (1, .int (iI b))] ⟨rfl, rfl, trivial⟩ ?_
  refine q_iload_n C 1 dX6_isBox_0 rfl rfl ?_
  refine q_iconst C dX6_isBox_1 ?_
  refine q_aload_n C 0 dX6_isBox_2 rfl rfl ?_
  refine q_geti C (b := 23) 4 4 0 20 rfl (by decide) rfl in_X6 (by decide) fl_X6_52 rfl rfl rfl dX6_isBox_3 (fun v3 e3 l3 u3 => ?_)
  refine q_iconst C dX6_isBox_6 ?_
  refine q_isub C dX6_isBox_7 ?_
  refine q_Sf0 C (KX6_in _ _ (by omega) _ (by omega) _ (by omega)) mX6_in ml_X6_55 dX6_isBox_8 (by decide) (by decide) rfl rfl rfl (Nat.le_of_ble_eq_true rfl) (fun v8 l8 u8 h8 => ?_)
  refine q_ifeq C 27 dX6_isBox_11 (by decide) (by omega) (fun c11 => ?_) (fun c11 => ?_)
  · refine q_iconst C dX6_isBox_27 ?_
    subst e3
    exact q_iretZ C dX6_isBox_28 (by omega) (by decide) (⟨by omega, rfl⟩)
  · refine q_aload_n C 0 dX6_isBox_14 rfl rfl ?_
    refine q_getr C (b := 23) 6 rfl (by decide) rfl in_X6 (by decide) fl_X6_16 rfl dX6_isBox_15 ?_
    refine q_iload_n C 1 dX6_isBox_18 rfl rfl ?_
    refine q_zald C (b := 26) (n := 20) 0 1 rfl (by decide) (by decide) (by omega) (fun _ => rfl) dX6_isBox_19 (fun v19 e19 l19 u19 => ?_)
    refine q_ifeq C 27 dX6_isBox_20 (by decide) (by omega) (fun c20 => ?_) (fun c20 => ?_)
    · refine q_iconst C dX6_isBox_27 ?_
      subst e19 e3
      exact q_iretZ C dX6_isBox_28 (by omega) (by decide) (⟨by omega, rfl⟩)
    · refine q_iconst C dX6_isBox_23 ?_
      refine q_goto C 28 dX6_isBox_24 (by decide) ?_
      subst e19 e3
      exact q_iretZ C dX6_isBox_28 (by omega) (by decide) (⟨by omega, rfl⟩)
set_option maxRecDepth 20000 in
theorem KX6_isStack (g : qHp) (s : Int) (hs : -2147483648 ≤ s ∧ s < 2147483648)  : qC yX6_isStack (.code yX6_isStack cX6_isStack 2 (some .boolean)) 1 0 (fun ad => [.ref (ad 23), .int (iI s)]) g (qPi (fun (r : Int) (g' : qHp) => (((0 ≤ s ∧ s < g 23 2) ∧ r = 1) ∨ (¬ (0 ≤ s ∧ s < g 23 2) ∧ r = 0)) ∧ g' = g)) qNo := by
  refine q_meth (by decide +kernel) rfl (fun _ => (Nat.le_of_ble_eq_true rfl)) (fun X ω C => ?_)
  refine q_nm (fun hn => ?_)
  have r23_2 : 0 ≤ g 23 2 ∧ g 23 2 ≤ 4 := hn 23 2
  refine q_loc [(0, .ref (ω.1 23)), (1, .int (iI s))] ⟨rfl, rfl, trivial⟩ ?_
  refine q_iload_n C 1 dX6_isStack_0 rfl rfl ?_
  refine q_iconst C dX6_isStack_1 ?_
  refine q_aload_n C 0 dX6_isStack_2 rfl rfl ?_
  refine q_geti C (b := 23) 2 2 0 4 rfl (by decide) rfl in_X6 (by decide) fl_X6_59 rfl rfl rfl dX6_isStack_3 (fun v3 e3 l3 u3 => ?_)
  refine q_iconst C dX6_isStack_6 ?_
  refine q_isub C dX6_isStack_7 ?_
  refine q_Sf0 C (KX6_in _ _ (by omega) _ (by omega) _ (by omega)) mX6_in ml_X6_55 dX6_isStack_8 (by decide) (by decide) rfl rfl rfl (Nat.le_of_ble_eq_true rfl) (fun v8 l8 u8 h8 => ?_)
  subst e3
  exact q_iretZ C dX6_isStack_11 (by omega) (by decide) (⟨by omega, rfl⟩)
set_option maxRecDepth 20000 in
theorem KX6_isPinned (g : qHp) (b : Int) (hb : -2147483648 ≤ b ∧ b < 2147483648) (hb2 : 0 ≤ b ∧ b < 20) : qC yX6_isPinned (.code yX6_isPinned cX6_isPinned 2 (some .boolean)) 0 0 (fun ad => [.ref (ad 23), .int (iI b)]) g (qPi (fun (r : Int) (g' : qHp) => ((g 27 b = 112 ∧ r = 1) ∨ (g 27 b ≠ 112 ∧ r = 0)) ∧ g' = g)) qNo := by
  refine q_meth (by decide +kernel) rfl (fun _ => (Nat.le_of_ble_eq_true rfl)) (fun X ω C => ?_)
  refine q_loc [(0, .ref (ω.1 23)), (1, .int (iI b))] ⟨rfl, rfl, trivial⟩ ?_
  refine q_aload_n C 0 dX6_isPinned_0 rfl rfl ?_
  refine q_getr C (b := 23) 7 rfl (by decide) rfl in_X6 (by decide) fl_X6_20 rfl dX6_isPinned_1 ?_
  refine q_iload_n C 1 dX6_isPinned_4 rfl rfl ?_
  refine q_cald C (b := 27) (n := 20) 0 65535 rfl (by decide) (by decide) (by omega) (fun _ => rfl) dX6_isPinned_5 (fun v5 e5 l5 u5 => ?_)
  refine q_bipush C dX6_isPinned_6 (by decide +kernel) ?_
  refine q_icmp_ne C 15 dX6_isPinned_8 (by decide) (by omega) (by omega) (fun c8 => ?_) (fun c8 => ?_)
  · refine q_iconst C dX6_isPinned_15 ?_
    subst e5
    exact q_iretZ C dX6_isPinned_16 (by omega) (by decide) (⟨by omega, rfl⟩)
  · refine q_iconst C dX6_isPinned_11 ?_
    refine q_goto C 16 dX6_isPinned_12 (by decide) ?_
    subst e5
    exact q_iretZ C dX6_isPinned_16 (by omega) (by decide) (⟨by omega, rfl⟩)
set_option maxRecDepth 20000 in
theorem KX6_placeOf (g : qHp) (y : Int) (hy : -2147483648 ≤ y ∧ y < 2147483648) (b : Int) (hb : -2147483648 ≤ b ∧ b < 2147483648) (hy2 : 0 ≤ y ∧ y < 6) (hE : ∀ s, g 23 2 ≤ s → s < 4 → hM g y s = 0) : qC yX6_placeOf (.code yX6_placeOf cX6_placeOf 5 (some .int)) 0 0 (fun ad => [.ref (ad 23), .int (iI y), .int (iI b)]) g (qPi (fun (r : Int) (g' : qHp) => (r = soS (stM g y) b) ∧ g' = g)) qNo := by
  refine q_meth (by decide +kernel) rfl (fun _ => (Nat.le_of_ble_eq_true rfl)) (fun X ω C => ?_)
  refine q_nm (fun hn => ?_)
  have r23_2 : 0 ≤ g 23 2 ∧ g 23 2 ≤ 4 := hn 23 2
  have hr29 : ∀ j, 0 ≤ g 29 j ∧ g 29 j ≤ 4 := fun j => hn 29 j
  refine q_loc [(0, .ref (ω.1 23)), (1, .int (iI y)), (2, .int (iI b))] ⟨rfl, rfl, rfl, trivial⟩ ?_
  refine q_iconst C dX6_placeOf_0 ?_
  refine q_istoreV_n C 3 dX6_placeOf_1 rfl (by decide) (fun v1 e1 => ?_)
  have loopA : ∀ (nA : Nat) (s : Int), ((g 23 2 - s) < (nA : Int)) → (0 ≤ s ∧ s ≤ g 23 2) → (∀ u, 0 ≤ u → u < s → b ∉ stM g y u) → qT X ω 5 0 (qEnd X ω (qPi (fun (r : Int) (g' : qHp) => (r = soS (stM g y) b) ∧ g' = g)) qNo 0) g 2 [(0, .ref (ω.1 23)), (1, .int (iI y)), (2, .int (iI b)), (3, .int (iI s))] [] := by
    intro nA
    induction nA with
    | zero => intro s hmA hs hI; exfalso; omega
    | succ nA ihA =>
      intro s hmA hs hI
      refine q_iload_n C 3 dX6_placeOf_2 rfl rfl ?_
      refine q_aload_n C 0 dX6_placeOf_3 rfl rfl ?_
      refine q_geti C (b := 23) 2 2 0 4 rfl (by decide) rfl in_X6 (by decide) fl_X6_59 rfl rfl rfl dX6_placeOf_4 (fun v4 e4 l4 u4 => ?_)
      refine q_icmp_ge C 62 dX6_placeOf_7 (by decide) (by omega) (by omega) (fun c7 => ?_) (fun c7 => ?_)
      · refine q_iconst C dX6_placeOf_62 ?_
        refine q_iretI C dX6_placeOf_63 (by omega) (by decide) ⟨(soS_no (fun u a c hu => ?_)).symm, rfl⟩
        by_cases q : u < g 23 2
        · exact hI u a (by omega) hu
        · have hz := hE u (by omega) c
          have hu : b ∈ stOf (hM g y) (pM g y) u := hu
          rw [stOf_nil hz] at hu
          cases hu
      · refine q_iconst C dX6_placeOf_10 ?_
        refine q_istoreV C dX6_placeOf_11 (by decide) (fun v11 e11 => ?_)
        have h29s := hr29 (4 * y + s)
        have loopB : ∀ (nB : Nat) (k : Int), ((g 29 (4 * y + s) - k) < (nB : Int)) → (0 ≤ k ∧ k ≤ g 29 (4 * y + s)) → (∀ j, 0 ≤ j → j < k → g 30 (16 * y + 4 * s + j) ≠ b) → qT X ω 5 0 (qEnd X ω (qPi (fun (r : Int) (g' : qHp) => (r = soS (stM g y) b) ∧ g' = g)) qNo 0) g 13 [(0, .ref (ω.1 23)), (1, .int (iI y)), (2, .int (iI b)), (3, .int (iI s)), (4, .int (iI k))] [] := by
          intro nB
          induction nB with
          | zero => intro k hmB hk hK; exfalso; omega
          | succ nB ihB =>
            intro k hmB hk hK
            refine q_iload C dX6_placeOf_13 rfl ?_
            refine q_aload_n C 0 dX6_placeOf_15 rfl rfl ?_
            refine q_getr C (b := 23) 9 rfl (by decide) rfl in_X6 (by decide) fl_X6_27 rfl dX6_placeOf_16 ?_
            refine q_iconst C dX6_placeOf_19 ?_
            refine q_iload_n C 1 dX6_placeOf_20 rfl rfl ?_
            refine q_imul C dX6_placeOf_21 ?_
            refine q_iload_n C 3 dX6_placeOf_22 rfl rfl ?_
            refine q_iadd C dX6_placeOf_23 ?_
            refine q_iald C (b := 29) (n := 24) 0 4 rfl (by decide) (by decide) (by omega) (fun _ => rfl) dX6_placeOf_24 (fun v24 e24 l24 u24 => ?_)
            refine q_icmp_ge C 56 dX6_placeOf_25 (by decide) (by omega) (by omega) (fun c25 => ?_) (fun c25 => ?_)
            · refine q_iinc C dX6_placeOf_56 rfl (by decide) (fun v56 e56 => ?_)
              refine q_goto C 2 dX6_placeOf_59 (by decide) ?_
              refine q_loc [(0, .ref (ω.1 23)), (1, .int (iI y)), (2, .int (iI b)), (3, .int (iI v56))] ⟨rfl, rfl, rfl, rfl, trivial⟩ ?_
              exact ihA v56 (by omega) (by omega) (fun u a c hu => by by_cases e : u = s; (· subst e; obtain ⟨k, k1, k2, k3⟩ := (stM_mem (by omega) (hr29 _).1).mp hu; exact hK k k1 (by have k2 : k < g 29 (4 * y + u) := k2; omega) k3); (· exact hI u a (by omega) hu))
            · refine q_aload_n C 0 dX6_placeOf_28 rfl rfl ?_
              refine q_getr C (b := 23) 10 rfl (by decide) rfl in_X6 (by decide) fl_X6_30 rfl dX6_placeOf_29 ?_
              refine q_bipush C dX6_placeOf_32 (by decide +kernel) ?_
              refine q_iload_n C 1 dX6_placeOf_34 rfl rfl ?_
              refine q_imul C dX6_placeOf_35 ?_
              refine q_iconst C dX6_placeOf_36 ?_
              refine q_iload_n C 3 dX6_placeOf_37 rfl rfl ?_
              refine q_imul C dX6_placeOf_38 ?_
              refine q_iadd C dX6_placeOf_39 ?_
              refine q_iload C dX6_placeOf_40 rfl ?_
              refine q_iadd C dX6_placeOf_42 ?_
              refine q_iald C (b := 30) (n := 96) 0 19 rfl (by decide) (by decide) (by omega) (fun _ => rfl) dX6_placeOf_43 (fun v43 e43 l43 u43 => ?_)
              refine q_iload_n C 2 dX6_placeOf_44 rfl rfl ?_
              refine q_icmp_ne C 50 dX6_placeOf_45 (by decide) (by omega) (by omega) (fun c45 => ?_) (fun c45 => ?_)
              · refine q_iinc C dX6_placeOf_50 rfl (by decide) (fun v50 e50 => ?_)
                refine q_goto C 13 dX6_placeOf_53 (by decide) ?_
                refine q_loc [(0, .ref (ω.1 23)), (1, .int (iI y)), (2, .int (iI b)), (3, .int (iI s)), (4, .int (iI v50))] ⟨rfl, rfl, rfl, rfl, rfl, trivial⟩ ?_
                exact ihB v50 (by omega) (by omega) (fun j a c => by by_cases e : j = k; (· rw [e]; omega); (· exact hK j a (by omega)))
              · refine q_iload_n C 3 dX6_placeOf_48 rfl rfl ?_
                exact q_iretI C dX6_placeOf_49 (by omega) (by decide) ⟨(soS_hit (by omega) ((stM_mem (by omega) (hr29 _).1).mpr ⟨k, hk.1, by show k < g 29 (4 * y + s); omega, by omega⟩) hI).symm, rfl⟩
        refine q_loc [(0, .ref (ω.1 23)), (1, .int (iI y)), (2, .int (iI b)), (3, .int (iI s)), (4, .int (iI v11))] ⟨rfl, rfl, rfl, rfl, rfl, trivial⟩ ?_
        exact loopB ((g 29 (4 * y + s) - v11).toNat + 1) v11 (by omega) (by have := hr29 (4 * y + s); omega) (fun j a c => by exfalso; omega)
  refine q_loc [(0, .ref (ω.1 23)), (1, .int (iI y)), (2, .int (iI b)), (3, .int (iI v1))] ⟨rfl, rfl, rfl, rfl, trivial⟩ ?_
  exact loopA ((g 23 2 - v1).toNat + 1) v1 (by omega) (by omega) (fun u a c => by exfalso; omega)
