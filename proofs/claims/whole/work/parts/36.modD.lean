/-! the reference: moves, copies, the next move -/
abbrev wM (g : qHp) : Int → Int := cGet (g 23 4) (g 25) 0
abbrev pnM (g : qHp) : Int → Bool := fun x => decide (cGet (g 23 4) (g 27) 45 x = 112)
abbrev okN (g : qHp) (z : St) (s t x : Int) : Prop := okM (g 23 2) (cut4 (g 24)) (wM g) (pnM g) z s t x
theorem soS_at {g : qHp} {y x s : Int} (o : yK g y) (h : x ∈ stM g y s) : soS (stM g y) x = s := o.2.2.2.2.2.1 s x h
theorem can_iff {g : qHp} {y b s : Int} (o : yK g y) (hs : 0 ≤ s ∧ s < g 23 2) (hin : inS (stM g y) b) (hbx : ∀ x, inS (stM g y) x → x < g 23 4) : okN g (stM g y) (soS (stM g y) b) s b ↔ ((stM g y (soS (stM g y) b)).head? = some b ∧ g 27 b ≠ 112 ∧ soS (stM g y) b ≠ s ∧ (hM g y s < g 24 s ∧ ∀ x, (stM g y s).head? = some x → g 25 b ≤ g 25 x)) := by
  obtain ⟨s0, hs0⟩ := hin
  have es := soS_at o hs0
  have hb := o.2.2.2.2.1.2.2.1 s0 b hs0
  have hsc := o.2.2.2.2.1.2.2.2.2 s0 b hs0
  have hbb := hbx b ⟨s0, hs0⟩
  have hc := o.1
  have h29 := o.2.1 s hs.1 (by omega)
  have hl := stOf_len (h := hM g y) (p := pM g y) (s := s) (by omega) h29.1
  have hw : ∀ x, inS (stM g y) x → wM g x = g 25 x := fun x hx => by
    have h1 := hbx x hx
    obtain ⟨u, hu⟩ := hx
    exact cGet_in ⟨(o.2.2.2.2.1.2.2.1 u x hu).1, h1⟩
  have hp : pnM g b = decide (g 27 b = 112) := by
    show decide (cGet (g 23 4) (g 27) 45 b = 112) = _
    rw [cGet_in ⟨hb.1, hbb⟩]
  have hwb := hw b ⟨s0, hs0⟩
  have hhd : ∀ x, (stM g y s).head? = some x → inS (stM g y) x := fun x hx => by
    obtain ⟨l, e⟩ := hd_cons hx
    exact ⟨s, by rw [e]; exact List.mem_cons_self⟩
  rw [es]
  constructor
  · rintro ⟨k1, k2, k3, k4, k5, k6, k7, k8, k9⟩
    rw [hp] at k7
    refine ⟨k6, of_decide_eq_false k7, k5, ?_, fun x hx => ?_⟩
    · rw [cut4_in (by omega)] at k8
      have k8 : ((stOf (hM g y) (pM g y) s).length : Int) < g 24 s := k8
      rw [hl] at k8
      exact k8
    · have q := k9 x hx
      rw [hwb, hw x (hhd x hx)] at q
      exact q
  · rintro ⟨k6, k7, k5, k8, k9⟩
    refine ⟨hsc.1, hsc.2, hs.1, hs.2, k5, k6, by rw [hp]; exact decide_eq_false k7, ?_, fun x hx => ?_⟩
    · rw [cut4_in (by omega)]
      show ((stOf (hM g y) (pM g y) s).length : Int) < g 24 s
      rw [hl]
      exact k8
    · rw [hwb, hw x (hhd x hx)]
      exact k9 x hx
/-- whether a move can come next -/
abbrev stpN (g : qHp) (z : St) (b m : Int) : Prop := ∃ z', stepR (g 23 2) (cut4 (g 24)) (wM g) (pnM g) b z m z'
theorem stp_iff {g : qHp} {y b m : Int} (o : yK g y) : stpN g (stM g y) b m ↔ (m / 4 ≠ b ∧ inS (stM g y) (m / 4) ∧ okN g (stM g y) (soS (stM g y) (m / 4)) (m % 4) (m / 4)) := by
  have hc := o.1
  constructor
  · rintro ⟨z', s, t, x, hm, hx, k, -⟩
    obtain ⟨k1, k2, k3, k4, k5, k6, -⟩ := id k
    have e1 : m / 4 = x := by omega
    have e2 : m % 4 = t := by omega
    obtain ⟨l, hl⟩ := hd_cons k6
    have hi : x ∈ stM g y s := by rw [hl]; exact List.mem_cons_self
    rw [e1, e2, soS_at o hi]
    exact ⟨hx, ⟨s, hi⟩, k⟩
  · rintro ⟨h1, h2, k⟩
    exact ⟨_, _, m % 4, m / 4, by omega, h1, k, rfl⟩
set_option maxRecDepth 20000 in
theorem KX6_moves (g : qHp) (y : Int) (hy : -2147483648 ≤ y ∧ y < 2147483648) (b : Int) (hb : -2147483648 ≤ b ∧ b < 2147483648) (s : Int) (hs : -2147483648 ≤ s ∧ s < 2147483648) (hy2 : 0 ≤ y ∧ y < 6) (o : yK g y) (w : Int → Int) (pn : Int → Bool) (k : okM (g 23 2) (cut4 (g 24)) w pn (stM g y) (soS (stM g y) b) s b) : qC yX6_moves (.code yX6_moves cX6_moves 4 none) 1 0 (fun ad => [.ref (ad 23), .int (iI y), .int (iI b), .int (iI s)]) g (qPv (fun g' : qHp => g' = (mvM g y (soS (stM g y) b) s b))) qNo := by
  refine q_meth (by decide +kernel) rfl (fun _ => (Nat.le_of_ble_eq_true rfl)) (fun X ω C => ?_)
  refine q_nm (fun hn => ?_)
  have r23_2 : 0 ≤ g 23 2 ∧ g 23 2 ≤ 4 := hn 23 2
  obtain ⟨-, -, -, hp4, hs4, hb4, hps, h4, h0, -⟩ := mvM_ok o k
  generalize hsp : soS (stM g y) b = p at *
  have hr29 : ∀ j, 0 ≤ g 29 j ∧ g 29 j ≤ 4 := fun j => hn 29 j
  refine q_loc [(0, .ref (ω.1 23)), (1, .int (iI y)), (2, .int (iI b)), (3, .int (iI s))] ⟨rfl, rfl, rfl, rfl, trivial⟩ ?_
  refine q_aload_n C 0 dX6_moves_0 rfl rfl ?_
  refine q_getr C (b := 23) 9 rfl (by decide) rfl in_X6 (by decide) fl_X6_27 rfl dX6_moves_1 ?_
  refine q_iconst C dX6_moves_4 ?_
  refine q_iload_n C 1 dX6_moves_5 rfl rfl ?_
  refine q_imul C dX6_moves_6 ?_
  refine q_aload_n C 0 dX6_moves_7 rfl rfl ?_
  refine q_iload_n C 1 dX6_moves_8 rfl rfl ?_
  refine q_iload_n C 2 dX6_moves_9 rfl rfl ?_
  refine q_Vf0 C (KX6_placeOf _ _ (by omega) _ (by omega) hy2 o.2.2.1) mX6_placeOf ml_X6_62 dX6_moves_10 (by decide) (by decide) rfl rfl rfl (Nat.le_of_ble_eq_true rfl) rfl (by decide) rfl rfl (fun v10 l10 u10 h10 => ?_)
  have q10 : v10 = p := by rw [h10]; exact hsp
  subst q10
  refine q_iadd C dX6_moves_13 ?_
  refine q_dup2 C dX6_moves_14 rfl rfl ?_
  refine q_iald C (b := 29) (n := 24) 0 4 rfl (by decide) (by decide) (by omega) (fun _ => rfl) dX6_moves_15 (fun v15 e15 l15 u15 => ?_)
  refine q_iconst C dX6_moves_16 ?_
  refine q_isub C dX6_moves_17 ?_
  refine q_iast C (b := 29) (n := 24) rfl (by decide) (by decide) (by omega)  (show 0 ≤ _ ∧ _ ≤ 4 from (by omega)) dX6_moves_18 ?_
  refine q_aload_n C 0 dX6_moves_19 rfl rfl ?_
  refine q_iload_n C 1 dX6_moves_20 rfl rfl ?_
  refine q_iload_n C 3 dX6_moves_21 rfl rfl ?_
  refine q_iload_n C 2 dX6_moves_22 rfl rfl ?_
  refine q_Vv0 C (KX6_lays _ _ (by omega) _ (by omega) _ (by omega) hy2 hs4 hb4 (by rw [qUp_j (by omega)]; exact ⟨(hr29 _).1, h4⟩)) mX6_lays ml_X6_80 dX6_moves_23 (by decide) (by decide) rfl rfl rfl (Nat.le_of_ble_eq_true rfl) rfl (by decide) rfl rfl ?_
  refine q_retV C dX6_moves_26 (by decide) ?_
  unfold mvM
  rw [qUp_j (show 4 * y + s ≠ 4 * y + v10 by omega), e15]
set_option maxRecDepth 20000 in
theorem KX6_copies (g : qHp) (f : Int) (hf : -2147483648 ≤ f ∧ f < 2147483648) (t : Int) (ht : -2147483648 ≤ t ∧ t < 2147483648) (hf2 : 0 ≤ f ∧ f < 6) (ht2 : 0 ≤ t ∧ t < 6) (hft : f ≠ t) : qC yX6_copies (.code yX6_copies cX6_copies 4 none) 0 0 (fun ad => [.ref (ad 23), .int (iI f), .int (iI t)]) g (qPv (fun g' : qHp => cpQ g g' f t)) qNo := by
  refine q_meth (by decide +kernel) rfl (fun _ => (Nat.le_of_ble_eq_true rfl)) (fun X ω C => ?_)
  refine q_loc [(0, .ref (ω.1 23)), (1, .int (iI f)), (2, .int (iI t))] ⟨rfl, rfl, rfl, trivial⟩ ?_
  refine q_iconst C dX6_copies_0 ?_
  refine q_istoreV_n C 3 dX6_copies_1 rfl (by decide) (fun v1 e1 => ?_)
  have loopA : ∀ (nA : Nat) (k : Int) (g1 : qHp), ((4 - k) < (nA : Int)) → (0 ≤ k ∧ k ≤ 4) → ((∀ j, 0 ≤ j → j < k → g1 29 (4 * t + j) = g 29 (4 * f + j)) ∧ (∀ j, ¬ (4 * t ≤ j ∧ j < 4 * t + 4) → g1 29 j = g 29 j) ∧ ∀ i, i ≠ 29 → g1 i = g i) → qT X ω 4 0 (qEnd X ω (qPv (fun g' : qHp => cpQ g g' f t)) qNo 0) g1 2 [(0, .ref (ω.1 23)), (1, .int (iI f)), (2, .int (iI t)), (3, .int (iI k))] [] := by
    intro nA
    induction nA with
    | zero => intro k g1 hmA hk hI; exfalso; omega
    | succ nA ihA =>
      intro k g1 hmA hk hI
      refine q_iload_n C 3 dX6_copies_2 rfl rfl ?_
      refine q_iconst C dX6_copies_3 ?_
      refine q_icmp_ge C 33 dX6_copies_4 (by decide) (by omega) (by omega) (fun c4 => ?_) (fun c4 => ?_)
      · refine q_iconst C dX6_copies_33 ?_
        refine q_istoreV_n C 3 dX6_copies_34 rfl (by decide) (fun v34 e34 => ?_)
        have loopB : ∀ (nB : Nat) (k : Int) (g2 : qHp), ((16 - k) < (nB : Int)) → (0 ≤ k ∧ k ≤ 16) → ((∀ j, 0 ≤ j → j < k → g2 30 (16 * t + j) = g 30 (16 * f + j)) ∧ (∀ j, ¬ (16 * t ≤ j ∧ j < 16 * t + 16) → g2 30 j = g 30 j) ∧ g2 29 = g1 29 ∧ ∀ i, i ≠ 29 → i ≠ 30 → g2 i = g i) → qT X ω 4 0 (qEnd X ω (qPv (fun g' : qHp => cpQ g g' f t)) qNo 0) g2 35 [(0, .ref (ω.1 23)), (1, .int (iI f)), (2, .int (iI t)), (3, .int (iI k))] [] := by
          intro nB
          induction nB with
          | zero => intro k g2 hmB hk2 hJ; exfalso; omega
          | succ nB ihB =>
            intro k g2 hmB hk2 hJ
            refine q_iload_n C 3 dX6_copies_35 rfl rfl ?_
            refine q_bipush C dX6_copies_36 (by decide +kernel) ?_
            refine q_icmp_ge C 69 dX6_copies_38 (by decide) (by omega) (by omega) (fun c38 => ?_) (fun c38 => ?_)
            · exact q_retV C dX6_copies_69 (by decide) ⟨fun j a c => by rw [hJ.2.2.1]; exact hI.1 j a (by omega), fun j a c => hJ.1 j a (by omega), fun j hj => by rw [hJ.2.2.1]; exact hI.2.1 j hj, hJ.2.1, hJ.2.2.2⟩
            · refine q_aload_n C 0 dX6_copies_41 rfl rfl ?_
              refine q_getr C (b := 23) 10 rfl (by decide) rfl in_X6 (by decide) fl_X6_30 rfl dX6_copies_42 ?_
              refine q_bipush C dX6_copies_45 (by decide +kernel) ?_
              refine q_iload_n C 2 dX6_copies_47 rfl rfl ?_
              refine q_imul C dX6_copies_48 ?_
              refine q_iload_n C 3 dX6_copies_49 rfl rfl ?_
              refine q_iadd C dX6_copies_50 ?_
              refine q_aload_n C 0 dX6_copies_51 rfl rfl ?_
              refine q_getr C (b := 23) 10 rfl (by decide) rfl in_X6 (by decide) fl_X6_30 rfl dX6_copies_52 ?_
              refine q_bipush C dX6_copies_55 (by decide +kernel) ?_
              refine q_iload_n C 1 dX6_copies_57 rfl rfl ?_
              refine q_imul C dX6_copies_58 ?_
              refine q_iload_n C 3 dX6_copies_59 rfl rfl ?_
              refine q_iadd C dX6_copies_60 ?_
              refine q_iald C (b := 30) (n := 96) 0 19 rfl (by decide) (by decide) (by omega) (fun _ => rfl) dX6_copies_61 (fun v61 e61 l61 u61 => ?_)
              refine q_iast C (b := 30) (n := 96) rfl (by decide) (by decide) (by omega)  (show 0 ≤ _ ∧ _ ≤ 19 from (by omega)) dX6_copies_62 ?_
              refine q_iinc C dX6_copies_63 rfl (by decide) (fun v63 e63 => ?_)
              refine q_goto C 35 dX6_copies_66 (by decide) ?_
              refine q_loc [(0, .ref (ω.1 23)), (1, .int (iI f)), (2, .int (iI t)), (3, .int (iI v63))] ⟨rfl, rfl, rfl, rfl, trivial⟩ ?_
              exact ihB v63 _ (by omega) (by omega) ⟨fun j a c => by by_cases e : j = k; (· rw [e, qUp_s, e61, hJ.2.1 _ (by omega)]); (· rw [qUp_j (by omega)]; exact hJ.1 j a (by omega)), fun j hj => by rw [qUp_j (by omega)]; exact hJ.2.1 j hj, by rw [qUp_row (by decide)]; exact hJ.2.2.1, fun i hi hi2 => by rw [qUp_row hi2]; exact hJ.2.2.2 i hi hi2⟩
        refine q_loc [(0, .ref (ω.1 23)), (1, .int (iI f)), (2, .int (iI t)), (3, .int (iI v34))] ⟨rfl, rfl, rfl, rfl, trivial⟩ ?_
        exact loopB ((16 - v34).toNat + 1) v34 _ (by omega) (by omega) ⟨fun j a c => by exfalso; omega, fun j hj => by rw [hI.2.2 30 (by decide)], rfl, fun i hi hi2 => hI.2.2 i hi⟩
      · refine q_aload_n C 0 dX6_copies_7 rfl rfl ?_
        refine q_getr C (b := 23) 9 rfl (by decide) rfl in_X6 (by decide) fl_X6_27 rfl dX6_copies_8 ?_
        refine q_iconst C dX6_copies_11 ?_
        refine q_iload_n C 2 dX6_copies_12 rfl rfl ?_
        refine q_imul C dX6_copies_13 ?_
        refine q_iload_n C 3 dX6_copies_14 rfl rfl ?_
        refine q_iadd C dX6_copies_15 ?_
        refine q_aload_n C 0 dX6_copies_16 rfl rfl ?_
        refine q_getr C (b := 23) 9 rfl (by decide) rfl in_X6 (by decide) fl_X6_27 rfl dX6_copies_17 ?_
        refine q_iconst C dX6_copies_20 ?_
        refine q_iload_n C 1 dX6_copies_21 rfl rfl ?_
        refine q_imul C dX6_copies_22 ?_
        refine q_iload_n C 3 dX6_copies_23 rfl rfl ?_
        refine q_iadd C dX6_copies_24 ?_
        refine q_iald C (b := 29) (n := 24) 0 4 rfl (by decide) (by decide) (by omega) (fun _ => rfl) dX6_copies_25 (fun v25 e25 l25 u25 => ?_)
        refine q_iast C (b := 29) (n := 24) rfl (by decide) (by decide) (by omega)  (show 0 ≤ _ ∧ _ ≤ 4 from (by omega)) dX6_copies_26 ?_
        refine q_iinc C dX6_copies_27 rfl (by decide) (fun v27 e27 => ?_)
        refine q_goto C 2 dX6_copies_30 (by decide) ?_
        refine q_loc [(0, .ref (ω.1 23)), (1, .int (iI f)), (2, .int (iI t)), (3, .int (iI v27))] ⟨rfl, rfl, rfl, rfl, trivial⟩ ?_
        exact ihA v27 _ (by omega) (by omega) ⟨fun j a c => by by_cases e : j = k; (· rw [e, qUp_s, e25, hI.2.1 _ (by omega)]); (· rw [qUp_j (by omega)]; exact hI.1 j a (by omega)), fun j hj => by rw [qUp_j (by omega)]; exact hI.2.1 j hj, fun i hi => by rw [qUp_row hi]; exact hI.2.2 i hi⟩
  refine q_loc [(0, .ref (ω.1 23)), (1, .int (iI f)), (2, .int (iI t)), (3, .int (iI v1))] ⟨rfl, rfl, rfl, rfl, trivial⟩ ?_
  exact loopA ((4 - v1).toNat + 1) v1 _ (by omega) (by omega) ⟨fun j a c => by exfalso; omega, fun _ _ => rfl, fun _ _ => rfl⟩
set_option maxRecDepth 20000 in
theorem KX6_canMove (g : qHp) (y : Int) (hy : -2147483648 ≤ y ∧ y < 2147483648) (b : Int) (hb : -2147483648 ≤ b ∧ b < 2147483648) (s : Int) (hs : -2147483648 ≤ s ∧ s < 2147483648) (hy2 : 0 ≤ y ∧ y < 6) (o : yK g y) (hs2 : 0 ≤ s ∧ s < g 23 2) (hin : inS (stM g y) b) (hbx : ∀ x, inS (stM g y) x → x < g 23 4) : qC yX6_canMove (.code yX6_canMove cX6_canMove 4 (some .boolean)) 2 0 (fun ad => [.ref (ad 23), .int (iI y), .int (iI b), .int (iI s)]) g (qPi (fun (r : Int) (g' : qHp) => ((okN g (stM g y) (soS (stM g y) b) s b ∧ r = 1) ∨ (¬ okN g (stM g y) (soS (stM g y) b) s b ∧ r = 0)) ∧ g' = g)) qNo := by
  refine q_meth (by decide +kernel) rfl (fun _ => (Nat.le_of_ble_eq_true rfl)) (fun X ω C => ?_)
  refine q_nm (fun hn => ?_)
  have r23_2 : 0 ≤ g 23 2 ∧ g 23 2 ≤ 4 := hn 23 2
  have CI := can_iff o hs2 hin hbx
  have hb4 : 0 ≤ b ∧ b < 20 := by obtain ⟨u, hu⟩ := hin; exact o.2.2.2.2.1.2.2.1 u b hu
  refine q_loc [(0, .ref (ω.1 23)), (1, .int (iI y)), (2, .int (iI b)), (3, .int (iI s))] ⟨rfl, rfl, rfl, rfl, trivial⟩ ?_
  refine q_aload_n C 0 dX6_canMove_0 rfl rfl ?_
  refine q_iload_n C 1 dX6_canMove_1 rfl rfl ?_
  refine q_iload_n C 2 dX6_canMove_2 rfl rfl ?_
  refine q_Vf0 C (KX6_isTop _ _ (by omega) _ (by omega) hy2 _ o hin) mX6_isTop ml_X6_69 dX6_canMove_3 (by decide) (by decide) rfl rfl rfl (Nat.le_of_ble_eq_true rfl) rfl (by decide) rfl rfl (fun v3 l3 u3 h3 => ?_)
  refine q_ifeq C 46 dX6_canMove_6 (by decide) (by omega) (fun c6 => ?_) (fun c6 => ?_)
  · refine q_iconst C dX6_canMove_46 ?_
    refine q_iretZ C dX6_canMove_47 (by omega) (by decide) ⟨Or.inr ⟨fun q => ?_, rfl⟩, rfl⟩
    obtain ⟨c1, c2, c3, c4⟩ := CI.mp q
    rcases h3 with ⟨z1, z2⟩ | ⟨z1, z2⟩
    · omega
    · exact z1 c1
  · have t3 : (stM g y (soS (stM g y) b)).head? = some b := by rcases h3 with ⟨z1, -⟩ | ⟨-, z2⟩; (· exact z1); (· omega)
    refine q_aload_n C 0 dX6_canMove_9 rfl rfl ?_
    refine q_iload_n C 2 dX6_canMove_10 rfl rfl ?_
    refine q_Vf0 C (KX6_isPinned _ _ (by omega) hb4) mX6_isPinned ml_X6_73 dX6_canMove_11 (by decide) (by decide) rfl rfl rfl (Nat.le_of_ble_eq_true rfl) rfl (by decide) rfl rfl (fun v11 l11 u11 h11 => ?_)
    refine q_ifne C 46 dX6_canMove_14 (by decide) (by omega) (fun c14 => ?_) (fun c14 => ?_)
    · refine q_iconst C dX6_canMove_46 ?_
      refine q_iretZ C dX6_canMove_47 (by omega) (by decide) ⟨Or.inr ⟨fun q => ?_, rfl⟩, rfl⟩
      obtain ⟨c1, c2, c3, c4⟩ := CI.mp q
      omega
    · have t11 : g 27 b ≠ 112 := by omega
      refine q_aload_n C 0 dX6_canMove_17 rfl rfl ?_
      refine q_iload_n C 1 dX6_canMove_18 rfl rfl ?_
      refine q_iload_n C 2 dX6_canMove_19 rfl rfl ?_
      refine q_Vf0 C (KX6_placeOf _ _ (by omega) _ (by omega) hy2 o.2.2.1) mX6_placeOf ml_X6_62 dX6_canMove_20 (by decide) (by decide) rfl rfl rfl (Nat.le_of_ble_eq_true rfl) rfl (by decide) rfl rfl (fun v20 l20 u20 h20 => ?_)
      refine q_iload_n C 3 dX6_canMove_23 rfl rfl ?_
      refine q_icmp_eq C 46 dX6_canMove_24 (by decide) (by omega) (by omega) (fun c24 => ?_) (fun c24 => ?_)
      · refine q_iconst C dX6_canMove_46 ?_
        refine q_iretZ C dX6_canMove_47 (by omega) (by decide) ⟨Or.inr ⟨fun q => ?_, rfl⟩, rfl⟩
        obtain ⟨c1, c2, c3, c4⟩ := CI.mp q
        omega
      · have t20 : soS (stM g y) b ≠ s := by omega
        refine q_aload_n C 0 dX6_canMove_27 rfl rfl ?_
        refine q_iload_n C 1 dX6_canMove_28 rfl rfl ?_
        refine q_iload_n C 3 dX6_canMove_29 rfl rfl ?_
        refine q_aload_n C 0 dX6_canMove_30 rfl rfl ?_
        refine q_getr C (b := 23) 5 rfl (by decide) rfl in_X6 (by decide) fl_X6_13 rfl dX6_canMove_31 ?_
        refine q_iload_n C 2 dX6_canMove_34 rfl rfl ?_
        refine q_iald C (b := 25) (n := 20) 0 30 rfl (by decide) (by decide) (by omega) (fun _ => rfl) dX6_canMove_35 (fun v35 e35 l35 u35 => ?_)
        refine q_Vf0 C (KX6_takes _ _ (by omega) _ (by omega) _ (by omega) hy2 (by omega)) mX6_takes ml_X6_77 dX6_canMove_36 (by decide) (by decide) rfl rfl rfl (Nat.le_of_ble_eq_true rfl) rfl (by decide) rfl rfl (fun v36 l36 u36 h36 => ?_)
        refine q_ifeq C 46 dX6_canMove_39 (by decide) (by omega) (fun c39 => ?_) (fun c39 => ?_)
        · refine q_iconst C dX6_canMove_46 ?_
          refine q_iretZ C dX6_canMove_47 (by omega) (by decide) ⟨Or.inr ⟨fun q => ?_, rfl⟩, rfl⟩
          obtain ⟨c1, c2, c3, c4⟩ := CI.mp q
          rw [e35] at h36
          rcases h36 with ⟨z1, z2⟩ | ⟨z1, z2⟩
          · omega
          · exact z1 c4
        · rw [e35] at h36
          have t36 := (show _ ∧ _ by rcases h36 with ⟨z1, -⟩ | ⟨-, z2⟩; (· exact z1); (· omega) : hM g y s < g 24 s ∧ ∀ x, (stM g y s).head? = some x → g 25 b ≤ g 25 x)
          refine q_iconst C dX6_canMove_42 ?_
          refine q_goto C 47 dX6_canMove_43 (by decide) ?_
          exact q_iretZ C dX6_canMove_47 (by omega) (by decide) ⟨Or.inl ⟨CI.mpr ⟨t3, t11, t20, t36⟩, rfl⟩, rfl⟩
