/-! Planner: laying out, adding the next ones, the search -/
theorem cons_at {L PP RR : List Int} (h : L = PP ++ RR) (hl : PP.length < L.length) : ∃ m R, RR = m :: R ∧ L[PP.length]? = some m ∧ L = (PP ++ [m]) ++ R := by
  cases RR with
  | nil =>
    rw [h, List.append_nil] at hl
    omega
  | cons m R =>
    refine ⟨m, R, rfl, ?_, by rw [h]; simp⟩
    rw [h]
    simp
theorem key_big {nd : Int} {L : List Int} (hd : digs L) (hl : L.length ≤ 4) (hn : 0 ≤ nd ∧ nd ≤ 10) : 0 ≤ keyN nd L ∧ keyN nd L ≤ 1099511627775 := by
  have h := key_rng hd hl
  unfold keyN
  omega
set_option maxRecDepth 20000 in
theorem KX3_layOut (g : qHp) (B : Int) (hB : -9223372036854775808 ≤ B ∧ B < 9223372036854775808) (hyo : yOK (g 5 5) (g 6) (g 7) (g 8) (g 9)) (b nd : Int) (L : List Int) (z : St) (hB2 : B = keyN nd L) (hd : digs L) (hl : L.length ≤ 4) (hnd : 0 ≤ nd ∧ nd ≤ 5) (hrun : runR (g 5 5) (cut4 (g 6)) (cGet (g 1 3) (g 2) 0) (pinB g) b L (stOf (g 7) (g 8)) z) : qC yX3_layOut (.code yX3_layOut cX3_layOut 5 none) 3 0 (fun ad => [.ref (ad 15), .long (lI B)]) g (qPv (fun g' : qHp => triA g g' z)) qNo := by
  refine q_meth (by decide +kernel) rfl (fun _ => (Nat.le_of_ble_eq_true rfl)) (fun X ω C => ?_)
  have hr := key_big (nd := nd) hd hl (by omega)
  have hk := key_need (nd := nd) hd hl
  rw [← hB2] at hr hk
  refine q_loc [(0, .ref (ω.1 15)), (1, .long (lI B))] ⟨rfl, rfl, trivial⟩ ?_
  refine q_aload_n C 0 dX3_layOut_0 rfl rfl ?_
  refine q_getr C (b := 15) 1 rfl (by decide) rfl in_X3 (by decide) fl_X3_22 rfl dX3_layOut_1 ?_
  refine q_aload_n C 0 dX3_layOut_4 rfl rfl ?_
  refine q_getr C (b := 15) 0 rfl (by decide) rfl in_X3 (by decide) fl_X3_18 rfl dX3_layOut_5 ?_
  refine q_Vv0 C (KX4_copyFrom _) mX4_copyFrom ml_X3_72 dX3_layOut_8 (by decide) (by decide) rfl rfl rfl (Nat.le_of_ble_eq_true rfl) rfl (by decide) rfl rfl ?_
  refine q_iconst C dX3_layOut_11 ?_
  refine q_istoreV_n C 3 dX3_layOut_12 rfl (by decide) (fun v12 e12 => ?_)
  have loop : ∀ (n : Nat) (i : Int) (g1 : qHp) (PP : List Int) (RR : List Int) (y : St), (((L.length : Int) - i) < (n : Int)) → (0 ≤ i ∧ i = PP.length ∧ PP.length ≤ L.length) → (L = PP ++ RR ∧ runR (g 5 5) (cut4 (g 6)) (cGet (g 1 3) (g 2) 0) (pinB g) b RR y z ∧ triA g g1 y) → qT X ω 5 0 (qEnd X ω (qPv (fun g' : qHp => triA g g' z)) qNo 0) g1 13 [(0, .ref (ω.1 15)), (1, .long (lI B)), (3, .int (iI i))] [] := by
    intro n
    induction n with
    | zero => intro i g1 PP RR y hm hi hI; exfalso; omega
    | succ n ih =>
      intro i g1 PP RR y hm hi hI
      refine q_iload_n C 3 dX3_layOut_13 rfl rfl ?_
      refine q_lload_n C 1 dX3_layOut_14 rfl rfl ?_
      refine q_Sf0 C (KX3_lengthOf _ _ (by omega) (by omega)) mX3_lengthOf ml_X3_54 dX3_layOut_15 (by decide) (by decide) rfl rfl rfl (Nat.le_of_ble_eq_true rfl) (fun v15 l15 u15 h15 => ?_)
      refine q_icmp_ge C 56 dX3_layOut_18 (by decide) (by omega) (by omega) (fun c18 => ?_) (fun c18 => ?_)
      · obtain ⟨hL, hr1, T⟩ := hI
        have hz : RR = [] := by
          have e := congrArg List.length hL
          rw [List.length_append] at e
          exact List.length_eq_zero_iff.mp (by omega)
        subst hz
        have hr1 : y = z := hr1
        subst hr1
        exact q_retV C dX3_layOut_56 (by decide) T
      · refine q_lload_n C 1 dX3_layOut_21 rfl rfl ?_
        refine q_iload_n C 3 dX3_layOut_22 rfl rfl ?_
        refine q_Sf0 C (KX3_moveOf _ _ (by omega) _ (by omega) (by omega) (by omega)) mX3_moveOf ml_X3_68 dX3_layOut_23 (by decide) (by decide) rfl rfl rfl (Nat.le_of_ble_eq_true rfl) (fun v23 l23 u23 h23 => ?_)
        obtain ⟨hL, hr1, T⟩ := hI
        obtain ⟨m, R2, hR, hat, hL2⟩ := cons_at hL (by omega)
        subst hR
        obtain ⟨a', ⟨s, t, x, hmv, hxb, o, rfl⟩, hr2⟩ := hr1
        have hkm := key_move (nd := nd) hd hl hnd.1 hat
        rw [← hB2, ← hi.2.1, ← h23] at hkm
        have S := sh10_tri T o
        have ho := o
        obtain ⟨o1, o2, o3, o4, -⟩ := ho
        have hc4 := hyo.1
        have hv23 : 0 ≤ v23 ∧ v23 < 80 := by have := S.2.2.2.1; omega
        refine q_istoreV C dX3_layOut_26 (by decide) (fun v26 e26 => ?_)
        refine q_aload_n C 0 dX3_layOut_28 rfl rfl ?_
        refine q_getr C (b := 15) 1 rfl (by decide) rfl in_X3 (by decide) fl_X3_22 rfl dX3_layOut_29 ?_
        refine q_aload_n C 0 dX3_layOut_32 rfl rfl ?_
        refine q_getr C (b := 15) 1 rfl (by decide) rfl in_X3 (by decide) fl_X3_22 rfl dX3_layOut_33 ?_
        refine q_iload C dX3_layOut_36 rfl ?_
        refine q_iconst C dX3_layOut_38 ?_
        have hx4 : v26 / 4 = x := by omega
        have ht4 : v26 % 4 = t := by omega
        refine q_ishr C dX3_layOut_39 _ (qb_ishr 2 4 (by decide) (by decide +kernel) (by omega) (by omega)) ?_
        refine q_Vf0 C (KX4_stackWith_10 _ _ (by omega)) mX4_stackWith ml_X3_95 dX3_layOut_40 (by decide) (by decide) rfl rfl rfl (Nat.le_of_ble_eq_true rfl) rfl (by decide) rfl rfl (fun v40 l40 u40 h40 => ?_)
        have hs40 : v40 = s := by
          rw [h40, hx4]
          unfold ySt
          rw [if_pos S.2.2.2.1]
          exact S.2.2.1
        refine q_iload C dX3_layOut_43 rfl ?_
        refine q_iconst C dX3_layOut_45 ?_
        refine q_iand C dX3_layOut_46 _ (qb_and 2 4 (by decide) (by decide) (by decide +kernel) (by omega)) ?_
        refine q_Vv0 C (KX4_shift_10 _ _ (by omega) _ (by omega) (by rw [hs40, ht4]; exact S.1) (by rw [ht4]; exact S.2.1)) mX4_shift ml_X3_91 dX3_layOut_47 (by decide) (by decide) rfl rfl rfl (Nat.le_of_ble_eq_true rfl) rfl (by decide) rfl rfl ?_
        refine q_iinc C dX3_layOut_50 rfl (by decide) (fun v50 e50 => ?_)
        refine q_goto C 13 dX3_layOut_53 (by decide) ?_
        refine q_loc [(0, .ref (ω.1 15)), (1, .long (lI B)), (3, .int (iI v50))] ⟨rfl, rfl, rfl, trivial⟩ ?_
        exact ih v50 _ (PP ++ [m]) R2 _ (by omega) (by have e := congrArg List.length hL2; rw [List.length_append] at e; rw [List.length_append] at e ⊢; simp only [List.length_cons, List.length_nil] at e ⊢; omega) ⟨hL2, hr2, by rw [hs40, ht4]; exact S.2.2.2.2⟩
  refine q_loc [(0, .ref (ω.1 15)), (1, .long (lI B)), (3, .int (iI v12))] ⟨rfl, rfl, rfl, trivial⟩ ?_
  exact loop (((L.length : Int) - v12).toNat + 1) v12 _ [] L _ (by omega) (by simp; omega) ⟨rfl, hrun, cp10_tri hyo⟩
set_option maxRecDepth 20000 in
theorem KX3_addNextMoves (g : qHp) (B : Int) (hB : -9223372036854775808 ≤ B ∧ B < 9223372036854775808) (b : Int) (hb : -2147483648 ≤ b ∧ b < 2147483648) (lim : Int) (hlim : -2147483648 ≤ lim ∧ lim < 2147483648) (L : List Int) (n : Nat) (P : addP g b lim B L n) : qC yX3_addNextMoves (.code yX3_addNextMoves cX3_addNextMoves 10 none) 3 0 (fun ad => [.ref (ad 15), .long (lI B), .int (iI b), .int (iI lim)]) g (qPv (fun g' : qHp => addQ g g' b lim B L)) qNo := by
  refine q_meth (by decide +kernel) rfl (fun _ => (Nat.le_of_ble_eq_true rfl)) (fun X ω C => ?_)
  obtain ⟨z1, z2, z3, z4, z5, z6⟩ := add_L P
  obtain ⟨m1, m2, m3⟩ := add_hm P
  have hc4 := P.1.1
  have hb2 := P.2.1
  have hn3 := P.2.2.2.2.2.1
  have he := P.2.2.2.2.2.2.1
  have hlm := P.2.2.2.2.2.2.2.1
  refine q_loc [(0, .ref (ω.1 15)), (1, .long (lI B)), (3, .int (iI b)), (4, .int (iI lim))] ⟨rfl, rfl, rfl, rfl, trivial⟩ ?_
  refine q_aload_n C 0 dX3_addNextMoves_0 rfl rfl ?_
  refine q_getr C (b := 15) 1 rfl (by decide) rfl in_X3 (by decide) fl_X3_22 rfl dX3_addNextMoves_1 ?_
  refine q_iload_n C 3 dX3_addNextMoves_4 rfl rfl ?_
  refine q_Vf0 C (KX4_stackWith_10 _ _ (by omega)) mX4_stackWith ml_X3_95 dX3_addNextMoves_5 (by decide) (by decide) rfl rfl rfl (Nat.le_of_ble_eq_true rfl) rfl (by decide) rfl rfl (fun v5 l5 u5 h5 => ?_)
  refine q_istoreV C dX3_addNextMoves_8 (by decide) (fun v8 e8 => ?_)
  refine q_iconst C dX3_addNextMoves_10 ?_
  refine q_istoreV C dX3_addNextMoves_11 (by decide) (fun v11 e11 => ?_)
  have q8 : v8 = g 14 b := by
    rw [e8, h5]
    unfold ySt
    rw [if_pos hb2]
  have loopA : ∀ (nA : Nat) (f : Int) (g1 : qHp) (CH : List Int), ((g 10 5 - f) < (nA : Int)) → (0 ≤ f ∧ f ≤ g 10 5) → (addI g g1 b lim L n CH f 0) → qT X ω 10 0 (qEnd X ω (qPv (fun g' : qHp => addQ g g' b lim B L)) qNo 0) g1 13 [(0, .ref (ω.1 15)), (1, .long (lI B)), (3, .int (iI b)), (4, .int (iI lim)), (5, .int (iI v8)), (6, .int (iI f))] [] := by
    intro nA
    induction nA with
    | zero => intro f g1 CH hmA hf hI; exfalso; omega
    | succ nA ihA =>
      intro f g1 CH hmA hf hI
      have E : ∀ k, k ≠ 16 → k ≠ 17 → g1 k = g k := hI.2.2.2.1.1
      refine q_iload C dX3_addNextMoves_13 rfl ?_
      refine q_aload_n C 0 dX3_addNextMoves_15 rfl rfl ?_
      refine q_getr C (b := 15) 1 rfl (by decide) rfl in_X3 (by decide) fl_X3_22 rfl dX3_addNextMoves_16 ?_
      refine q_Vf0 C (KX4_stackCount_10 _) mX4_stackCount ml_X3_80 dX3_addNextMoves_19 (by decide) (by decide) rfl rfl rfl (Nat.le_of_ble_eq_true rfl) rfl (by decide) rfl rfl (fun v19 l19 u19 h19 => ?_)
      rw [E 10 (by decide) (by decide)] at h19
      refine q_icmp_ge C 119 dX3_addNextMoves_22 (by decide) (by omega) (by omega) (fun c22 => ?_) (fun c22 => ?_)
      · have q : f = g 10 5 := by omega
        subst q
        exact q_retV C dX3_addNextMoves_119 (by decide) (addI_end P hI)
      · refine q_aload_n C 0 dX3_addNextMoves_25 rfl rfl ?_
        refine q_getr C (b := 15) 1 rfl (by decide) rfl in_X3 (by decide) fl_X3_22 rfl dX3_addNextMoves_26 ?_
        refine q_iload C dX3_addNextMoves_29 rfl ?_
        refine q_Vf0 C (KX4_topOf_10 _ _ (by omega)) mX4_topOf ml_X3_84 dX3_addNextMoves_31 (by decide) (by decide) rfl rfl rfl (Nat.le_of_ble_eq_true rfl) rfl (by decide) rfl rfl (fun v31 l31 u31 h31 => ?_)
        rw [E 10 (by decide) (by decide), E 12 (by decide) (by decide), E 13 (by decide) (by decide)] at h31
        refine q_istoreV C dX3_addNextMoves_34 (by decide) (fun v34 e34 => ?_)
        refine q_iconst C dX3_addNextMoves_36 ?_
        refine q_istoreV C dX3_addNextMoves_37 (by decide) (fun v37 e37 => ?_)
        have loopB : ∀ (nB : Nat) (t : Int) (g2 : qHp) (CI : List Int), ((g 10 5 - t) < (nB : Int)) → (0 ≤ t ∧ t ≤ g 10 5) → (addI g g2 b lim L n CI f t) → qT X ω 10 0 (qEnd X ω (qPv (fun g' : qHp => addQ g g' b lim B L)) qNo 0) g2 39 [(0, .ref (ω.1 15)), (1, .long (lI B)), (3, .int (iI b)), (4, .int (iI lim)), (5, .int (iI v8)), (6, .int (iI f)), (7, .int (iI v34)), (8, .int (iI t))] [] := by
          intro nB
          induction nB with
          | zero => intro t g2 CI hmB ht hJ; exfalso; omega
          | succ nB ihB =>
            intro t g2 CI hmB ht hJ
            have E2 : ∀ k, k ≠ 16 → k ≠ 17 → g2 k = g k := hJ.2.2.2.1.1
            refine q_iload C dX3_addNextMoves_39 rfl ?_
            refine q_aload_n C 0 dX3_addNextMoves_41 rfl rfl ?_
            refine q_getr C (b := 15) 1 rfl (by decide) rfl in_X3 (by decide) fl_X3_22 rfl dX3_addNextMoves_42 ?_
            refine q_Vf0 C (KX4_stackCount_10 _) mX4_stackCount ml_X3_80 dX3_addNextMoves_45 (by decide) (by decide) rfl rfl rfl (Nat.le_of_ble_eq_true rfl) rfl (by decide) rfl rfl (fun v45 l45 u45 h45 => ?_)
            rw [E2 10 (by decide) (by decide)] at h45
            refine q_icmp_ge C 113 dX3_addNextMoves_48 (by decide) (by omega) (by omega) (fun c48 => ?_) (fun c48 => ?_)
            · refine q_iinc C dX3_addNextMoves_113 rfl (by decide) (fun v113 e113 => ?_)
              refine q_goto C 13 dX3_addNextMoves_116 (by decide) ?_
              refine q_loc [(0, .ref (ω.1 15)), (1, .long (lI B)), (3, .int (iI b)), (4, .int (iI lim)), (5, .int (iI v8)), (6, .int (iI v113))] ⟨rfl, rfl, rfl, rfl, rfl, rfl, trivial⟩ ?_
              exact ihA v113 _ _ (by omega) (by omega) (by subst e113; have q : t = g 10 5 := by {omega}; subst q; exact addI_row (by omega) hJ)
            · refine q_lload_n C 1 dX3_addNextMoves_51 rfl rfl ?_
              refine q_Sf0 C (KX3_needOf _ _ (by omega) z5) mX3_needOf ml_X3_50 dX3_addNextMoves_52 (by decide) (by decide) rfl rfl rfl (Nat.le_of_ble_eq_true rfl) (fun v52 l52 u52 h52 => ?_)
              refine q_iload C dX3_addNextMoves_55 rfl ?_
              refine q_iload C dX3_addNextMoves_57 rfl ?_
              refine q_iload C dX3_addNextMoves_59 rfl ?_
              refine q_Sf0 C (KX3_extraNeed _ _ (by omega) _ (by omega) _ (by omega)) mX3_extraNeed ml_X3_98 dX3_addNextMoves_61 (by decide) (by decide) rfl rfl rfl (Nat.le_of_ble_eq_true rfl) (fun v61 l61 u61 h61 => ?_)
              refine q_iadd C dX3_addNextMoves_64 ?_
              refine q_istoreV C dX3_addNextMoves_65 (by decide) (fun v65 e65 => ?_)
              refine q_iload C dX3_addNextMoves_67 rfl ?_
              refine q_iload C dX3_addNextMoves_69 rfl ?_
              refine q_icmp_gt C 107 dX3_addNextMoves_71 (by decide) (by omega) (by omega) (fun c71 => ?_) (fun c71 => ?_)
              · skip
                refine q_iinc C dX3_addNextMoves_107 rfl (by decide) (fun v107 e107 => ?_)
                refine q_goto C 39 dX3_addNextMoves_110 (by decide) ?_
                refine q_loc [(0, .ref (ω.1 15)), (1, .long (lI B)), (3, .int (iI b)), (4, .int (iI lim)), (5, .int (iI v8)), (6, .int (iI f)), (7, .int (iI v34)), (8, .int (iI v107))] ⟨rfl, rfl, rfl, rfl, rfl, rfl, rfl, rfl, trivial⟩ ?_
                exact ihB v107 _ _ (by omega) (by omega) (by subst e107; exact addI_no (by omega) hJ (kid_no (f := f) (t := t) (v := v34) (v2 := v61) (w0 := 45) P (by omega) (by omega) (by rw [← q8]; exact h61) (Or.inl (by omega))))
              · refine q_aload_n C 0 dX3_addNextMoves_74 rfl rfl ?_
                refine q_getr C (b := 15) 1 rfl (by decide) rfl in_X3 (by decide) fl_X3_22 rfl dX3_addNextMoves_75 ?_
                refine q_iload C dX3_addNextMoves_78 rfl ?_
                refine q_iload C dX3_addNextMoves_80 rfl ?_
                refine q_Vf0 C (KX4_reasonAgainst_10 _ _ (by omega) _ (by omega)) mX4_reasonAgainst ml_X3_87 dX3_addNextMoves_82 (by decide) (by decide) rfl rfl rfl (Nat.le_of_ble_eq_true rfl) rfl (by decide) rfl rfl (fun v82 l82 u82 h82 => ?_)
                obtain ⟨h82, -⟩ := h82
                rw [why_K (fun k hk => E2 k (by omega) (by omega)), E2 10 (by decide) (by decide), E2 11 (by decide) (by decide), E2 12 (by decide) (by decide), E2 13 (by decide) (by decide), E2 14 (by decide) (by decide)] at h82
                refine q_bipush C dX3_addNextMoves_85 (by decide +kernel) ?_
                refine q_icmp_ne C 107 dX3_addNextMoves_87 (by decide) (by omega) (by omega) (fun c87 => ?_) (fun c87 => ?_)
                · skip
                  refine q_iinc C dX3_addNextMoves_107 rfl (by decide) (fun v107 e107 => ?_)
                  refine q_goto C 39 dX3_addNextMoves_110 (by decide) ?_
                  refine q_loc [(0, .ref (ω.1 15)), (1, .long (lI B)), (3, .int (iI b)), (4, .int (iI lim)), (5, .int (iI v8)), (6, .int (iI f)), (7, .int (iI v34)), (8, .int (iI v107))] ⟨rfl, rfl, rfl, rfl, rfl, rfl, rfl, rfl, trivial⟩ ?_
                  exact ihB v107 _ _ (by omega) (by omega) (by subst e107; exact addI_no (by omega) hJ (kid_no (f := f) (t := t) (v := v34) (v2 := v61) (w0 := v82) P (by omega) (by omega) (by rw [← q8]; exact h61) (Or.inr ⟨h82, by omega⟩)))
                · rw [c87] at h82
                  obtain ⟨k1, k2, k3⟩ := kid_yes (f := f) (t := t) (v := v34) (v2 := v61) P (by omega) (by omega) (by omega) (by rw [← q8]; exact h61) (by omega) h82
                  have hroom := addI_room (f := f) (t := t) P (by omega) (by omega) hJ (Int.le_trans (wN_pos _ _).1 k3)
                  refine q_aload_n C 0 dX3_addNextMoves_90 rfl rfl ?_
                  refine q_getr C (b := 15) 2 rfl (by decide) rfl in_X3 (by decide) fl_X3_14 rfl dX3_addNextMoves_91 ?_
                  refine q_lload_n C 1 dX3_addNextMoves_94 rfl rfl ?_
                  refine q_iload C dX3_addNextMoves_95 rfl ?_
                  refine q_iload C dX3_addNextMoves_97 rfl ?_
                  refine q_iload C dX3_addNextMoves_99 rfl ?_
                  refine q_Sl0 C (KX3_goneOn _ _ (by omega) _ (by omega) _ (by omega) _ (by omega) z5 (by omega) (by omega) (by omega) (by omega) z6) mX3_goneOn ml_X3_102 dX3_addNextMoves_101 (by decide) (by decide) rfl rfl rfl (Nat.le_of_ble_eq_true rfl) (fun v101 l101 u101 h101 => ?_)
                  have q101 : v101 = keyN ((L.length : Int) + n + v61) (L ++ [4 * v34 + t]) := by
                    have gk := gone_key (L := L) (nd := (L.length : Int) + n) (nd2 := v65) (x := v34) (t := t) P.2.2.2.1 z1
                    rw [← P.2.2.1] at gk
                    rw [h101, gk]
                    congr 1
                    omega
                  have hv101 : 0 ≤ v101 ∧ v101 ≤ 1099511627775 := by
                    rw [q101]
                    refine key_big (fun m hm => ?_) (by rw [List.length_append]; simp only [List.length_cons, List.length_nil]; omega) (by omega)
                    rcases List.mem_append.mp hm with q | q
                    · exact P.2.2.2.1 m q
                    · have : m = 4 * v34 + t := by simpa using q
                      omega
                  refine q_Vw0 C (KX2_add _ _ (by omega) hv101 hroom hJ.1) mX2_add ml_X3_38 dX3_addNextMoves_104 (by decide) (by decide) rfl rfl rfl (Nat.le_of_ble_eq_true rfl) rfl (by decide) rfl rfl (fun g104 h104 => ?_)
                  rw [q101] at h104
                  refine q_iinc C dX3_addNextMoves_107 rfl (by decide) (fun v107 e107 => ?_)
                  refine q_goto C 39 dX3_addNextMoves_110 (by decide) ?_
                  refine q_loc [(0, .ref (ω.1 15)), (1, .long (lI B)), (3, .int (iI b)), (4, .int (iI lim)), (5, .int (iI v8)), (6, .int (iI f)), (7, .int (iI v34)), (8, .int (iI v107))] ⟨rfl, rfl, rfl, rfl, rfl, rfl, rfl, rfl, trivial⟩ ?_
                  exact ihB v107 _ _ (by omega) (by omega) (by subst e107; exact addI_yes P (by omega) hJ k2 k3 h104.1 h104.2.1 h104.2.2.1 h104.2.2.2)
        refine q_loc [(0, .ref (ω.1 15)), (1, .long (lI B)), (3, .int (iI b)), (4, .int (iI lim)), (5, .int (iI v8)), (6, .int (iI f)), (7, .int (iI v34)), (8, .int (iI v37))] ⟨rfl, rfl, rfl, rfl, rfl, rfl, rfl, rfl, trivial⟩ ?_
        exact loopB ((g 10 5 - v37).toNat + 1) v37 _ _ (by omega) (by omega) (by subst e37; exact hI)
  refine q_loc [(0, .ref (ω.1 15)), (1, .long (lI B)), (3, .int (iI b)), (4, .int (iI lim)), (5, .int (iI v8)), (6, .int (iI v11))] ⟨rfl, rfl, rfl, rfl, rfl, rfl, trivial⟩ ?_
  exact loopA ((g 10 5 - v11).toNat + 1) v11 _ [] (by omega) (by omega) (by subst e11; exact addI_0 P)
