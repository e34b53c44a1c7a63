/-! Quaylock: passing hours -/
def psI (g g1 : qHp) : Prop := yOK (g1 5 5) (g1 6) (g1 7) (g1 8) (g1 9) ∧ (∀ k, 23 ≤ k → g1 k = g k) ∧ (g 5 6 = cntY g → g1 5 6 = cntY g1) ∧ bInv (vA g1) (stA g1)
theorem bk_pre {g : qHp} {l h : Int} (o : yOK (g 5 5) (g 6) (g 7) (g 8) (g 9)) (B : bInv (vA g) (stA g)) : (fstB (bkL g l h) (g 18 4) ≠ -1 → (0 ≤ fstB (bkL g l h) (g 18 4) ∧ fstB (bkL g l h) (g 18 4) < g 18 4) ∧ inY g (g 19 (fstB (bkL g l h) (g 18 4)))) ∧ (fstB (bkL g l h) (g 18 4) = -1 ∨ (0 ≤ fstB (bkL g l h) (g 18 4) ∧ fstB (bkL g l h) (g 18 4) < vA g 0 5 ∧ vA g 8 (fstB (bkL g l h) (g 18 4)) = 98)) := by
  rcases fstB_spec (bkL g l h) (g 18 4) with ⟨q, -⟩ | ⟨q1, q2, q3, -⟩
  · exact ⟨fun z => absurd q z, Or.inl q⟩
  · have e22 : g 22 (fstB (bkL g l h) (g 18 4)) = 98 := by
      have q4 : (decide (g 22 (fstB (bkL g l h) (g 18 4)) = 98) && (decide (g 21 (fstB (bkL g l h) (g 18 4)) = l) && decide (g 20 (fstB (bkL g l h) (g 18 4)) = h))) = true := q3
      rw [Bool.and_eq_true] at q4
      exact of_decide_eq_true q4.1
    have e8 : vA g 8 (fstB (bkL g l h) (g 18 4)) = 98 := by
      show cGet (g 18 4) (g 22) 99 (fstB (bkL g l h) (g 18 4)) = 98
      rw [cGet_in ⟨q1, q2⟩, e22]
    have k := B.1 _ q1 q2 e8
    rw [vA_5 ⟨q1, q2⟩] at k
    exact ⟨fun _ => ⟨⟨q1, q2⟩, (inS_so o).mpr k⟩, Or.inr ⟨q1, q2, e8⟩⟩
theorem ps_srv {g g1 g2 : qHp} {l h r : Int} (Q : psI g g1) (C : srvC g1 g2 (fstB (bkL g1 l h) (g1 18 4)) r) : psI g g2 ∧ g2 0 4 = g1 0 4 ∧ (r = 0 ∨ r = 1) := by
  obtain ⟨q1, q2, q3, q4⟩ := Q
  obtain ⟨c1, c2, c3, c4, c5⟩ := C
  have b := srv_b (V := vA g1) q1.1.2 (yOK_cut q1) q1.2.2.2.2.1 q4 (bk_pre q1 q4).2 c1
  exact ⟨⟨c2, fun k hk => by rw [c3 k hk, q2 k hk], fun z => c4 (q3 z), b.1⟩, b.2.2.2.2.2.1, c5⟩
theorem ps_eh {g g1 g2 : qHp} {h : Int} (Q : psI g g1) (e3 : ∀ j, g2 3 j = if (0 ≤ j ∧ j < qUp g1 0 4 h 1 3 ∧ qUp g1 0 4 h 3 j ≠ 45 ∧ qUp g1 0 4 h 4 j = h) then 45 else qUp g1 0 4 h 3 j) (e4 : ∀ j, g2 4 j = if (0 ≤ j ∧ j < qUp g1 0 4 h 1 3 ∧ qUp g1 0 4 h 3 j ≠ 45 ∧ qUp g1 0 4 h 4 j = h) then 0 else qUp g1 0 4 h 4 j) (e : ∀ k, k ≠ 3 → k ≠ 4 → g2 k = qUp g1 0 4 h k) : psI g g2 ∧ vA g2 = ehA (vA g1) h ∧ stA g2 = stA g1 ∧ g2 0 4 = h := by
  obtain ⟨q1, q2, q3, q4⟩ := Q
  have r : ∀ k, k ≠ 0 → qUp g1 0 4 h k = g1 k := fun k hk => qUp_row hk
  rw [r 1 (by decide), r 3 (by decide), r 4 (by decide)] at e3 e4
  have e0 : g2 0 = uI (g1 0) 4 h := by rw [e 0 (by decide) (by decide), qUp_u]
  have ee : ∀ k, k ≠ 0 → k ≠ 3 → k ≠ 4 → g2 k = g1 k := fun k h0 h3 h4 => by rw [e k h3 h4, r k h0]
  obtain ⟨v1, v2⟩ := vA_eh e0 e3 e4 ee
  have B := (bInv_eh (h := h) q4).1
  refine ⟨⟨?_, fun k hk => by rw [ee k (by omega) (by omega) (by omega), q2 k hk], fun z => ?_, by rw [v1, v2]; exact B⟩, v1, v2, by rw [e0, uI_s]⟩
  · rw [ee 5 (by decide) (by decide) (by decide), ee 6 (by decide) (by decide) (by decide), ee 7 (by decide) (by decide) (by decide), ee 8 (by decide) (by decide) (by decide), ee 9 (by decide) (by decide) (by decide)]
    exact q1
  · have := q3 z
    unfold cntY at this ⊢
    rw [ee 5 (by decide) (by decide) (by decide), ee 9 (by decide) (by decide) (by decide)]
    exact this
theorem ln_s {h l r1 r2 : Int} {V V1 V' : qHp} {S S1 S' : St} (h0 : 0 ≤ l) (a : lnA h l.toNat V S r1 V1 S1) (b : srvA V1 S1 (bkAL V1 l h) r2 V' S') : lnA h (l + 1).toNat V S (r1 + r2) V' S' := by
  have e : (l + 1).toNat = l.toNat + 1 := by omega
  have e2 : ((l.toNat : Nat) : Int) = l := by omega
  rw [e]
  exact ⟨V1, S1, r1, r2, a, by rw [e2]; exact b, rfl⟩
theorem ps_s {i r1 r2 : Int} {V V1 V' : qHp} {S S1 S' : St} (h0 : 0 ≤ i) (a : psA i.toNat V S r1 V1 S1) (b : lnA (V1 0 0 + 1) 3 (ehA V1 (V1 0 0 + 1)) S1 r2 V' S') : psA (i + 1).toNat V S (r1 + r2) V' S' := by
  have e : (i + 1).toNat = i.toNat + 1 := by omega
  rw [e]
  exact ⟨V1, S1, r1, r2, a, b, rfl⟩
set_option maxRecDepth 20000 in
theorem KX5_pass (g : qHp) (n : Int) (hn : -2147483648 ≤ n ∧ n < 2147483648) (hyo : yOK (g 5 5) (g 6) (g 7) (g 8) (g 9)) (hB : bInv (vA g) (stA g)) : qC yX5_pass (.code yX5_pass cX5_pass 5 (some .int)) 6 1 (fun ad => [.ref (ad 0), .int (iI n)]) g (qPi (fun (r : Int) (g' : qHp) => (1 ≤ n ∧ n ≤ 24 ∧ n ≤ 999 - g 0 4) ∧ psA n.toNat (vA g) (stA g) r (vA g') (stA g') ∧ psI g g')) (fun (E : String) (g' : qHp) => (E = xIA ∧ ¬ (1 ≤ n ∧ n ≤ 24 ∧ n ≤ 999 - g 0 4)) ∧ g' = g) := by
  refine q_meth (by decide +kernel) rfl (fun _ => (Nat.le_of_ble_eq_true rfl)) (fun X ω C => ?_)
  refine q_nm (fun hn => ?_)
  have r0_4 : 0 ≤ g 0 4 ∧ g 0 4 ≤ 999 := hn 0 4
  refine q_loc [(0, .ref (ω.1 0)), (1, .int (iI n))] ⟨rfl, rfl, trivial⟩ ?_
  refine q_iload_n C 1 dX5_pass_0 rfl rfl ?_
  refine q_iconst C dX5_pass_1 ?_
  refine q_icmp_lt C 23 dX5_pass_2 (by decide) (by omega) (by omega) (fun c2 => ?_) (fun c2 => ?_)
  · exact q_throw C "java/lang/IllegalArgumentException" "the hours are not between 1 and 24, or go beyond 999" rfl (by decide +kernel) tk_IllegalArgumentException ti_IllegalArgumentException (by decide +kernel) ta_IllegalArgumentException tg_IllegalArgumentException dX5_pass_23 dX5_pass_26 dX5_pass_27 dX5_pass_29 dX5_pass_32 (by decide) (Nat.le_of_ble_eq_true rfl) (by decide) ⟨⟨rfl, by omega⟩, rfl⟩
  · refine q_iload_n C 1 dX5_pass_5 rfl rfl ?_
    refine q_bipush C dX5_pass_6 (by decide +kernel) ?_
    refine q_icmp_gt C 23 dX5_pass_8 (by decide) (by omega) (by omega) (fun c8 => ?_) (fun c8 => ?_)
    · exact q_throw C "java/lang/IllegalArgumentException" "the hours are not between 1 and 24, or go beyond 999" rfl (by decide +kernel) tk_IllegalArgumentException ti_IllegalArgumentException (by decide +kernel) ta_IllegalArgumentException tg_IllegalArgumentException dX5_pass_23 dX5_pass_26 dX5_pass_27 dX5_pass_29 dX5_pass_32 (by decide) (Nat.le_of_ble_eq_true rfl) (by decide) ⟨⟨rfl, by omega⟩, rfl⟩
    · refine q_iload_n C 1 dX5_pass_11 rfl rfl ?_
      refine q_sipush C dX5_pass_12 (by decide +kernel) ?_
      refine q_aload_n C 0 dX5_pass_15 rfl rfl ?_
      refine q_geti C (b := 0) 4 4 0 999 rfl (by decide) rfl in_X5 (by decide) fl_X5_124 rfl rfl rfl dX5_pass_16 (fun v16 e16 l16 u16 => ?_)
      refine q_isub C dX5_pass_19 ?_
      refine q_icmp_le C 33 dX5_pass_20 (by decide) (by omega) (by omega) (fun c20 => ?_) (fun c20 => ?_)
      · refine q_iconst C dX5_pass_33 ?_
        refine q_istoreV_n C 2 dX5_pass_34 rfl (by decide) (fun v34 e34 => ?_)
        refine q_iconst C dX5_pass_35 ?_
        refine q_istoreV_n C 3 dX5_pass_36 rfl (by decide) (fun v36 e36 => ?_)
        have loopA : ∀ (nA : Nat) (i : Int) (g1 : qHp) (acc : Int), ((n - i) < (nA : Int)) → (0 ≤ i ∧ i ≤ n) → (psA i.toNat (vA g) (stA g) acc (vA g1) (stA g1) ∧ psI g g1 ∧ g1 0 4 = g 0 4 + i ∧ (0 ≤ acc ∧ acc ≤ 3 * i)) → qT X ω 5 0 (qEnd X ω (qPi (fun (r : Int) (g' : qHp) => (1 ≤ n ∧ n ≤ 24 ∧ n ≤ 999 - g 0 4) ∧ psA n.toNat (vA g) (stA g) r (vA g') (stA g') ∧ psI g g')) (fun (E : String) (g' : qHp) => (E = xIA ∧ ¬ (1 ≤ n ∧ n ≤ 24 ∧ n ≤ 999 - g 0 4)) ∧ g' = g) 1) g1 37 [(0, .ref (ω.1 0)), (1, .int (iI n)), (2, .int (iI acc)), (3, .int (iI i))] [] := by
          intro nA
          induction nA with
          | zero => intro i g1 acc hmA hi hI; exfalso; omega
          | succ nA ihA =>
            intro i g1 acc hmA hi hI
            obtain ⟨hP, hQ, hH, hA⟩ := hI
            refine q_iload_n C 3 dX5_pass_37 rfl rfl ?_
            refine q_iload_n C 1 dX5_pass_38 rfl rfl ?_
            refine q_icmp_ge C 104 dX5_pass_39 (by decide) (by omega) (by omega) (fun c39 => ?_) (fun c39 => ?_)
            · refine q_iload_n C 2 dX5_pass_104 rfl rfl ?_
              have q : i = n := by omega
              subst q
              exact q_iretI C dX5_pass_105 (by omega) (by decide) ⟨by omega, hP, hQ⟩
            · refine q_aload_n C 0 dX5_pass_42 rfl rfl ?_
              refine q_dup C dX5_pass_43 rfl ?_
              refine q_geti C (b := 0) 4 4 0 999 rfl (by decide) rfl in_X5 (by decide) fl_X5_124 rfl rfl rfl dX5_pass_44 (fun v44 e44 l44 u44 => ?_)
              refine q_iconst C dX5_pass_47 ?_
              refine q_iadd C dX5_pass_48 ?_
              refine q_puti C (b := 0) 4 4 0 999 _ rfl (by decide) rfl in_X5 tyX5_ok nmX5 (by decide) fl_X5_124 rfl (by decide +kernel) rfl rfl rfl rfl (by omega) dX5_pass_49 ?_
              refine q_aload_n C 0 dX5_pass_52 rfl rfl ?_
              refine q_getr C (b := 0) 0 rfl (by decide) rfl in_X5 (by decide) fl_X5_15 rfl dX5_pass_53 ?_
              refine q_aload_n C 0 dX5_pass_56 rfl rfl ?_
              refine q_geti C (b := 0) 4 4 0 999 rfl (by decide) rfl in_X5 (by decide) fl_X5_124 rfl rfl rfl dX5_pass_57 (fun v57 e57 l57 u57 => ?_)
              have q57 : v57 = v44 + 1 := by rw [e57, qUp_s]
              refine q_Vw0 C (KX0_endHoldsOf _ _ (by omega)) mX0_endHoldsOf ml_X5_243 dX5_pass_60 (by decide) (by decide) rfl rfl rfl (Nat.le_of_ble_eq_true rfl) rfl (by decide) rfl rfl (fun g60 h60 => ?_)
              rw [q57] at h60
              rw [e44] at h60
              have EH := ps_eh hQ h60.1 h60.2.1 h60.2.2
              refine q_iconst C dX5_pass_63 ?_
              refine q_istoreV C dX5_pass_64 (by decide) (fun v64 e64 => ?_)
              have loopB : ∀ (nB : Nat) (l : Int) (g2 : qHp) (bcc : Int), ((3 - l) < (nB : Int)) → (0 ≤ l ∧ l ≤ 3) → ((∃ r1, lnA (g1 0 4 + 1) l.toNat (ehA (vA g1) (g1 0 4 + 1)) (stA g1) r1 (vA g2) (stA g2) ∧ bcc = acc + r1 ∧ 0 ≤ r1 ∧ r1 ≤ l) ∧ psI g g2 ∧ g2 0 4 = g1 0 4 + 1) → qT X ω 5 0 (qEnd X ω (qPi (fun (r : Int) (g' : qHp) => (1 ≤ n ∧ n ≤ 24 ∧ n ≤ 999 - g 0 4) ∧ psA n.toNat (vA g) (stA g) r (vA g') (stA g') ∧ psI g g')) (fun (E : String) (g' : qHp) => (E = xIA ∧ ¬ (1 ≤ n ∧ n ≤ 24 ∧ n ≤ 999 - g 0 4)) ∧ g' = g) 1) g2 66 [(0, .ref (ω.1 0)), (1, .int (iI n)), (2, .int (iI bcc)), (3, .int (iI i)), (4, .int (iI l))] [] := by
                intro nB
                induction nB with
                | zero => intro l g2 bcc hmB ht hJ; exfalso; omega
                | succ nB ihB =>
                  intro l g2 bcc hmB ht hJ
                  obtain ⟨⟨r1, j1, j2, j3, j4⟩, hQ2, hH2⟩ := hJ
                  refine q_iload C dX5_pass_66 rfl ?_
                  refine q_iconst C dX5_pass_68 ?_
                  refine q_icmp_ge C 98 dX5_pass_69 (by decide) (by omega) (by omega) (fun c69 => ?_) (fun c69 => ?_)
                  · refine q_iinc C dX5_pass_98 rfl (by decide) (fun v98 e98 => ?_)
                    refine q_goto C 37 dX5_pass_101 (by decide) ?_
                    refine q_loc [(0, .ref (ω.1 0)), (1, .int (iI n)), (2, .int (iI bcc)), (3, .int (iI v98))] ⟨rfl, rfl, rfl, rfl, trivial⟩ ?_
                    exact ihA v98 _ bcc (by omega) (by omega) (by subst e98; have q : l = 3 := by {omega}; subst q; exact ⟨by rw [j2]; exact ps_s (by omega) hP j1, hQ2, by omega, by omega, by omega⟩)
                  · refine q_iload_n C 2 dX5_pass_72 rfl rfl ?_
                    refine q_aload_n C 0 dX5_pass_73 rfl rfl ?_
                    refine q_aload_n C 0 dX5_pass_74 rfl rfl ?_
                    refine q_getr C (b := 0) 3 rfl (by decide) rfl in_X5 (by decide) fl_X5_37 rfl dX5_pass_75 ?_
                    refine q_iload C dX5_pass_78 rfl ?_
                    refine q_aload_n C 0 dX5_pass_80 rfl rfl ?_
                    refine q_geti C (b := 0) 4 4 0 999 rfl (by decide) rfl in_X5 (by decide) fl_X5_124 rfl rfl rfl dX5_pass_81 (fun v81 e81 l81 u81 => ?_)
                    refine q_Vf0 C (KX1_bookedAt _ _ (by omega) _ (by omega)) mX1_bookedAt ml_X5_203 dX5_pass_84 (by decide) (by decide) rfl rfl rfl (Nat.le_of_ble_eq_true rfl) rfl (by decide) rfl rfl (fun v84 l84 u84 h84 => ?_)
                    refine q_Vi0 C (KX5_serve _ _ (by omega) hQ2.1 (by rw [h84]; exact (bk_pre hQ2.1 hQ2.2.2.2).1)) mX5_serve ml_X5_246 dX5_pass_87 (by decide) (by decide) rfl rfl rfl (Nat.le_of_ble_eq_true rfl) rfl (by decide) rfl rfl (fun v87 g87 l87 u87 h87 => ?_)
                    have q81 : v81 = g1 0 4 + 1 := by rw [e81, hH2]
                    rw [h84, q81] at h87
                    have PS := ps_srv hQ2 h87
                    have LN := ln_s ht.1 j1 (by rw [bkA_c]; exact h87.1)
                    refine q_iadd C dX5_pass_90 ?_
                    refine q_istoreV_n C 2 dX5_pass_91 rfl (by decide) (fun v91 e91 => ?_)
                    refine q_iinc C dX5_pass_92 rfl (by decide) (fun v92 e92 => ?_)
                    refine q_goto C 66 dX5_pass_95 (by decide) ?_
                    refine q_loc [(0, .ref (ω.1 0)), (1, .int (iI n)), (2, .int (iI v91)), (3, .int (iI i)), (4, .int (iI v92))] ⟨rfl, rfl, rfl, rfl, rfl, trivial⟩ ?_
                    exact ihB v92 _ v91 (by omega) (by omega) (by subst e92; exact ⟨⟨r1 + v87, LN, by omega, by omega, by omega⟩, PS.1, by rw [PS.2.1]; exact hH2⟩)
              refine q_loc [(0, .ref (ω.1 0)), (1, .int (iI n)), (2, .int (iI acc)), (3, .int (iI i)), (4, .int (iI v64))] ⟨rfl, rfl, rfl, rfl, rfl, trivial⟩ ?_
              exact loopB ((3 - v64).toNat + 1) v64 _ acc (by omega) (by omega) (by subst e64; exact ⟨⟨0, ⟨rfl, EH.2.1, EH.2.2.1⟩, by omega, by omega, by omega⟩, EH.1, EH.2.2.2⟩)
        refine q_loc [(0, .ref (ω.1 0)), (1, .int (iI n)), (2, .int (iI v34)), (3, .int (iI v36))] ⟨rfl, rfl, rfl, rfl, trivial⟩ ?_
        exact loopA ((n - v36).toNat + 1) v36 _ v34 (by omega) (by omega) (by subst e36; subst e34; exact ⟨⟨rfl, rfl, rfl⟩, ⟨hyo, fun _ _ => rfl, fun q => q, hB⟩, by omega, by omega, by omega⟩)
      · exact q_throw C "java/lang/IllegalArgumentException" "the hours are not between 1 and 24, or go beyond 999" rfl (by decide +kernel) tk_IllegalArgumentException ti_IllegalArgumentException (by decide +kernel) ta_IllegalArgumentException tg_IllegalArgumentException dX5_pass_23 dX5_pass_26 dX5_pass_27 dX5_pass_29 dX5_pass_32 (by decide) (Nat.le_of_ble_eq_true rfl) (by decide) ⟨⟨rfl, by omega⟩, rfl⟩
