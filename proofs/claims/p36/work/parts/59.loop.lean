/-! the law's loop: behind an operation, an event, the stacks, the end -/
theorem mL_state : qMts yL_state (.code yL_state cL_state 7 (some .long)) cL_state 7 (some .long) 3 := ⟨rfl, qm 757 (by decide +kernel) rfl, qm 756 (by decide +kernel) rfl, qm 15 (by decide +kernel) rfl, (by decide +kernel), (by decide +kernel)⟩
theorem mL_sound : qMts yL_sound (.code yL_sound cL_sound 9 (some .boolean)) cL_sound 9 (some .boolean) 3 := ⟨rfl, qm 767 (by decide +kernel) rfl, qm 766 (by decide +kernel) rfl, qm 15 (by decide +kernel) rfl, (by decide +kernel), (by decide +kernel)⟩
theorem lq_up {V : qHp} {S : St} {R : Int → Int} {g : qHp} {j r : Int} (I : lq V S R g) : lq V S (uI R j r) (qUp g 23 j r) := by
  obtain ⟨⟨o, hc, hc8, hB⟩, rfl, rfl, rfl⟩ := I
  have h : ∀ i, i < 23 → qUp g 23 j r i = g i := fun i hi => qUp_row (by omega)
  have hv : vA (qUp g 23 j r) = vA g := by
    rw [vA_V (qUp g 23 j r), vA_V g, h 0 (by decide), h 5 (by decide), h 1 (by decide), h 18 (by decide), h 6 (by decide), h 2 (by decide), h 3 (by decide), h 4 (by decide), h 19 (by decide), h 20 (by decide), h 21 (by decide), h 22 (by decide)]
  have hs : stA (qUp g 23 j r) = stA g := by
    unfold stA
    rw [h 7 (by decide), h 8 (by decide)]
  have e : cntY (qUp g 23 j r) = cntY g := by
    unfold cntY
    rw [h 9 (by decide)]
  refine ⟨⟨?_, by rw [e, h 5 (by decide)]; exact hc, by rw [e]; exact hc8, by rw [hv, hs]; exact hB⟩, hv, hs, qUp_u _ _ _ _⟩
  rw [h 5 (by decide), h 6 (by decide), h 7 (by decide), h 8 (by decide), h 9 (by decide)]
  exact o
section LAWC
variable {X : qEnv} {ω : qOm} {T : List ExceptionTableEntry} {b L : Nat} {xs : Nat → Int32} {g : qHp} {Q : State → Prop} {V V0 : qHp} {S S0 : St} {R : Int → Int} {c n m e was told : Int} {k kk : Nat}
set_option maxHeartbeats 8000000 in
set_option maxRecDepth 20000 in
theorem law_931 {dn dm m0 : Int} (C : qCx X ω RL cL_law 20 (some .boolean) T 22 35000) (I : lq V S R g) (A0 : aI V0 S0) (K : opK V0 S0 told dn dm V S) (hn' : n = V0 0 4 + dn) (hm' : m = V0 0 5 + dm) (hm0 : V0 0 5 = m0) (hwas : was = stF V0 S0 c m0) (hc : 2 ≤ c ∧ c ≤ 4 ∧ V0 0 3 = c) (he : 0 ≤ e ∧ e < 40) (ht : -2147483648 ≤ told ∧ told < 2147483648) (hR0 : ∀ s, 0 ≤ s → s < c → R s = V0 1 s) (hkk : kk ≤ 34000) (ih : ∀ g2, lq V S R g2 → qT X ω 20 (kk + 560) Q g2 84 (lwB ω b c n m (e + 1)) []) : qT X ω 20 kk Q g 931 (lw931 ω b c n m e was told) [] := by
  refine q_nm (fun hn => ?_)
  have J := lq_J I hn
  have A := K.1
  have J6 := J.2.2.2.2.2.1
  have J7 := J.2.2.2.2.2.2.1
  have J4 := J.2.2.2.1
  have K3 := K.2.1
  have K4 := K.2.2.2.1
  have K5 := K.2.2.2.2.1
  have hR : ∀ s, 0 ≤ s → s < c → R s = V 1 s := fun s a b => by rw [K.2.2.1]; exact hR0 s a b
  have jn949 : ∀ (G949 : qHp), lq V S R G949 → qT X ω 20 (kk + 195) Q G949 949 [(0, .ref b), (1, .ref (ω.1 0)), (2, .int (iI c)), (3, .ref (ω.1 23)), (4, .int (iI n)), (5, .int (iI m)), (6, .int (iI e))] [] := by
    intro G949 I949
    have jn968 : ∀ (G968 : qHp), lq V S R G968 → qT X ω 20 (kk + 435) Q G968 968 [(0, .ref b), (1, .ref (ω.1 0)), (2, .int (iI c)), (3, .ref (ω.1 23)), (4, .int (iI n)), (5, .int (iI m)), (6, .int (iI e))] [] := by
      intro G968 I968
      refine q_iconst C dL_law_968 ?_
      refine q_istoreV C dL_law_969 (by decide) (fun v969 e969 => ?_)
      subst e969
      have loopA : ∀ (nA : Nat) (j : Int) (GA : qHp), ((n - j) < (nA : Int)) → lq V S R GA → (0 ≤ j ∧ j ≤ n) → qT X ω 20 (kk + 435 + 6 * j.toNat) Q GA 971 [(0, .ref b), (1, .ref (ω.1 0)), (2, .int (iI c)), (3, .ref (ω.1 23)), (4, .int (iI n)), (5, .int (iI m)), (6, .int (iI e)), (14, .int (iI j))] [] := by
        intro nA
        induction nA with
        | zero => intro j GA hmA IA hj; exfalso; omega
        | succ nA ihA =>
          intro j GA hmA IA hj
          refine q_iload C dL_law_971 rfl ?_
          refine q_iload C dL_law_973 rfl ?_
          refine q_icmp_ge C 1070 dL_law_975 (by decide) (by omega) (by omega) (fun c975 => ?_) (fun c975 => ?_)
          · refine q_iinc C dL_law_1070 rfl (by decide) (fun v1070 e1070 => ?_)
            subst e1070
            refine q_goto C 84 dL_law_1073 (by decide) ?_
            refine q_loc (lwB ω b c n m (e + 1)) ⟨rfl, rfl, rfl, rfl, rfl, rfl, rfl, trivial⟩ ?_
            refine q_widen (k2 := kk + 560) (by omega) ?_
            exact ih _ IA
          · obtain ⟨B1, B2, B3⟩ := box_at J A j
            refine q_aload_n C 1 dL_law_978 rfl rfl ?_
            refine q_bipush C dL_law_979 (by decide +kernel) ?_
            refine q_iload C dL_law_981 rfl ?_
            refine q_iconst C dL_law_983 ?_
            refine q_iconst C dL_law_984 ?_
            refine q_SHi C (KL_heldUntil _ IA A _ (by omega) _ (by omega) _ (by omega)) mL_call ml_L_110 dL_law_985 (by decide) (by omega) rfl rfl rfl (Nat.le_of_ble_eq_true rfl) (fun v985 g985 l985 u985 h985 => ?_)
            obtain ⟨rfl, q985⟩ := h985
            refine q_istoreV C dL_law_988 (by decide) (fun v988 e988 => ?_)
            subst e988
            refine q_aload_n C 1 dL_law_990 rfl rfl ?_
            refine q_bipush C dL_law_991 (by decide +kernel) ?_
            refine q_iload C dL_law_993 rfl ?_
            refine q_iconst C dL_law_995 ?_
            refine q_iconst C dL_law_996 ?_
            refine q_SHi C (KL_appointmentOf _ q985 A _ (by omega) _ (by omega) _ (by omega)) mL_call ml_L_110 dL_law_997 (by decide) (by omega) rfl rfl rfl (Nat.le_of_ble_eq_true rfl) (fun v997 g997 l997 u997 h997 => ?_)
            obtain ⟨rfl, q997⟩ := h997
            refine q_istoreV C dL_law_1000 (by decide) (fun v1000 e1000 => ?_)
            subst e1000
            refine q_iload C dL_law_1002 rfl ?_
            refine q_iflt C 1016 dL_law_1004 (by decide) (by omega) (fun c1004 => ?_) (fun c1004 => ?_)
            · refine q_iload C dL_law_1016 rfl ?_
              refine q_iflt C 1036 dL_law_1018 (by decide) (by omega) (fun c1018 => ?_) (fun c1018 => ?_)
              · refine q_aload_n C 1 dL_law_1036 rfl rfl ?_
                refine q_iload C dL_law_1037 rfl ?_
                refine q_nm (fun hq1039 => ?_)
                refine q_Vi0 (P := cP_isInYard _ _) C (KX5_isInYard _ _ (by omega)) mX5_isInYard ml_L_150 dL_law_1039 (by decide) (by omega) rfl rfl rfl (Nat.le_of_ble_eq_true rfl) rfl (by decide) rfl rfl (fun v1039 g1039 l1039 u1039 h1039 => ?_)
                obtain ⟨rfl, q1039⟩ := KD_isInYard q997 A hq1039 h1039
                refine q_aload_n C 1 dL_law_1042 rfl rfl ?_
                refine q_iconst C dL_law_1043 ?_
                refine q_iload C dL_law_1044 rfl ?_
                refine q_iconst C dL_law_1046 ?_
                refine q_iconst C dL_law_1047 ?_
                refine q_SHi C (KL_weight _ q1039 A _ (by omega) _ (by omega) _ (by omega)) mL_call ml_L_110 dL_law_1048 (by decide) (by omega) rfl rfl rfl (Nat.le_of_ble_eq_true rfl) (fun v1048 g1048 l1048 u1048 h1048 => ?_)
                obtain ⟨rfl, q1048⟩ := h1048
                refine q_ifle C 1058 dL_law_1051 (by decide) (by omega) (fun c1051 => ?_) (fun c1051 => ?_)
                · refine q_iconst C dL_law_1058 ?_
                  refine q_icmp_eq C 1064 dL_law_1059 (by decide) (by omega) (by omega) (fun c1059 => ?_) (fun c1059 => ?_)
                  · refine q_iinc C dL_law_1064 rfl (by decide) (fun v1064 e1064 => ?_)
                    subst e1064
                    refine q_goto C 971 dL_law_1067 (by decide) ?_
                    refine q_loc [(0, .ref b), (1, .ref (ω.1 0)), (2, .int (iI c)), (3, .ref (ω.1 23)), (4, .int (iI n)), (5, .int (iI m)), (6, .int (iI e)), (14, .int (iI (j + 1)))] ⟨rfl, rfl, rfl, rfl, rfl, rfl, rfl, rfl, trivial⟩ ?_
                    refine q_widen (k2 := kk + 435 + 6 * (j + 1).toNat) (by omega) ?_
                    exact ihA (j + 1) _ (by omega) q1048 (by omega)
                  · exfalso; omega
                · refine q_iconst C dL_law_1054 ?_
                  refine q_goto C 1059 dL_law_1055 (by decide) ?_
                  refine q_icmp_eq C 1064 dL_law_1059 (by decide) (by omega) (by omega) (fun c1059 => ?_) (fun c1059 => ?_)
                  · refine q_iinc C dL_law_1064 rfl (by decide) (fun v1064 e1064 => ?_)
                    subst e1064
                    refine q_goto C 971 dL_law_1067 (by decide) ?_
                    refine q_loc [(0, .ref b), (1, .ref (ω.1 0)), (2, .int (iI c)), (3, .ref (ω.1 23)), (4, .int (iI n)), (5, .int (iI m)), (6, .int (iI e)), (14, .int (iI (j + 1)))] ⟨rfl, rfl, rfl, rfl, rfl, rfl, rfl, rfl, trivial⟩ ?_
                    refine q_widen (k2 := kk + 435 + 6 * (j + 1).toNat) (by omega) ?_
                    exact ihA (j + 1) _ (by omega) q1048 (by omega)
                  · exfalso; omega
              · refine q_aload_n C 1 dL_law_1021 rfl rfl ?_
                refine q_bipush C dL_law_1022 (by decide +kernel) ?_
                refine q_iload C dL_law_1024 rfl ?_
                refine q_iconst C dL_law_1026 ?_
                refine q_iconst C dL_law_1027 ?_
                refine q_SHi C (KL_stateOf _ q997 A _ (by omega) _ (by omega) _ (by omega)) mL_call ml_L_110 dL_law_1028 (by decide) (by omega) rfl rfl rfl (Nat.le_of_ble_eq_true rfl) (fun v1028 g1028 l1028 u1028 h1028 => ?_)
                obtain ⟨rfl, q1028⟩ := h1028
                refine q_bipush C dL_law_1031 (by decide +kernel) ?_
                refine q_icmp_ne C 1062 dL_law_1033 (by decide) (by omega) (by omega) (fun c1033 => ?_) (fun c1033 => ?_)
                · exfalso; omega
                · refine q_aload_n C 1 dL_law_1036 rfl rfl ?_
                  refine q_iload C dL_law_1037 rfl ?_
                  refine q_nm (fun hq1039 => ?_)
                  refine q_Vi0 (P := cP_isInYard _ _) C (KX5_isInYard _ _ (by omega)) mX5_isInYard ml_L_150 dL_law_1039 (by decide) (by omega) rfl rfl rfl (Nat.le_of_ble_eq_true rfl) rfl (by decide) rfl rfl (fun v1039 g1039 l1039 u1039 h1039 => ?_)
                  obtain ⟨rfl, q1039⟩ := KD_isInYard q1028 A hq1039 h1039
                  refine q_aload_n C 1 dL_law_1042 rfl rfl ?_
                  refine q_iconst C dL_law_1043 ?_
                  refine q_iload C dL_law_1044 rfl ?_
                  refine q_iconst C dL_law_1046 ?_
                  refine q_iconst C dL_law_1047 ?_
                  refine q_SHi C (KL_weight _ q1039 A _ (by omega) _ (by omega) _ (by omega)) mL_call ml_L_110 dL_law_1048 (by decide) (by omega) rfl rfl rfl (Nat.le_of_ble_eq_true rfl) (fun v1048 g1048 l1048 u1048 h1048 => ?_)
                  obtain ⟨rfl, q1048⟩ := h1048
                  refine q_ifle C 1058 dL_law_1051 (by decide) (by omega) (fun c1051 => ?_) (fun c1051 => ?_)
                  · refine q_iconst C dL_law_1058 ?_
                    refine q_icmp_eq C 1064 dL_law_1059 (by decide) (by omega) (by omega) (fun c1059 => ?_) (fun c1059 => ?_)
                    · refine q_iinc C dL_law_1064 rfl (by decide) (fun v1064 e1064 => ?_)
                      subst e1064
                      refine q_goto C 971 dL_law_1067 (by decide) ?_
                      refine q_loc [(0, .ref b), (1, .ref (ω.1 0)), (2, .int (iI c)), (3, .ref (ω.1 23)), (4, .int (iI n)), (5, .int (iI m)), (6, .int (iI e)), (14, .int (iI (j + 1)))] ⟨rfl, rfl, rfl, rfl, rfl, rfl, rfl, rfl, trivial⟩ ?_
                      refine q_widen (k2 := kk + 435 + 6 * (j + 1).toNat) (by omega) ?_
                      exact ihA (j + 1) _ (by omega) q1048 (by omega)
                    · exfalso; omega
                  · refine q_iconst C dL_law_1054 ?_
                    refine q_goto C 1059 dL_law_1055 (by decide) ?_
                    refine q_icmp_eq C 1064 dL_law_1059 (by decide) (by omega) (by omega) (fun c1059 => ?_) (fun c1059 => ?_)
                    · refine q_iinc C dL_law_1064 rfl (by decide) (fun v1064 e1064 => ?_)
                      subst e1064
                      refine q_goto C 971 dL_law_1067 (by decide) ?_
                      refine q_loc [(0, .ref b), (1, .ref (ω.1 0)), (2, .int (iI c)), (3, .ref (ω.1 23)), (4, .int (iI n)), (5, .int (iI m)), (6, .int (iI e)), (14, .int (iI (j + 1)))] ⟨rfl, rfl, rfl, rfl, rfl, rfl, rfl, rfl, trivial⟩ ?_
                      refine q_widen (k2 := kk + 435 + 6 * (j + 1).toNat) (by omega) ?_
                      exact ihA (j + 1) _ (by omega) q1048 (by omega)
                    · exfalso; omega
            · refine q_iload C dL_law_1007 rfl ?_
              refine q_aload_n C 1 dL_law_1009 rfl rfl ?_
              refine q_nm (fun hq1010 => ?_)
              refine q_Vi0 (P := cP_now _) C (KX5_now _ ) mX5_now ml_L_124 dL_law_1010 (by decide) (by omega) rfl rfl rfl (Nat.le_of_ble_eq_true rfl) rfl (by decide) rfl rfl (fun v1010 g1010 l1010 u1010 h1010 => ?_)
              obtain ⟨rfl, q1010⟩ := KD_now q997 A hq1010 h1010
              refine q_icmp_le C 1062 dL_law_1013 (by decide) (by omega) (by omega) (fun c1013 => ?_) (fun c1013 => ?_)
              · exfalso; omega
              · refine q_iload C dL_law_1016 rfl ?_
                refine q_iflt C 1036 dL_law_1018 (by decide) (by omega) (fun c1018 => ?_) (fun c1018 => ?_)
                · refine q_aload_n C 1 dL_law_1036 rfl rfl ?_
                  refine q_iload C dL_law_1037 rfl ?_
                  refine q_nm (fun hq1039 => ?_)
                  refine q_Vi0 (P := cP_isInYard _ _) C (KX5_isInYard _ _ (by omega)) mX5_isInYard ml_L_150 dL_law_1039 (by decide) (by omega) rfl rfl rfl (Nat.le_of_ble_eq_true rfl) rfl (by decide) rfl rfl (fun v1039 g1039 l1039 u1039 h1039 => ?_)
                  obtain ⟨rfl, q1039⟩ := KD_isInYard q1010 A hq1039 h1039
                  refine q_aload_n C 1 dL_law_1042 rfl rfl ?_
                  refine q_iconst C dL_law_1043 ?_
                  refine q_iload C dL_law_1044 rfl ?_
                  refine q_iconst C dL_law_1046 ?_
                  refine q_iconst C dL_law_1047 ?_
                  refine q_SHi C (KL_weight _ q1039 A _ (by omega) _ (by omega) _ (by omega)) mL_call ml_L_110 dL_law_1048 (by decide) (by omega) rfl rfl rfl (Nat.le_of_ble_eq_true rfl) (fun v1048 g1048 l1048 u1048 h1048 => ?_)
                  obtain ⟨rfl, q1048⟩ := h1048
                  refine q_ifle C 1058 dL_law_1051 (by decide) (by omega) (fun c1051 => ?_) (fun c1051 => ?_)
                  · refine q_iconst C dL_law_1058 ?_
                    refine q_icmp_eq C 1064 dL_law_1059 (by decide) (by omega) (by omega) (fun c1059 => ?_) (fun c1059 => ?_)
                    · refine q_iinc C dL_law_1064 rfl (by decide) (fun v1064 e1064 => ?_)
                      subst e1064
                      refine q_goto C 971 dL_law_1067 (by decide) ?_
                      refine q_loc [(0, .ref b), (1, .ref (ω.1 0)), (2, .int (iI c)), (3, .ref (ω.1 23)), (4, .int (iI n)), (5, .int (iI m)), (6, .int (iI e)), (14, .int (iI (j + 1)))] ⟨rfl, rfl, rfl, rfl, rfl, rfl, rfl, rfl, trivial⟩ ?_
                      refine q_widen (k2 := kk + 435 + 6 * (j + 1).toNat) (by omega) ?_
                      exact ihA (j + 1) _ (by omega) q1048 (by omega)
                    · exfalso; omega
                  · refine q_iconst C dL_law_1054 ?_
                    refine q_goto C 1059 dL_law_1055 (by decide) ?_
                    refine q_icmp_eq C 1064 dL_law_1059 (by decide) (by omega) (by omega) (fun c1059 => ?_) (fun c1059 => ?_)
                    · refine q_iinc C dL_law_1064 rfl (by decide) (fun v1064 e1064 => ?_)
                      subst e1064
                      refine q_goto C 971 dL_law_1067 (by decide) ?_
                      refine q_loc [(0, .ref b), (1, .ref (ω.1 0)), (2, .int (iI c)), (3, .ref (ω.1 23)), (4, .int (iI n)), (5, .int (iI m)), (6, .int (iI e)), (14, .int (iI (j + 1)))] ⟨rfl, rfl, rfl, rfl, rfl, rfl, rfl, rfl, trivial⟩ ?_
                      refine q_widen (k2 := kk + 435 + 6 * (j + 1).toNat) (by omega) ?_
                      exact ihA (j + 1) _ (by omega) q1048 (by omega)
                    · exfalso; omega
                · refine q_aload_n C 1 dL_law_1021 rfl rfl ?_
                  refine q_bipush C dL_law_1022 (by decide +kernel) ?_
                  refine q_iload C dL_law_1024 rfl ?_
                  refine q_iconst C dL_law_1026 ?_
                  refine q_iconst C dL_law_1027 ?_
                  refine q_SHi C (KL_stateOf _ q1010 A _ (by omega) _ (by omega) _ (by omega)) mL_call ml_L_110 dL_law_1028 (by decide) (by omega) rfl rfl rfl (Nat.le_of_ble_eq_true rfl) (fun v1028 g1028 l1028 u1028 h1028 => ?_)
                  obtain ⟨rfl, q1028⟩ := h1028
                  refine q_bipush C dL_law_1031 (by decide +kernel) ?_
                  refine q_icmp_ne C 1062 dL_law_1033 (by decide) (by omega) (by omega) (fun c1033 => ?_) (fun c1033 => ?_)
                  · exfalso; omega
                  · refine q_aload_n C 1 dL_law_1036 rfl rfl ?_
                    refine q_iload C dL_law_1037 rfl ?_
                    refine q_nm (fun hq1039 => ?_)
                    refine q_Vi0 (P := cP_isInYard _ _) C (KX5_isInYard _ _ (by omega)) mX5_isInYard ml_L_150 dL_law_1039 (by decide) (by omega) rfl rfl rfl (Nat.le_of_ble_eq_true rfl) rfl (by decide) rfl rfl (fun v1039 g1039 l1039 u1039 h1039 => ?_)
                    obtain ⟨rfl, q1039⟩ := KD_isInYard q1028 A hq1039 h1039
                    refine q_aload_n C 1 dL_law_1042 rfl rfl ?_
                    refine q_iconst C dL_law_1043 ?_
                    refine q_iload C dL_law_1044 rfl ?_
                    refine q_iconst C dL_law_1046 ?_
                    refine q_iconst C dL_law_1047 ?_
                    refine q_SHi C (KL_weight _ q1039 A _ (by omega) _ (by omega) _ (by omega)) mL_call ml_L_110 dL_law_1048 (by decide) (by omega) rfl rfl rfl (Nat.le_of_ble_eq_true rfl) (fun v1048 g1048 l1048 u1048 h1048 => ?_)
                    obtain ⟨rfl, q1048⟩ := h1048
                    refine q_ifle C 1058 dL_law_1051 (by decide) (by omega) (fun c1051 => ?_) (fun c1051 => ?_)
                    · refine q_iconst C dL_law_1058 ?_
                      refine q_icmp_eq C 1064 dL_law_1059 (by decide) (by omega) (by omega) (fun c1059 => ?_) (fun c1059 => ?_)
                      · refine q_iinc C dL_law_1064 rfl (by decide) (fun v1064 e1064 => ?_)
                        subst e1064
                        refine q_goto C 971 dL_law_1067 (by decide) ?_
                        refine q_loc [(0, .ref b), (1, .ref (ω.1 0)), (2, .int (iI c)), (3, .ref (ω.1 23)), (4, .int (iI n)), (5, .int (iI m)), (6, .int (iI e)), (14, .int (iI (j + 1)))] ⟨rfl, rfl, rfl, rfl, rfl, rfl, rfl, rfl, trivial⟩ ?_
                        refine q_widen (k2 := kk + 435 + 6 * (j + 1).toNat) (by omega) ?_
                        exact ihA (j + 1) _ (by omega) q1048 (by omega)
                      · exfalso; omega
                    · refine q_iconst C dL_law_1054 ?_
                      refine q_goto C 1059 dL_law_1055 (by decide) ?_
                      refine q_icmp_eq C 1064 dL_law_1059 (by decide) (by omega) (by omega) (fun c1059 => ?_) (fun c1059 => ?_)
                      · refine q_iinc C dL_law_1064 rfl (by decide) (fun v1064 e1064 => ?_)
                        subst e1064
                        refine q_goto C 971 dL_law_1067 (by decide) ?_
                        refine q_loc [(0, .ref b), (1, .ref (ω.1 0)), (2, .int (iI c)), (3, .ref (ω.1 23)), (4, .int (iI n)), (5, .int (iI m)), (6, .int (iI e)), (14, .int (iI (j + 1)))] ⟨rfl, rfl, rfl, rfl, rfl, rfl, rfl, rfl, trivial⟩ ?_
                        refine q_widen (k2 := kk + 435 + 6 * (j + 1).toNat) (by omega) ?_
                        exact ihA (j + 1) _ (by omega) q1048 (by omega)
                      · exfalso; omega
      refine q_loc [(0, .ref b), (1, .ref (ω.1 0)), (2, .int (iI c)), (3, .ref (ω.1 23)), (4, .int (iI n)), (5, .int (iI m)), (6, .int (iI e)), (14, .int (iI (0 : Int)))] ⟨rfl, rfl, rfl, rfl, rfl, rfl, rfl, rfl, trivial⟩ ?_
      refine q_widen (k2 := kk + 435 + 6 * (0 : Int).toNat) (by omega) ?_
      exact loopA ((n - (0 : Int)).toNat + 1) (0 : Int) _ (by omega) I968 (by omega)
    refine q_iload C dL_law_949 rfl ?_
    refine q_iconst C dL_law_951 ?_
    refine q_irem C dL_law_952 (by omega) (by omega) ?_
    refine q_iconst C dL_law_953 ?_
    refine q_icmp_ne C 968 dL_law_954 (by decide) (by omega) (by omega) (fun c954 => ?_) (fun c954 => ?_)
    · refine q_loc [(0, .ref b), (1, .ref (ω.1 0)), (2, .int (iI c)), (3, .ref (ω.1 23)), (4, .int (iI n)), (5, .int (iI m)), (6, .int (iI e))] ⟨rfl, rfl, rfl, rfl, rfl, rfl, rfl, trivial⟩ ?_
      refine q_widen (k2 := kk + 435) (by omega) ?_
      exact jn968 _ I949
    · refine q_aload_n C 1 dL_law_957 rfl rfl ?_
      refine q_iload_n C 2 dL_law_958 rfl rfl ?_
      refine q_aload_n C 3 dL_law_959 rfl rfl ?_
      refine q_callS0 C (KL_sound _ _ (by omega) I949 A (by omega) (by omega) hR) mL_sound ml_L_146 rfl rfl rfl (Nat.le_of_ble_eq_true rfl) dL_law_960 (by decide) (by omega) (fun v960 g960 h960 => ?_) (fun E960 g960 h960 => h960.elim)
      obtain ⟨r960, rfl, l960, rfl, q960⟩ := h960
      refine q_ifne C 968 dL_law_963 (by decide) (by omega) (fun c963 => ?_) (fun c963 => ?_)
      · refine q_loc [(0, .ref b), (1, .ref (ω.1 0)), (2, .int (iI c)), (3, .ref (ω.1 23)), (4, .int (iI n)), (5, .int (iI m)), (6, .int (iI e))] ⟨rfl, rfl, rfl, rfl, rfl, rfl, rfl, trivial⟩ ?_
        refine q_widen (k2 := kk + 435) (by omega) ?_
        exact jn968 _ q960
      · exfalso; omega
  refine q_iload C dL_law_931 rfl ?_
  refine q_ifge C 949 dL_law_933 (by decide) (by omega) (fun c933 => ?_) (fun c933 => ?_)
  · refine q_loc [(0, .ref b), (1, .ref (ω.1 0)), (2, .int (iI c)), (3, .ref (ω.1 23)), (4, .int (iI n)), (5, .int (iI m)), (6, .int (iI e))] ⟨rfl, rfl, rfl, rfl, rfl, rfl, rfl, trivial⟩ ?_
    refine q_widen (k2 := kk + 195) (by omega) ?_
    exact jn949 _ I
  · have hu := K.2.2.2.2.2.2 (by omega)
    refine q_aload_n C 1 dL_law_936 rfl rfl ?_
    refine q_iload_n C 2 dL_law_937 rfl rfl ?_
    refine q_iload C dL_law_938 rfl ?_
    refine q_callS0 C (KL_state _ _ (by omega) _ (by omega) I A (by omega) (by omega)) mL_state ml_L_142 rfl rfl rfl (Nat.le_of_ble_eq_true rfl) dL_law_940 (by decide) (by omega) (fun v940 g940 h940 => ?_) (fun E940 g940 h940 => h940.elim)
    obtain ⟨rfl, q940⟩ := h940
    have es : stF V S c m = was := by
      have h5 := K5
      rw [hu.1] at h5
      rw [hu.1, hu.2, hwas, show m = m0 by omega]
    refine q_lload C dL_law_943 rfl ?_
    rw [es]
    refine q_lcmp_same C dL_law_945 ?_
    refine q_ifne C 966 dL_law_946 (by decide) (by omega) (fun c946 => ?_) (fun c946 => ?_)
    · exfalso; omega
    · refine q_loc [(0, .ref b), (1, .ref (ω.1 0)), (2, .int (iI c)), (3, .ref (ω.1 23)), (4, .int (iI n)), (5, .int (iI m)), (6, .int (iI e))] ⟨rfl, rfl, rfl, rfl, rfl, rfl, rfl, trivial⟩ ?_
      refine q_widen (k2 := kk + 195) (by omega) ?_
      exact jn949 _ q940
set_option maxHeartbeats 8000000 in
set_option maxRecDepth 20000 in
theorem law_1076 (C : qCx X ω RL cL_law 20 (some .boolean) T 22 35000) (I : lq V S R g) (A : aI V S) (hc : 2 ≤ c ∧ c ≤ 4 ∧ V 0 3 = c) (hm0 : V 0 5 = m) (hmv : 0 ≤ V 0 1 ∧ V 0 1 ≤ 2000) (hR : ∀ s, 0 ≤ s → s < c → R s = V 1 s) (hkk : k ≤ 34000) (hend : ∀ g2 ls k2, k2 ≤ 35000 → qT X ω 20 k2 Q g2 1138 ls [.int (iI 1)]) : qT X ω 20 k Q g 1076 (lwB ω b c n m e) [] := by
  refine q_nm (fun hn => ?_)
  have J := lq_J I hn
  have J7 := J.2.2.2.2.2.2.1
  refine q_aload_n C 1 dL_law_1076 rfl rfl ?_
  refine q_iload_n C 2 dL_law_1077 rfl rfl ?_
  refine q_aload_n C 3 dL_law_1078 rfl rfl ?_
  refine q_callS0 C (KL_sound _ _ (by omega) I A (by omega) (by omega) hR) mL_sound ml_L_146 rfl rfl rfl (Nat.le_of_ble_eq_true rfl) dL_law_1079 (by decide) (by omega) (fun v1079 g1079 h1079 => ?_) (fun E1079 g1079 h1079 => h1079.elim)
  obtain ⟨r1079, rfl, l1079, rfl, q1079⟩ := h1079
  refine q_ifeq C 1137 dL_law_1082 (by decide) (by omega) (fun c1082 => ?_) (fun c1082 => ?_)
  · exfalso; omega
  · refine q_aload_n C 1 dL_law_1085 rfl rfl ?_
    refine q_bipush C dL_law_1086 (by decide +kernel) ?_
    refine q_iconst C dL_law_1088 ?_
    refine q_iconst C dL_law_1089 ?_
    refine q_iconst C dL_law_1090 ?_
    refine q_SHi C (KL_pass _ q1079 A _ (by omega) _ (by omega) _ (by omega)) mL_call ml_L_110 dL_law_1091 (by decide) (by omega) rfl rfl rfl (Nat.le_of_ble_eq_true rfl) (fun v1091 g1091 l1091 u1091 h1091 => ?_)
    obtain ⟨V1, S1, k1, r1, s1091, e1091, q1091⟩ := h1091
    refine q_nm (fun hn1091 => ?_)
    have J1 := lq_J q1091 hn1091
    obtain ⟨K, F1, F2, F3⟩ := op_pass J A ⟨by omega, by omega⟩ (by omega) s1091 e1091
    have A1 := K.1
    have K5 := K.2.2.2.2.1
    have F22 : aq22 V1 m = -1001 := by unfold aq22; exact ifP_f (by omega)
    have o1 := out_at J1 (x := -1) (by decide)
    have o2 := out_at J1 (x := 20) (by decide)
    refine q_sipush C dL_law_1094 (by decide +kernel) ?_
    refine q_icmp_ne C 1137 dL_law_1097 (by decide) (by omega) (by omega) (fun c1097 => ?_) (fun c1097 => ?_)
    · exfalso; omega
    · refine q_aload_n C 1 dL_law_1100 rfl rfl ?_
      refine q_bipush C dL_law_1101 (by decide +kernel) ?_
      refine q_iload C dL_law_1103 rfl ?_
      refine q_iconst C dL_law_1105 ?_
      refine q_iconst C dL_law_1106 ?_
      refine q_SHi C (KL_stateOf _ q1091 A1 _ (by omega) _ (by omega) _ (by omega)) mL_call ml_L_110 dL_law_1107 (by decide) (by omega) rfl rfl rfl (Nat.le_of_ble_eq_true rfl) (fun v1107 g1107 l1107 u1107 h1107 => ?_)
      obtain ⟨rfl, q1107⟩ := h1107
      refine q_sipush C dL_law_1110 (by decide +kernel) ?_
      refine q_icmp_ne C 1137 dL_law_1113 (by decide) (by omega) (by omega) (fun c1113 => ?_) (fun c1113 => ?_)
      · exfalso; omega
      · refine q_aload_n C 1 dL_law_1116 rfl rfl ?_
        refine q_iconst C dL_law_1117 ?_
        refine q_nm (fun hq1118 => ?_)
        refine q_Vi0 (P := cP_isInYard _ _) C (KX5_isInYard _ _ (by omega)) mX5_isInYard ml_L_150 dL_law_1118 (by decide) (by omega) rfl rfl rfl (Nat.le_of_ble_eq_true rfl) rfl (by decide) rfl rfl (fun v1118 g1118 l1118 u1118 h1118 => ?_)
        obtain ⟨rfl, q1118⟩ := KD_isInYard q1107 A1 hq1118 h1118
        refine q_ifne C 1137 dL_law_1121 (by decide) (by omega) (fun c1121 => ?_) (fun c1121 => ?_)
        · exfalso; omega
        · refine q_aload_n C 1 dL_law_1124 rfl rfl ?_
          refine q_bipush C dL_law_1125 (by decide +kernel) ?_
          refine q_nm (fun hq1127 => ?_)
          refine q_Vi0 (P := cP_isInYard _ _) C (KX5_isInYard _ _ (by omega)) mX5_isInYard ml_L_150 dL_law_1127 (by decide) (by omega) rfl rfl rfl (Nat.le_of_ble_eq_true rfl) rfl (by decide) rfl rfl (fun v1127 g1127 l1127 u1127 h1127 => ?_)
          obtain ⟨rfl, q1127⟩ := KD_isInYard q1118 A1 hq1127 h1127
          refine q_ifne C 1137 dL_law_1130 (by decide) (by omega) (fun c1130 => ?_) (fun c1130 => ?_)
          · exfalso; omega
          · refine q_iconst C dL_law_1133 ?_
            refine q_goto C 1138 dL_law_1134 (by decide) ?_
            exact hend _ _ _ (by omega)
set_option maxHeartbeats 8000000 in
set_option maxRecDepth 20000 in
theorem law_84 (C : qCx X ω RL cL_law 20 (some .boolean) T 22 35000) (Sc : qSc X ω b L xs) (hL : L ≤ 260) (hend : ∀ g2 ls k2, k2 ≤ 35000 → qT X ω 20 k2 Q g2 1138 ls [.int (iI 1)]) : ∀ (f : Nat) (e n m : Int) (g : qHp) (V : qHp) (S : St), 40 - e < (f : Int) → (0 ≤ e ∧ e ≤ 40) → lq V S R g → aI V S → (2 ≤ c ∧ c ≤ 4 ∧ V 0 3 = c) → V 0 4 = n → V 0 5 = m → (0 ≤ V 0 1 ∧ V 0 1 ≤ 48 * e) → (∀ s, 0 ≤ s → s < c → R s = V 1 s) → qT X ω 20 (500 + 800 * e.toNat) Q g 84 (lwB ω b c n m e) [] := by
  intro f
  induction f with
  | zero =>
    intro e n m g V S h1 h2
    omega
  | succ f ih =>
    intro e n m g V S h1 he I A hc hn4 hm5 hmv hR
    refine q_nm (fun hn => ?_)
    have J := lq_J I hn
    have J6 := J.2.2.2.2.2.1
    have J7 := J.2.2.2.2.2.2.1
    refine q_iload C dL_law_84 rfl ?_
    refine q_bipush C dL_law_86 (by decide +kernel) ?_
    refine q_icmp_ge C 1076 dL_law_88 (by decide) (by omega) (by omega) (fun c88 => ?_) (fun c88 => ?_)
    · exact law_1076 C I A hc hm5 ⟨by omega, by omega⟩ hR (by omega) hend
    · have ih' : ∀ (V' : qHp) (S' : St) (g' : qHp) (n' m' : Int), lq V' S' R g' → aI V' S' → V' 0 3 = c → V' 0 4 = n' → V' 0 5 = m' → (0 ≤ V' 0 1 ∧ V' 0 1 ≤ 48 * (e + 1)) → V' 1 = V 1 → qT X ω 20 (500 + 800 * (e + 1).toNat) Q g' 84 (lwB ω b c n' m' (e + 1)) [] := fun V' S' g' n' m' q1 q2 q3 q4 q5 q6 q7 => ih (e + 1) n' m' g' V' S' (by omega) (by omega) q1 q2 ⟨hc.1, hc.2.1, q3⟩ q4 q5 q6 (fun s a b => by rw [q7]; exact hR s a b)
      have kK : kT X ω Q b c e (stF V S c m) V S R (500 + 800 * e.toNat + 235) := by
        intro V' S' g' told dn dm n' m' q K ht hn' hm'
        have k1 := K.2.1
        have k3 := K.2.2.2.1
        have k4 := K.2.2.2.2.1
        have k5 := K.2.2.2.2.2.1
        refine law_931 C q A K hn' hm' hm5 rfl hc ⟨he.1, by omega⟩ ht hR (by omega) (fun g2 q2 => ?_)
        refine q_widen (k2 := 500 + 800 * (e + 1).toNat) (by omega) ?_
        exact ih' V' S' g2 n' m' q2 K.1 (by omega) (by omega) (by omega) ⟨by omega, by omega⟩ K.2.2.1
      refine q_aload_n C 0 dL_law_91 rfl rfl ?_
      refine q_iconst C dL_law_92 ?_
      refine q_iload C dL_law_93 rfl ?_
      refine q_iadd C dL_law_95 ?_
      refine q_cell C Sc (by omega) (by omega) (Nat.le_of_ble_eq_true rfl) dL_law_96 (by decide) (by omega) (fun z96 a96 b96 => ?_)
      refine q_istoreV C dL_law_99 (by decide) (fun v99 e99 => ?_)
      subst e99
      refine q_iload C dL_law_101 rfl ?_
      refine q_iconst C dL_law_103 ?_
      refine q_ishr C dL_law_104 _ (shI_v _ _) ?_
      refine q_iload C dL_law_105 rfl ?_
      refine q_iconst C dL_law_107 ?_
      refine q_iadd C dL_law_108 ?_
      refine q_lowR C (by omega) (Nat.le_of_ble_eq_true rfl) dL_law_109 (by decide) (by omega) (fun a109 b109 => ?_)
      refine q_istoreV C dL_law_112 (by decide) (fun v112 e112 => ?_)
      subst e112
      refine q_iload C dL_law_114 rfl ?_
      refine q_bipush C dL_law_116 (by decide +kernel) ?_
      refine q_ishr C dL_law_118 _ (shI_v _ _) ?_
      refine q_iload_n C 2 dL_law_119 rfl rfl ?_
      refine q_lowR C (by omega) (Nat.le_of_ble_eq_true rfl) dL_law_120 (by decide) (by omega) (fun a120 b120 => ?_)
      refine q_istoreV C dL_law_123 (by decide) (fun v123 e123 => ?_)
      subst e123
      refine q_iload C dL_law_125 rfl ?_
      refine q_iconst C dL_law_127 ?_
      refine q_icmp_ge C 135 dL_law_128 (by decide) (by omega) (by omega) (fun c128 => ?_) (fun c128 => ?_)
      · refine q_iload C dL_law_135 rfl ?_
        refine q_bipush C dL_law_137 (by decide +kernel) ?_
        refine q_iandR C dL_law_139 (fun a139 b139 => ?_)
        refine q_istoreV C dL_law_140 (by decide) (fun v140 e140 => ?_)
        subst e140
        refine q_aload_n C 1 dL_law_142 rfl rfl ?_
        refine q_iload_n C 2 dL_law_143 rfl rfl ?_
        refine q_iload C dL_law_144 rfl ?_
        refine q_callS0 C (KL_state _ _ (by omega) _ (by omega) I A (by omega) (by omega)) mL_state ml_L_142 rfl rfl rfl (Nat.le_of_ble_eq_true rfl) dL_law_146 (by decide) (by omega) (fun v146 g146 h146 => ?_) (fun E146 g146 h146 => h146.elim)
        obtain ⟨rfl, q146⟩ := h146
        refine q_lstore C dL_law_149 (by decide) ?_
        refine q_iconst C dL_law_151 ?_
        refine q_istoreV C dL_law_152 (by decide) (fun v152 e152 => ?_)
        subst e152
        refine q_iload C dL_law_154 rfl ?_
        refine q_bipush C dL_law_156 (by decide +kernel) ?_
        refine q_icmp_ge C 257 dL_law_158 (by decide) (by omega) (by omega) (fun c158 => ?_) (fun c158 => ?_)
        · refine q_iload C dL_law_257 rfl ?_
          refine q_bipush C dL_law_259 (by decide +kernel) ?_
          refine q_icmp_ge C 370 dL_law_261 (by decide) (by omega) (by omega) (fun c261 => ?_) (fun c261 => ?_)
          · refine q_iload C dL_law_370 rfl ?_
            refine q_bipush C dL_law_372 (by decide +kernel) ?_
            refine q_icmp_ne C 392 dL_law_374 (by decide) (by omega) (by omega) (fun c374 => ?_) (fun c374 => ?_)
            · refine q_iload C dL_law_392 rfl ?_
              refine q_bipush C dL_law_394 (by decide +kernel) ?_
              refine q_icmp_ge C 486 dL_law_396 (by decide) (by omega) (by omega) (fun c396 => ?_) (fun c396 => ?_)
              · refine q_iload C dL_law_486 rfl ?_
                refine q_bipush C dL_law_488 (by decide +kernel) ?_
                refine q_icmp_ge C 693 dL_law_490 (by decide) (by omega) (by omega) (fun c490 => ?_) (fun c490 => ?_)
                · refine q_iload C dL_law_693 rfl ?_
                  refine q_bipush C dL_law_695 (by decide +kernel) ?_
                  refine q_icmp_ge C 855 dL_law_697 (by decide) (by omega) (by omega) (fun c697 => ?_) (fun c697 => ?_)
                  · refine q_iload C dL_law_855 rfl ?_
                    refine q_bipush C dL_law_857 (by decide +kernel) ?_
                    refine q_icmp_ne C 887 dL_law_859 (by decide) (by omega) (by omega) (fun c859 => ?_) (fun c859 => ?_)
                    · refine q_loc (lw154 ω b c n m e _ _ _ _ _) ⟨rfl, rfl, rfl, rfl, rfl, rfl, rfl, rfl, rfl, rfl, rfl, rfl, rfl, trivial⟩ ?_
                      exact br_pass C q146 A ⟨hc, hn4, hm5, ⟨he.1, by omega⟩, hmv⟩ ⟨by omega, by omega⟩ ⟨by omega, by omega⟩ ⟨by omega, by omega⟩ trivial kK (by omega) (by omega)
                    · refine q_loc (lw154 ω b c n m e _ _ _ _ _) ⟨rfl, rfl, rfl, rfl, rfl, rfl, rfl, rfl, rfl, rfl, rfl, rfl, rfl, trivial⟩ ?_
                      exact br_cancel C q146 A ⟨hc, hn4, hm5, ⟨he.1, by omega⟩, hmv⟩ ⟨by omega, by omega⟩ ⟨by omega, by omega⟩ ⟨by omega, by omega⟩ trivial kK (by omega) (by omega)
                  · refine q_loc (lw154 ω b c n m e _ _ _ _ _) ⟨rfl, rfl, rfl, rfl, rfl, rfl, rfl, rfl, rfl, rfl, rfl, rfl, rfl, trivial⟩ ?_
                    exact br_book C q146 A ⟨hc, hn4, hm5, ⟨he.1, by omega⟩, hmv⟩ ⟨by omega, by omega⟩ ⟨by omega, by omega⟩ ⟨by omega, by omega⟩ trivial kK (by omega) (by omega)
                · refine q_loc (lw154 ω b c n m e _ _ _ _ _) ⟨rfl, rfl, rfl, rfl, rfl, rfl, rfl, rfl, rfl, rfl, rfl, rfl, rfl, trivial⟩ ?_
                  exact br_dig C q146 A ⟨hc, hn4, hm5, ⟨he.1, by omega⟩, hmv⟩ ⟨by omega, by omega⟩ ⟨by omega, by omega⟩ ⟨by omega, by omega⟩ trivial kK (by omega) (by omega)
              · refine q_loc (lw154 ω b c n m e _ _ _ _ _) ⟨rfl, rfl, rfl, rfl, rfl, rfl, rfl, rfl, rfl, rfl, rfl, rfl, rfl, trivial⟩ ?_
                exact br_move C q146 A ⟨hc, hn4, hm5, ⟨he.1, by omega⟩, hmv⟩ ⟨by omega, by omega⟩ ⟨by omega, by omega⟩ ⟨by omega, by omega⟩ trivial kK (by omega) (by omega)
            · refine q_loc (lw154 ω b c n m e _ _ _ _ _) ⟨rfl, rfl, rfl, rfl, rfl, rfl, rfl, rfl, rfl, rfl, rfl, rfl, rfl, trivial⟩ ?_
              exact br_release C q146 A ⟨hc, hn4, hm5, ⟨he.1, by omega⟩, hmv⟩ ⟨by omega, by omega⟩ ⟨by omega, by omega⟩ ⟨by omega, by omega⟩ trivial kK (by omega) (by omega)
          · refine q_loc (lw154 ω b c n m e _ _ _ _ _) ⟨rfl, rfl, rfl, rfl, rfl, rfl, rfl, rfl, rfl, rfl, rfl, rfl, rfl, trivial⟩ ?_
            exact br_hold C q146 A ⟨hc, hn4, hm5, ⟨he.1, by omega⟩, hmv⟩ ⟨by omega, by omega⟩ ⟨by omega, by omega⟩ ⟨by omega, by omega⟩ ⟨by omega, by omega⟩ kK (by omega) (by omega)
        · refine q_loc (lw154 ω b c n m e _ _ _ _ _) ⟨rfl, rfl, rfl, rfl, rfl, rfl, rfl, rfl, rfl, rfl, rfl, rfl, rfl, trivial⟩ ?_
          exact br_add C q146 A ⟨hc, hn4, hm5, ⟨he.1, by omega⟩, hmv⟩ ⟨by omega, by omega⟩ ⟨by omega, by omega⟩ ⟨by omega, by omega⟩ trivial kK (by omega) (by omega)
      · refine q_iconst C dL_law_131 ?_
        refine q_goto C 140 dL_law_132 (by decide) ?_
        refine q_istoreV C dL_law_140 (by decide) (fun v140 e140 => ?_)
        subst e140
        refine q_aload_n C 1 dL_law_142 rfl rfl ?_
        refine q_iload_n C 2 dL_law_143 rfl rfl ?_
        refine q_iload C dL_law_144 rfl ?_
        refine q_callS0 C (KL_state _ _ (by omega) _ (by omega) I A (by omega) (by omega)) mL_state ml_L_142 rfl rfl rfl (Nat.le_of_ble_eq_true rfl) dL_law_146 (by decide) (by omega) (fun v146 g146 h146 => ?_) (fun E146 g146 h146 => h146.elim)
        obtain ⟨rfl, q146⟩ := h146
        refine q_lstore C dL_law_149 (by decide) ?_
        refine q_iconst C dL_law_151 ?_
        refine q_istoreV C dL_law_152 (by decide) (fun v152 e152 => ?_)
        subst e152
        refine q_iload C dL_law_154 rfl ?_
        refine q_bipush C dL_law_156 (by decide +kernel) ?_
        refine q_icmp_ge C 257 dL_law_158 (by decide) (by omega) (by omega) (fun c158 => ?_) (fun c158 => ?_)
        · refine q_iload C dL_law_257 rfl ?_
          refine q_bipush C dL_law_259 (by decide +kernel) ?_
          refine q_icmp_ge C 370 dL_law_261 (by decide) (by omega) (by omega) (fun c261 => ?_) (fun c261 => ?_)
          · refine q_iload C dL_law_370 rfl ?_
            refine q_bipush C dL_law_372 (by decide +kernel) ?_
            refine q_icmp_ne C 392 dL_law_374 (by decide) (by omega) (by omega) (fun c374 => ?_) (fun c374 => ?_)
            · refine q_iload C dL_law_392 rfl ?_
              refine q_bipush C dL_law_394 (by decide +kernel) ?_
              refine q_icmp_ge C 486 dL_law_396 (by decide) (by omega) (by omega) (fun c396 => ?_) (fun c396 => ?_)
              · refine q_iload C dL_law_486 rfl ?_
                refine q_bipush C dL_law_488 (by decide +kernel) ?_
                refine q_icmp_ge C 693 dL_law_490 (by decide) (by omega) (by omega) (fun c490 => ?_) (fun c490 => ?_)
                · refine q_iload C dL_law_693 rfl ?_
                  refine q_bipush C dL_law_695 (by decide +kernel) ?_
                  refine q_icmp_ge C 855 dL_law_697 (by decide) (by omega) (by omega) (fun c697 => ?_) (fun c697 => ?_)
                  · refine q_iload C dL_law_855 rfl ?_
                    refine q_bipush C dL_law_857 (by decide +kernel) ?_
                    refine q_icmp_ne C 887 dL_law_859 (by decide) (by omega) (by omega) (fun c859 => ?_) (fun c859 => ?_)
                    · refine q_loc (lw154 ω b c n m e _ _ _ _ _) ⟨rfl, rfl, rfl, rfl, rfl, rfl, rfl, rfl, rfl, rfl, rfl, rfl, rfl, trivial⟩ ?_
                      exact br_pass C q146 A ⟨hc, hn4, hm5, ⟨he.1, by omega⟩, hmv⟩ ⟨by omega, by omega⟩ ⟨by omega, by omega⟩ ⟨by omega, by omega⟩ trivial kK (by omega) (by omega)
                    · refine q_loc (lw154 ω b c n m e _ _ _ _ _) ⟨rfl, rfl, rfl, rfl, rfl, rfl, rfl, rfl, rfl, rfl, rfl, rfl, rfl, trivial⟩ ?_
                      exact br_cancel C q146 A ⟨hc, hn4, hm5, ⟨he.1, by omega⟩, hmv⟩ ⟨by omega, by omega⟩ ⟨by omega, by omega⟩ ⟨by omega, by omega⟩ trivial kK (by omega) (by omega)
                  · refine q_loc (lw154 ω b c n m e _ _ _ _ _) ⟨rfl, rfl, rfl, rfl, rfl, rfl, rfl, rfl, rfl, rfl, rfl, rfl, rfl, trivial⟩ ?_
                    exact br_book C q146 A ⟨hc, hn4, hm5, ⟨he.1, by omega⟩, hmv⟩ ⟨by omega, by omega⟩ ⟨by omega, by omega⟩ ⟨by omega, by omega⟩ trivial kK (by omega) (by omega)
                · refine q_loc (lw154 ω b c n m e _ _ _ _ _) ⟨rfl, rfl, rfl, rfl, rfl, rfl, rfl, rfl, rfl, rfl, rfl, rfl, rfl, trivial⟩ ?_
                  exact br_dig C q146 A ⟨hc, hn4, hm5, ⟨he.1, by omega⟩, hmv⟩ ⟨by omega, by omega⟩ ⟨by omega, by omega⟩ ⟨by omega, by omega⟩ trivial kK (by omega) (by omega)
              · refine q_loc (lw154 ω b c n m e _ _ _ _ _) ⟨rfl, rfl, rfl, rfl, rfl, rfl, rfl, rfl, rfl, rfl, rfl, rfl, rfl, trivial⟩ ?_
                exact br_move C q146 A ⟨hc, hn4, hm5, ⟨he.1, by omega⟩, hmv⟩ ⟨by omega, by omega⟩ ⟨by omega, by omega⟩ ⟨by omega, by omega⟩ trivial kK (by omega) (by omega)
            · refine q_loc (lw154 ω b c n m e _ _ _ _ _) ⟨rfl, rfl, rfl, rfl, rfl, rfl, rfl, rfl, rfl, rfl, rfl, rfl, rfl, trivial⟩ ?_
              exact br_release C q146 A ⟨hc, hn4, hm5, ⟨he.1, by omega⟩, hmv⟩ ⟨by omega, by omega⟩ ⟨by omega, by omega⟩ ⟨by omega, by omega⟩ trivial kK (by omega) (by omega)
          · refine q_loc (lw154 ω b c n m e _ _ _ _ _) ⟨rfl, rfl, rfl, rfl, rfl, rfl, rfl, rfl, rfl, rfl, rfl, rfl, rfl, trivial⟩ ?_
            exact br_hold C q146 A ⟨hc, hn4, hm5, ⟨he.1, by omega⟩, hmv⟩ ⟨by omega, by omega⟩ ⟨by omega, by omega⟩ ⟨by omega, by omega⟩ ⟨by omega, by omega⟩ kK (by omega) (by omega)
        · refine q_loc (lw154 ω b c n m e _ _ _ _ _) ⟨rfl, rfl, rfl, rfl, rfl, rfl, rfl, rfl, rfl, rfl, rfl, rfl, rfl, trivial⟩ ?_
          exact br_add C q146 A ⟨hc, hn4, hm5, ⟨he.1, by omega⟩, hmv⟩ ⟨by omega, by omega⟩ ⟨by omega, by omega⟩ ⟨by omega, by omega⟩ trivial kK (by omega) (by omega)
set_option maxHeartbeats 8000000 in
set_option maxRecDepth 20000 in
theorem law_33 (C : qCx X ω RL cL_law 20 (some .boolean) T 22 35000) (Sc : qSc X ω b L xs) (hL : L ≤ 260) (hc : 2 ≤ c ∧ c ≤ 4) (hend : ∀ g2 ls k2, k2 ≤ 35000 → qT X ω 20 k2 Q g2 1138 ls [.int (iI 1)]) : ∀ (f : Nat) (j : Int) (g : qHp) (V : qHp) (S : St) (R : Int → Int), c - j < (f : Int) → (0 ≤ j ∧ j ≤ c) → lq V S R g → aI V S → V 0 3 = j → V 0 4 = 0 → V 0 5 = 0 → V 0 1 = 0 → (∀ s, 0 ≤ s → s < j → R s = V 1 s) → qT X ω 20 (400 + 2 * j.toNat) Q g 33 [(0, .ref b), (1, .ref (ω.1 0)), (2, .int (iI c)), (3, .ref (ω.1 23)), (4, .int (iI 0)), (5, .int (iI 0)), (6, .int (iI j))] [] := by
  intro f
  induction f with
  | zero =>
    intro j g V S R h1 h2
    omega
  | succ f ih =>
    intro j g V S R h1 hj I A h3 h4 h5 h01 hR
    refine q_nm (fun hn => ?_)
    have J := lq_J I hn
    refine q_iload C dL_law_33 rfl ?_
    refine q_iload_n C 2 dL_law_35 rfl rfl ?_
    refine q_icmp_ge C 81 dL_law_36 (by decide) (by omega) (by omega) (fun c36 => ?_) (fun c36 => ?_)
    · refine q_iconst C dL_law_81 ?_
      refine q_istoreV C dL_law_82 (by decide) (fun v82 e82 => ?_)
      subst e82
      have ej : j = c := by omega
      subst ej
      refine q_loc (lwB ω b j 0 0 0) ⟨rfl, rfl, rfl, rfl, rfl, rfl, rfl, trivial⟩ ?_
      refine q_widen (k2 := 500 + 800 * (0 : Int).toNat) (by omega) ?_
      exact law_84 C Sc hL hend 41 0 0 0 g V S (by decide) (by decide) I A ⟨hc.1, hc.2, h3⟩ h4 h5 ⟨by omega, by omega⟩ hR
    · refine q_aload_n C 3 dL_law_39 rfl rfl ?_
      refine q_iload C dL_law_40 rfl ?_
      refine q_iconst C dL_law_42 ?_
      refine q_aload_n C 0 dL_law_43 rfl rfl ?_
      refine q_iconst C dL_law_44 ?_
      refine q_iload C dL_law_45 rfl ?_
      refine q_iadd C dL_law_47 ?_
      refine q_cell C Sc (by omega) (by omega) (Nat.le_of_ble_eq_true rfl) dL_law_48 (by decide) (by omega) (fun z48 a48 b48 => ?_)
      refine q_iconst C dL_law_51 ?_
      refine q_lowR C (by omega) (Nat.le_of_ble_eq_true rfl) dL_law_52 (by decide) (by omega) (fun a52 b52 => ?_)
      refine q_iadd C dL_law_55 ?_
      refine q_iast C (b := 23) (n := 4) rfl (by decide) (by decide) (by omega) (show 0 ≤ _ ∧ _ ≤ 4 from by omega) dL_law_56 ?_
      have I2 := lq_up (j := j) (r := 1 + lowI z48 4) I
      refine q_aload_n C 1 dL_law_57 rfl rfl ?_
      refine q_iconst C dL_law_58 ?_
      refine q_aload_n C 3 dL_law_59 rfl rfl ?_
      refine q_iload C dL_law_60 rfl ?_
      refine q_iald C (b := 23) (n := 4) 0 4 rfl (by decide) (by decide) (by omega) (fun _ => rfl) dL_law_62 (fun v62 e62 l62 u62 => ?_)
      rw [qUp_s] at e62
      subst e62
      refine q_iconst C dL_law_63 ?_
      refine q_iconst C dL_law_64 ?_
      refine q_SHi C (KL_addStack _ I2 A _ (by omega) _ (by omega) _ (by omega)) mL_call ml_L_110 dL_law_65 (by decide) (by omega) rfl rfl rfl (Nat.le_of_ble_eq_true rfl) (fun v65 g65 l65 u65 h65 => ?_)
      obtain ⟨V1, S1, k1, r1, s65, e65, q65⟩ := h65
      refine q_nm (fun hn65 => ?_)
      have J1 := lq_J q65 hn65
      obtain ⟨F0, A1, F3, F4, F5, F1, F6, F7⟩ := op_addStack J A s65 e65 ⟨by omega, by omega⟩ (by omega)
      refine q_iload C dL_law_68 rfl ?_
      refine q_icmp_eq C 75 dL_law_70 (by decide) (by omega) (by omega) (fun c70 => ?_) (fun c70 => ?_)
      · refine q_iinc C dL_law_75 rfl (by decide) (fun v75 e75 => ?_)
        subst e75
        refine q_goto C 33 dL_law_78 (by decide) ?_
        refine q_loc [(0, .ref b), (1, .ref (ω.1 0)), (2, .int (iI c)), (3, .ref (ω.1 23)), (4, .int (iI 0)), (5, .int (iI 0)), (6, .int (iI (j + 1)))] ⟨rfl, rfl, rfl, rfl, rfl, rfl, rfl, trivial⟩ ?_
        refine q_widen (k2 := 400 + 2 * (j + 1).toNat) (by omega) ?_
        refine ih (j + 1) _ V1 S1 _ (by omega) (by omega) q65 A1 (by omega) (by omega) (by omega) (by omega) (fun s a b => ?_)
        by_cases sj : s = j
        · rw [sj, uI_s, ← h3, F6]
        · rw [uI_n sj, F7 s (by omega)]
          exact hR s a (by omega)
      · exfalso; omega
end LAWC
