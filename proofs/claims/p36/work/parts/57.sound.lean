section SN
variable {V : qHp} {S : St} {R : Int → Int}
set_option maxRecDepth 20000 in
theorem KL_sound (g : qHp) (c : Int) (hc : -2147483648 ≤ c ∧ c < 2147483648) (I : lq V S R g) (A : aI V S) (hc4 : 0 ≤ c ∧ c ≤ 4) (hcV : V 0 3 = c) (hR : ∀ s, 0 ≤ s → s < c → R s = V 1 s) : qC yL_sound (.code yL_sound cL_sound 9 (some .boolean)) 13 240 (fun ad => [.ref (ad 0), .int (iI c), .ref (ad 23)]) g (qPi (fun (r : Int) (g' : qHp) => r = 1 ∧ lq V S R g')) qNo := by
  refine q_meth (by decide +kernel) rfl (fun _ => (Nat.le_of_ble_eq_true rfl)) (fun X ω C => ?_)
  refine q_nm (fun hn => ?_)
  have J := lq_J I hn
  have h6 := aq6_le J
  have hall := all_at J
  refine q_loc [(0, .ref (ω.1 0)), (1, .int (iI c)), (2, .ref (ω.1 23))] ⟨rfl, rfl, rfl, trivial⟩ ?_
  refine q_iconst C dL_sound_0 ?_
  refine q_istoreV_n C 3 dL_sound_1 rfl (by decide) (fun v1 e1 => ?_)
  subst e1
  refine q_iconst C dL_sound_2 ?_
  refine q_istoreV C dL_sound_3 (by decide) (fun v3 e3 => ?_)
  subst e3
  have loopA : ∀ (nA : Nat) (s : Int) (i : Int) (GA : qHp), ((c - s) < (nA : Int)) → lq V S R GA → (0 ≤ s ∧ s ≤ c) → (i = smH S s.toNat ∧ 0 ≤ i ∧ i ≤ 4 * s) → qT X ω 9 (57 * s.toNat) (qEnd X ω (qPi (fun (r : Int) (g' : qHp) => r = 1 ∧ lq V S R g')) qNo 240) GA 5 [(0, .ref (ω.1 0)), (1, .int (iI c)), (2, .ref (ω.1 23)), (3, .int (iI i)), (4, .int (iI s))] [] := by
    intro nA
    induction nA with
    | zero => intro s i GA hmA IA hs hi; exfalso; omega
    | succ nA ihA =>
      intro s i GA hmA IA hs hi
      have h6s := h6 s
      refine q_iload C dL_sound_5 rfl ?_
      refine q_iload_n C 1 dL_sound_7 rfl rfl ?_
      refine q_icmp_ge C 250 dL_sound_8 (by decide) (by omega) (by omega) (fun c8 => ?_) (fun c8 => ?_)
      · refine q_aload_n C 0 dL_sound_250 rfl rfl ?_
        refine q_nm (fun hq251 => ?_)
        refine q_Vi0 (P := cP_boxes _) C (KX5_boxes _ ) mX5_boxes ml_L_131 dL_sound_251 (by decide) (by omega) rfl rfl rfl (Nat.le_of_ble_eq_true rfl) rfl (by decide) rfl rfl (fun v251 g251 l251 u251 h251 => ?_)
        obtain ⟨rfl, q251⟩ := KD_boxes IA A hq251 h251
        have hex : i = nBS S := by rw [hi.1, hall, hcV, show c = s by omega]
        have hn8 := J.2.2.1
        refine q_iload_n C 3 dL_sound_254 rfl rfl ?_
        refine q_icmp_ne C 268 dL_sound_255 (by decide) (by omega) (by omega) (fun c255 => ?_) (fun c255 => ?_)
        · exfalso; omega
        · refine q_iload_n C 3 dL_sound_258 rfl rfl ?_
          refine q_bipush C dL_sound_259 (by decide +kernel) ?_
          refine q_icmp_ge C 268 dL_sound_261 (by decide) (by omega) (by omega) (fun c261 => ?_) (fun c261 => ?_)
          · exfalso; omega
          · refine q_iconst C dL_sound_264 ?_
            refine q_goto C 269 dL_sound_265 (by decide) ?_
            exact q_iretZ C dL_sound_269 (by omega) (by omega) ⟨by omega, q251⟩
      · have hsT : isT V s := ⟨by omega, by omega⟩
        obtain ⟨K1, K2, K3⟩ := stk_at J hsT
        have hRs := hR s (by omega) (by omega)
        refine q_aload_n C 0 dL_sound_11 rfl rfl ?_
        refine q_bipush C dL_sound_12 (by decide +kernel) ?_
        refine q_iload C dL_sound_14 rfl ?_
        refine q_iconst C dL_sound_16 ?_
        refine q_iconst C dL_sound_17 ?_
        refine q_SHi C (KL_height _ IA A _ (by omega) _ (by omega) _ (by omega)) mL_call ml_L_110 dL_sound_18 (by decide) (by omega) rfl rfl rfl (Nat.le_of_ble_eq_true rfl) (fun v18 g18 l18 u18 h18 => ?_)
        obtain ⟨rfl, q18⟩ := h18
        refine q_istoreV C dL_sound_21 (by decide) (fun v21 e21 => ?_)
        subst e21
        refine q_iload C dL_sound_23 rfl ?_
        refine q_aload_n C 2 dL_sound_25 rfl rfl ?_
        refine q_iload C dL_sound_26 rfl ?_
        refine q_iald C (b := 23) (n := 4) 0 4 rfl (by decide) (by decide) (by omega) (fun _ => rfl) dL_sound_28 (fun v28 e28 l28 u28 => ?_)
        have eR : v28 = R s := by rw [e28, q18.2.2.2]
        refine q_icmp_le C 34 dL_sound_29 (by decide) (by omega) (by omega) (fun c29 => ?_) (fun c29 => ?_)
        · refine q_iconst C dL_sound_34 ?_
          refine q_istoreV C dL_sound_35 (by decide) (fun v35 e35 => ?_)
          subst e35
          have loopB : ∀ (nB : Nat) (k : Int) (j : Int) (GB : qHp), ((5 - k) < (nB : Int)) → lq V S R GB → (0 ≤ k ∧ k ≤ aq6 V S s ∧ j = i + k) → qT X ω 9 (57 * s.toNat + 1 + 14 * k.toNat) (qEnd X ω (qPi (fun (r : Int) (g' : qHp) => r = 1 ∧ lq V S R g')) qNo 240) GB 37 [(0, .ref (ω.1 0)), (1, .int (iI c)), (2, .ref (ω.1 23)), (3, .int (iI j)), (4, .int (iI s)), (5, .int (iI (aq6 V S s))), (6, .int (iI k))] [] := by
            intro nB
            induction nB with
            | zero => intro k j GB hmB IB hk; exfalso; omega
            | succ nB ihB =>
              intro k j GB hmB IB hk
              refine q_iload C dL_sound_37 rfl ?_
              refine q_iload C dL_sound_39 rfl ?_
              refine q_icmp_ge C 244 dL_sound_41 (by decide) (by omega) (by omega) (fun c41 => ?_) (fun c41 => ?_)
              · refine q_iinc C dL_sound_244 rfl (by decide) (fun v244 e244 => ?_)
                subst e244
                refine q_goto C 5 dL_sound_247 (by decide) ?_
                refine q_loc [(0, .ref (ω.1 0)), (1, .int (iI c)), (2, .ref (ω.1 23)), (3, .int (iI j)), (4, .int (iI (s + 1)))] ⟨rfl, rfl, rfl, rfl, rfl, trivial⟩ ?_
                refine q_widen (k2 := 57 * (s + 1).toNat) (by omega) ?_
                exact ihA (s + 1) j _ (by omega) IB (by omega) ⟨by rw [smH_s (by omega), ← hi.1]; omega, by omega, by omega⟩
              · obtain ⟨F1, F2, F3, F4, F5, F6, F7⟩ := snd_at J A hsT (k := k) ⟨by omega, by omega⟩
                refine q_aload_n C 0 dL_sound_44 rfl rfl ?_
                refine q_bipush C dL_sound_45 (by decide +kernel) ?_
                refine q_iload C dL_sound_47 rfl ?_
                refine q_iload C dL_sound_49 rfl ?_
                refine q_iconst C dL_sound_51 ?_
                refine q_SHi C (KL_boxAt _ IB A _ (by omega) _ (by omega) _ (by omega)) mL_call ml_L_110 dL_sound_52 (by decide) (by omega) rfl rfl rfl (Nat.le_of_ble_eq_true rfl) (fun v52 g52 l52 u52 h52 => ?_)
                obtain ⟨rfl, q52⟩ := h52
                refine q_istoreV C dL_sound_55 (by decide) (fun v55 e55 => ?_)
                subst e55
                refine q_aload_n C 0 dL_sound_57 rfl rfl ?_
                refine q_bipush C dL_sound_58 (by decide +kernel) ?_
                refine q_iload C dL_sound_60 rfl ?_
                refine q_iconst C dL_sound_62 ?_
                refine q_iconst C dL_sound_63 ?_
                refine q_SHi C (KL_planLength _ q52 A _ (by omega) _ (by omega) _ (by omega)) mL_call ml_L_110 dL_sound_64 (by decide) (by omega) rfl rfl rfl (Nat.le_of_ble_eq_true rfl) (fun v64 g64 l64 u64 h64 => ?_)
                obtain ⟨rfl, q64⟩ := h64
                refine q_istoreV C dL_sound_67 (by decide) (fun v67 e67 => ?_)
                subst e67
                refine q_iinc C dL_sound_69 rfl (by decide) (fun v69 e69 => ?_)
                subst e69
                refine q_aload_n C 0 dL_sound_72 rfl rfl ?_
                refine q_iconst C dL_sound_73 ?_
                refine q_iload C dL_sound_74 rfl ?_
                refine q_iconst C dL_sound_76 ?_
                refine q_iconst C dL_sound_77 ?_
                refine q_SHi C (KL_stackOf _ q64 A _ (by omega) _ (by omega) _ (by omega)) mL_call ml_L_110 dL_sound_78 (by decide) (by omega) rfl rfl rfl (Nat.le_of_ble_eq_true rfl) (fun v78 g78 l78 u78 h78 => ?_)
                obtain ⟨rfl, q78⟩ := h78
                refine q_iload C dL_sound_81 rfl ?_
                refine q_icmp_ne C 236 dL_sound_83 (by decide) (by omega) (by omega) (fun c83 => ?_) (fun c83 => ?_)
                · exfalso; omega
                · refine q_aload_n C 0 dL_sound_86 rfl rfl ?_
                  refine q_iconst C dL_sound_87 ?_
                  refine q_iload C dL_sound_88 rfl ?_
                  refine q_iconst C dL_sound_90 ?_
                  refine q_iconst C dL_sound_91 ?_
                  refine q_SHi C (KL_level _ q78 A _ (by omega) _ (by omega) _ (by omega)) mL_call ml_L_110 dL_sound_92 (by decide) (by omega) rfl rfl rfl (Nat.le_of_ble_eq_true rfl) (fun v92 g92 l92 u92 h92 => ?_)
                  obtain ⟨rfl, q92⟩ := h92
                  refine q_iload C dL_sound_95 rfl ?_
                  refine q_icmp_ne C 236 dL_sound_97 (by decide) (by omega) (by omega) (fun c97 => ?_) (fun c97 => ?_)
                  · exfalso; omega
                  · refine q_aload_n C 0 dL_sound_100 rfl rfl ?_
                    refine q_iconst C dL_sound_101 ?_
                    refine q_iload C dL_sound_102 rfl ?_
                    refine q_iconst C dL_sound_104 ?_
                    refine q_iconst C dL_sound_105 ?_
                    refine q_SHi C (KL_above _ q92 A _ (by omega) _ (by omega) _ (by omega)) mL_call ml_L_110 dL_sound_106 (by decide) (by omega) rfl rfl rfl (Nat.le_of_ble_eq_true rfl) (fun v106 g106 l106 u106 h106 => ?_)
                    obtain ⟨rfl, q106⟩ := h106
                    refine q_iload C dL_sound_109 rfl ?_
                    refine q_iconst C dL_sound_111 ?_
                    refine q_isub C dL_sound_112 ?_
                    refine q_iload C dL_sound_113 rfl ?_
                    refine q_isub C dL_sound_115 ?_
                    refine q_icmp_ne C 236 dL_sound_116 (by decide) (by omega) (by omega) (fun c116 => ?_) (fun c116 => ?_)
                    · exfalso; omega
                    · have jn156 : ∀ (G156 : qHp), lq V S R G156 → qT X ω 9 (57 * s.toNat + 1 + 14 * k.toNat + 11) (qEnd X ω (qPi (fun (r : Int) (g' : qHp) => r = 1 ∧ lq V S R g')) qNo 240) G156 156 [(0, .ref (ω.1 0)), (1, .int (iI c)), (2, .ref (ω.1 23)), (3, .int (iI (j + 1))), (4, .int (iI s)), (5, .int (iI (aq6 V S s))), (6, .int (iI k)), (7, .int (iI (aq7 V S s k))), (8, .int (iI (aqP V S (aq7 V S s k))))] [] := by
                        intro G156 I156
                        have jn201 : ∀ (G201 : qHp), lq V S R G201 → qT X ω 9 (57 * s.toNat + 1 + 14 * k.toNat + 13) (qEnd X ω (qPi (fun (r : Int) (g' : qHp) => r = 1 ∧ lq V S R g')) qNo 240) G201 201 [(0, .ref (ω.1 0)), (1, .int (iI c)), (2, .ref (ω.1 23)), (3, .int (iI (j + 1))), (4, .int (iI s)), (5, .int (iI (aq6 V S s))), (6, .int (iI k)), (7, .int (iI (aq7 V S s k))), (8, .int (iI (aqP V S (aq7 V S s k))))] [] := by
                          intro G201 I201
                          have jn222 : ∀ (G222 : qHp), lq V S R G222 → qT X ω 9 (57 * s.toNat + 1 + 14 * k.toNat + 14) (qEnd X ω (qPi (fun (r : Int) (g' : qHp) => r = 1 ∧ lq V S R g')) qNo 240) G222 222 [(0, .ref (ω.1 0)), (1, .int (iI c)), (2, .ref (ω.1 23)), (3, .int (iI (j + 1))), (4, .int (iI s)), (5, .int (iI (aq6 V S s))), (6, .int (iI k)), (7, .int (iI (aq7 V S s k))), (8, .int (iI (aqP V S (aq7 V S s k))))] [] := by
                            intro G222 I222
                            refine q_iload C dL_sound_222 rfl ?_
                            refine q_iload C dL_sound_224 rfl ?_
                            refine q_iconst C dL_sound_226 ?_
                            refine q_isub C dL_sound_227 ?_
                            refine q_icmp_ne C 238 dL_sound_228 (by decide) (by omega) (by omega) (fun c228 => ?_) (fun c228 => ?_)
                            · refine q_iinc C dL_sound_238 rfl (by decide) (fun v238 e238 => ?_)
                              subst e238
                              refine q_goto C 37 dL_sound_241 (by decide) ?_
                              refine q_loc [(0, .ref (ω.1 0)), (1, .int (iI c)), (2, .ref (ω.1 23)), (3, .int (iI (j + 1))), (4, .int (iI s)), (5, .int (iI (aq6 V S s))), (6, .int (iI (k + 1)))] ⟨rfl, rfl, rfl, rfl, rfl, rfl, rfl, trivial⟩ ?_
                              refine q_widen (k2 := 57 * s.toNat + 1 + 14 * (k + 1).toNat) (by omega) ?_
                              exact ihB (k + 1) (j + 1) _ (by omega) I222 (by omega)
                            · refine q_iload C dL_sound_231 rfl ?_
                              refine q_ifeq C 238 dL_sound_233 (by decide) (by omega) (fun c233 => ?_) (fun c233 => ?_)
                              · refine q_iinc C dL_sound_238 rfl (by decide) (fun v238 e238 => ?_)
                                subst e238
                                refine q_goto C 37 dL_sound_241 (by decide) ?_
                                refine q_loc [(0, .ref (ω.1 0)), (1, .int (iI c)), (2, .ref (ω.1 23)), (3, .int (iI (j + 1))), (4, .int (iI s)), (5, .int (iI (aq6 V S s))), (6, .int (iI (k + 1)))] ⟨rfl, rfl, rfl, rfl, rfl, rfl, rfl, trivial⟩ ?_
                                refine q_widen (k2 := 57 * s.toNat + 1 + 14 * (k + 1).toNat) (by omega) ?_
                                exact ihB (k + 1) (j + 1) _ (by omega) I222 (by omega)
                              · exfalso; omega
                          refine q_aload_n C 0 dL_sound_201 rfl rfl ?_
                          refine q_bipush C dL_sound_202 (by decide +kernel) ?_
                          refine q_iload C dL_sound_204 rfl ?_
                          refine q_iconst C dL_sound_206 ?_
                          refine q_iconst C dL_sound_207 ?_
                          refine q_SHi C (KL_pinnedAbove _ I201 A _ (by omega) _ (by omega) _ (by omega)) mL_call ml_L_110 dL_sound_208 (by decide) (by omega) rfl rfl rfl (Nat.le_of_ble_eq_true rfl) (fun v208 g208 l208 u208 h208 => ?_)
                          obtain ⟨rfl, q208⟩ := h208
                          refine q_ifle C 222 dL_sound_211 (by decide) (by omega) (fun c211 => ?_) (fun c211 => ?_)
                          · refine q_loc [(0, .ref (ω.1 0)), (1, .int (iI c)), (2, .ref (ω.1 23)), (3, .int (iI (j + 1))), (4, .int (iI s)), (5, .int (iI (aq6 V S s))), (6, .int (iI k)), (7, .int (iI (aq7 V S s k))), (8, .int (iI (aqP V S (aq7 V S s k))))] ⟨rfl, rfl, rfl, rfl, rfl, rfl, rfl, rfl, rfl, trivial⟩ ?_
                            refine q_widen (k2 := 57 * s.toNat + 1 + 14 * k.toNat + 14) (by omega) ?_
                            exact jn222 _ q208
                          · refine q_iload C dL_sound_214 rfl ?_
                            refine q_sipush C dL_sound_216 (by decide +kernel) ?_
                            refine q_icmp_ne C 236 dL_sound_219 (by decide) (by omega) (by omega) (fun c219 => ?_) (fun c219 => ?_)
                            · exfalso; omega
                            · refine q_loc [(0, .ref (ω.1 0)), (1, .int (iI c)), (2, .ref (ω.1 23)), (3, .int (iI (j + 1))), (4, .int (iI s)), (5, .int (iI (aq6 V S s))), (6, .int (iI k)), (7, .int (iI (aq7 V S s k))), (8, .int (iI (aqP V S (aq7 V S s k))))] ⟨rfl, rfl, rfl, rfl, rfl, rfl, rfl, rfl, rfl, trivial⟩ ?_
                              refine q_widen (k2 := 57 * s.toNat + 1 + 14 * k.toNat + 14) (by omega) ?_
                              exact jn222 _ q208
                        refine q_iload C dL_sound_156 rfl ?_
                        refine q_aload_n C 0 dL_sound_158 rfl rfl ?_
                        refine q_bipush C dL_sound_159 (by decide +kernel) ?_
                        refine q_iload C dL_sound_161 rfl ?_
                        refine q_iconst C dL_sound_163 ?_
                        refine q_iconst C dL_sound_164 ?_
                        refine q_SHi C (KL_planByTrying _ I156 A _ (by omega) _ (by omega) _ (by omega)) mL_call ml_L_110 dL_sound_165 (by decide) (by omega) rfl rfl rfl (Nat.le_of_ble_eq_true rfl) (fun v165 g165 l165 u165 h165 => ?_)
                        obtain ⟨rfl, q165⟩ := h165
                        refine q_icmp_ne C 236 dL_sound_168 (by decide) (by omega) (by omega) (fun c168 => ?_) (fun c168 => ?_)
                        · exfalso; omega
                        · refine q_iload C dL_sound_171 rfl ?_
                          refine q_sipush C dL_sound_173 (by decide +kernel) ?_
                          refine q_icmp_eq C 201 dL_sound_176 (by decide) (by omega) (by omega) (fun c176 => ?_) (fun c176 => ?_)
                          · refine q_loc [(0, .ref (ω.1 0)), (1, .int (iI c)), (2, .ref (ω.1 23)), (3, .int (iI (j + 1))), (4, .int (iI s)), (5, .int (iI (aq6 V S s))), (6, .int (iI k)), (7, .int (iI (aq7 V S s k))), (8, .int (iI (aqP V S (aq7 V S s k))))] ⟨rfl, rfl, rfl, rfl, rfl, rfl, rfl, rfl, rfl, trivial⟩ ?_
                            refine q_widen (k2 := 57 * s.toNat + 1 + 14 * k.toNat + 13) (by omega) ?_
                            exact jn201 _ q165
                          · refine q_iload C dL_sound_179 rfl ?_
                            refine q_iload C dL_sound_181 rfl ?_
                            refine q_iconst C dL_sound_183 ?_
                            refine q_isub C dL_sound_184 ?_
                            refine q_iload C dL_sound_185 rfl ?_
                            refine q_isub C dL_sound_187 ?_
                            refine q_icmp_lt C 236 dL_sound_188 (by decide) (by omega) (by omega) (fun c188 => ?_) (fun c188 => ?_)
                            · exfalso; omega
                            · refine q_iload C dL_sound_191 rfl ?_
                              refine q_iload C dL_sound_193 rfl ?_
                              refine q_iload C dL_sound_195 rfl ?_
                              refine q_isub C dL_sound_197 ?_
                              refine q_icmp_gt C 236 dL_sound_198 (by decide) (by omega) (by omega) (fun c198 => ?_) (fun c198 => ?_)
                              · exfalso; omega
                              · refine q_loc [(0, .ref (ω.1 0)), (1, .int (iI c)), (2, .ref (ω.1 23)), (3, .int (iI (j + 1))), (4, .int (iI s)), (5, .int (iI (aq6 V S s))), (6, .int (iI k)), (7, .int (iI (aq7 V S s k))), (8, .int (iI (aqP V S (aq7 V S s k))))] ⟨rfl, rfl, rfl, rfl, rfl, rfl, rfl, rfl, rfl, trivial⟩ ?_
                                refine q_widen (k2 := 57 * s.toNat + 1 + 14 * k.toNat + 13) (by omega) ?_
                                exact jn201 _ q165
                      refine q_iload C dL_sound_119 rfl ?_
                      refine q_ifle C 156 dL_sound_121 (by decide) (by omega) (fun c121 => ?_) (fun c121 => ?_)
                      · refine q_loc [(0, .ref (ω.1 0)), (1, .int (iI c)), (2, .ref (ω.1 23)), (3, .int (iI (j + 1))), (4, .int (iI s)), (5, .int (iI (aq6 V S s))), (6, .int (iI k)), (7, .int (iI (aq7 V S s k))), (8, .int (iI (aqP V S (aq7 V S s k))))] ⟨rfl, rfl, rfl, rfl, rfl, rfl, rfl, rfl, rfl, trivial⟩ ?_
                        refine q_widen (k2 := 57 * s.toNat + 1 + 14 * k.toNat + 11) (by omega) ?_
                        exact jn156 _ q106
                      · refine q_aload_n C 0 dL_sound_124 rfl rfl ?_
                        refine q_iconst C dL_sound_125 ?_
                        refine q_iload C dL_sound_126 rfl ?_
                        refine q_iconst C dL_sound_128 ?_
                        refine q_iconst C dL_sound_129 ?_
                        refine q_SHi C (KL_weight _ q106 A _ (by omega) _ (by omega) _ (by omega)) mL_call ml_L_110 dL_sound_130 (by decide) (by omega) rfl rfl rfl (Nat.le_of_ble_eq_true rfl) (fun v130 g130 l130 u130 h130 => ?_)
                        obtain ⟨rfl, q130⟩ := h130
                        refine q_aload_n C 0 dL_sound_133 rfl rfl ?_
                        refine q_iconst C dL_sound_134 ?_
                        refine q_aload_n C 0 dL_sound_135 rfl rfl ?_
                        refine q_bipush C dL_sound_136 (by decide +kernel) ?_
                        refine q_iload C dL_sound_138 rfl ?_
                        refine q_iload C dL_sound_140 rfl ?_
                        refine q_iconst C dL_sound_142 ?_
                        refine q_isub C dL_sound_143 ?_
                        refine q_iconst C dL_sound_144 ?_
                        refine q_SHi C (KL_boxAt _ q130 A _ (by omega) _ (by omega) _ (by omega)) mL_call ml_L_110 dL_sound_145 (by decide) (by omega) rfl rfl rfl (Nat.le_of_ble_eq_true rfl) (fun v145 g145 l145 u145 h145 => ?_)
                        obtain ⟨rfl, q145⟩ := h145
                        refine q_iconst C dL_sound_148 ?_
                        refine q_iconst C dL_sound_149 ?_
                        refine q_SHi C (KL_weight _ q145 A _ (by omega) _ (by omega) _ (by omega)) mL_call ml_L_110 dL_sound_150 (by decide) (by omega) rfl rfl rfl (Nat.le_of_ble_eq_true rfl) (fun v150 g150 l150 u150 h150 => ?_)
                        obtain ⟨rfl, q150⟩ := h150
                        refine q_icmp_gt C 236 dL_sound_153 (by decide) (by omega) (by omega) (fun c153 => ?_) (fun c153 => ?_)
                        · exfalso; omega
                        · refine q_loc [(0, .ref (ω.1 0)), (1, .int (iI c)), (2, .ref (ω.1 23)), (3, .int (iI (j + 1))), (4, .int (iI s)), (5, .int (iI (aq6 V S s))), (6, .int (iI k)), (7, .int (iI (aq7 V S s k))), (8, .int (iI (aqP V S (aq7 V S s k))))] ⟨rfl, rfl, rfl, rfl, rfl, rfl, rfl, rfl, rfl, trivial⟩ ?_
                          refine q_widen (k2 := 57 * s.toNat + 1 + 14 * k.toNat + 11) (by omega) ?_
                          exact jn156 _ q150
          refine q_loc [(0, .ref (ω.1 0)), (1, .int (iI c)), (2, .ref (ω.1 23)), (3, .int (iI i)), (4, .int (iI s)), (5, .int (iI (aq6 V S s))), (6, .int (iI (0 : Int)))] ⟨rfl, rfl, rfl, rfl, rfl, rfl, rfl, trivial⟩ ?_
          refine q_widen (k2 := 57 * s.toNat + 1 + 14 * (0 : Int).toNat) (by omega) ?_
          exact loopB ((5 - (0 : Int)).toNat + 1) (0 : Int) i _ (by omega) q18 (by omega)
        · exfalso; omega
  refine q_loc [(0, .ref (ω.1 0)), (1, .int (iI c)), (2, .ref (ω.1 23)), (3, .int (iI (0 : Int))), (4, .int (iI (0 : Int)))] ⟨rfl, rfl, rfl, rfl, rfl, trivial⟩ ?_
  refine q_widen (k2 := 57 * (0 : Int).toNat) (by omega) ?_
  exact loopA ((c - (0 : Int)).toNat + 1) (0 : Int) (0 : Int) _ (by omega) I (by omega) ⟨rfl, by omega, by omega⟩
end SN
