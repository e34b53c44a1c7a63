/-! the law's digest of the state, and what it asks of all stacks -/
theorem KD_now {V : qHp} {S : St} {R : Int → Int} {g g1 : qHp} {v : Int} (I : lq V S R g) (A : aI V S) (hn : qNm g) (h : cP_now g v g1) : v = V 0 0 ∧ lq V S R g1 := by
  obtain ⟨I1, rfl, rfl, rfl⟩ := I
  obtain ⟨s1, s2, s3⟩ := C_now I1 hn (lq_cm A) (Or.inl ⟨rfl, h⟩)
  obtain ⟨e1, e2, e3⟩ := q_A0 (fun q => q) s1
  exact ⟨e1, s2, e2, e3, s3 23 (by decide)⟩
theorem KD_moves {V : qHp} {S : St} {R : Int → Int} {g g1 : qHp} {v : Int} (I : lq V S R g) (A : aI V S) (hn : qNm g) (h : cP_moves g v g1) : v = V 0 1 ∧ lq V S R g1 := by
  obtain ⟨I1, rfl, rfl, rfl⟩ := I
  obtain ⟨s1, s2, s3⟩ := C_moves I1 hn (lq_cm A) (Or.inl ⟨rfl, h⟩)
  obtain ⟨e1, e2, e3⟩ := q_A0 (fun q => q) s1
  exact ⟨e1, s2, e2, e3, s3 23 (by decide)⟩
theorem KD_weightLeft {V : qHp} {S : St} {R : Int → Int} {g g1 : qHp} {v : Int} (I : lq V S R g) (A : aI V S) (hn : qNm g) (h : cP_weightLeft g v g1) : v = V 0 2 ∧ lq V S R g1 := by
  obtain ⟨I1, rfl, rfl, rfl⟩ := I
  obtain ⟨s1, s2, s3⟩ := C_weightLeft I1 hn (lq_cm A) (Or.inl ⟨rfl, h⟩)
  obtain ⟨e1, e2, e3⟩ := q_A0 (fun q => q) s1
  exact ⟨e1, s2, e2, e3, s3 23 (by decide)⟩
theorem KD_boxes {V : qHp} {S : St} {R : Int → Int} {g g1 : qHp} {v : Int} (I : lq V S R g) (A : aI V S) (hn : qNm g) (h : cP_boxes g v g1) : v = nBS S ∧ lq V S R g1 := by
  obtain ⟨I1, rfl, rfl, rfl⟩ := I
  obtain ⟨s1, s2, s3⟩ := C_boxes I1 hn (lq_cm A) (Or.inl ⟨rfl, h⟩)
  obtain ⟨e1, e2, e3⟩ := q_A0 (fun q => q) s1
  exact ⟨e1, s2, e2, e3, s3 23 (by decide)⟩
theorem KD_isInYard {V : qHp} {S : St} {R : Int → Int} {g g1 : qHp} {x v : Int} (I : lq V S R g) (A : aI V S) (hn : qNm g) (h : cP_isInYard g x v g1) : v = aqI S x ∧ lq V S R g1 := by
  obtain ⟨I1, rfl, rfl, rfl⟩ := I
  obtain ⟨s1, s2, s3⟩ := C_isInYard I1 hn (lq_cm A) (Or.inl ⟨rfl, h⟩)
  obtain ⟨e1, e2, e3⟩ := q_A0 (f := aqI (stA g) x) (fun q => ⟨by
    unfold aqI
    rcases q.1 with ⟨c, e⟩ | ⟨c, e⟩
    · rw [ifP_t c, e]
    · rw [ifP_f c, e], q.2⟩) s1
  exact ⟨e1, s2, e2, e3, s3 23 (by decide)⟩
noncomputable def hIn (V : qHp) (S : St) (s : Int) : Nat → Int → Int
  | 0, h => h
  | k + 1, h => 31 * hIn V S s k h + aq7 V S s k
noncomputable def hOut (V : qHp) (S : St) : Nat → Int
  | 0 => 37
  | s + 1 => 31 * hIn V S s (aq6 V S s).toNat (hOut V S s) + 99
noncomputable def hBx (V : qHp) (S : St) (c : Int) : Nat → Int
  | 0 => hOut V S c.toNat
  | b + 1 => 31 * (31 * (31 * hBx V S c b + aq10 V S b) + aq11 V S b) + aq23 V S b
noncomputable def hAp (V : qHp) (S : St) (c : Int) : Nat → Int
  | 0 => hBx V S c 20
  | a + 1 => 31 * hAp V S c a + aq22 V a
noncomputable def stF (V : qHp) (S : St) (c m : Int) : Int := 31 * (31 * (31 * hAp V S c m.toNat + V 0 1) + V 0 0) + V 0 2
section ST
variable {V : qHp} {S : St} {R : Int → Int} {s k h b a c : Int}
theorem hIn_s (h0 : 0 ≤ k) : hIn V S s (k + 1).toNat h = 31 * hIn V S s k.toNat h + aq7 V S s k := by
  rw [show (k + 1).toNat = k.toNat + 1 by omega]
  show 31 * hIn V S s k.toNat h + aq7 V S s ((k.toNat : Nat) : Int) = _
  rw [show ((k.toNat : Nat) : Int) = k by omega]
theorem hOut_s (h0 : 0 ≤ s) : hOut V S (s + 1).toNat = 31 * hIn V S s (aq6 V S s).toNat (hOut V S s.toNat) + 99 := by
  rw [show (s + 1).toNat = s.toNat + 1 by omega]
  show 31 * hIn V S ((s.toNat : Nat) : Int) (aq6 V S ((s.toNat : Nat) : Int)).toNat (hOut V S s.toNat) + 99 = _
  rw [show ((s.toNat : Nat) : Int) = s by omega]
theorem hBx_s (h0 : 0 ≤ b) : hBx V S c (b + 1).toNat = 31 * (31 * (31 * hBx V S c b.toNat + aq10 V S b) + aq11 V S b) + aq23 V S b := by
  rw [show (b + 1).toNat = b.toNat + 1 by omega]
  show 31 * (31 * (31 * hBx V S c b.toNat + aq10 V S ((b.toNat : Nat) : Int)) + aq11 V S ((b.toNat : Nat) : Int)) + aq23 V S ((b.toNat : Nat) : Int) = _
  rw [show ((b.toNat : Nat) : Int) = b by omega]
theorem hAp_s (h0 : 0 ≤ a) : hAp V S c (a + 1).toNat = 31 * hAp V S c a.toNat + aq22 V a := by
  rw [show (a + 1).toNat = a.toNat + 1 by omega]
  show 31 * hAp V S c a.toNat + aq22 V ((a.toNat : Nat) : Int) = _
  rw [show ((a.toNat : Nat) : Int) = a by omega]
theorem aq6_le (J : aJ V S) (s : Int) : aq6 V S s ≤ 4 := by
  unfold aq6
  by_cases q : isT V s
  · rw [ifP_t q]
    have := J.1.2.2.1.2.2.2.1 s
    unfold hgt
    omega
  · rw [ifP_f q]
    decide
theorem smH_s (h0 : 0 ≤ s) : smH S (s + 1).toNat = smH S s.toNat + hgt S s := by
  rw [show (s + 1).toNat = s.toNat + 1 by omega]
  show smH S s.toNat + hgt S ((s.toNat : Nat) : Int) = _
  rw [show ((s.toNat : Nat) : Int) = s by omega]
set_option maxRecDepth 20000 in
theorem KL_state (g : qHp) (c : Int) (hc : -2147483648 ≤ c ∧ c < 2147483648) (m : Int) (hm : -2147483648 ≤ m ∧ m < 2147483648) (I : lq V S R g) (A : aI V S) (hc4 : 0 ≤ c ∧ c ≤ 4) (hm30 : 0 ≤ m ∧ m ≤ 30) : qC yL_state (.code yL_state cL_state 7 (some .long)) 13 195 (fun ad => [.ref (ad 0), .int (iI c), .int (iI m)]) g (fun (v : Option Value) (g' : qHp) => v = some (.long (lI (stF V S c m))) ∧ lq V S R g') qNo := by
  refine q_meth (by decide +kernel) rfl (fun _ => (Nat.le_of_ble_eq_true rfl)) (fun X ω C => ?_)
  refine q_nm (fun hn => ?_)
  have J := lq_J I hn
  have h6 := aq6_le J
  refine q_loc [(0, .ref (ω.1 0)), (1, .int (iI c)), (2, .int (iI m))] ⟨rfl, rfl, rfl, trivial⟩ ?_
  refine q_ldc2 C 37 (by decide +kernel) cn_108 dL_state_0 ?_
  refine q_lstore_n C 3 dL_state_3 rfl (by decide) ?_
  refine q_iconst C dL_state_4 ?_
  refine q_istoreV C dL_state_5 (by decide) (fun v5 e5 => ?_)
  subst e5
  have loopA : ∀ (nA : Nat) (s : Int) (h : Int) (GA : qHp), ((c - s) < (nA : Int)) → lq V S R GA → (0 ≤ s ∧ s ≤ c) → (h = hOut V S s.toNat) → qT X ω 7 (14 * s.toNat) (qEnd X ω (fun (v : Option Value) (g' : qHp) => v = some (.long (lI (stF V S c m))) ∧ lq V S R g') qNo 195) GA 7 [(0, .ref (ω.1 0)), (1, .int (iI c)), (2, .int (iI m)), (3, .long (lI h)), (5, .int (iI s))] [] := by
    intro nA
    induction nA with
    | zero => intro s h GA hmA IA hs hh; exfalso; omega
    | succ nA ihA =>
      intro s h GA hmA IA hs hh
      have h6s := h6 s
      refine q_iload C dL_state_7 rfl ?_
      refine q_iload_n C 1 dL_state_9 rfl rfl ?_
      refine q_icmp_ge C 72 dL_state_10 (by decide) (by omega) (by omega) (fun c10 => ?_) (fun c10 => ?_)
      · refine q_iconst C dL_state_72 ?_
        refine q_istoreV C dL_state_73 (by decide) (fun v73 e73 => ?_)
        subst e73
        have loopC : ∀ (nC : Nat) (b : Int) (h : Int) (GC : qHp), ((20 - b) < (nC : Int)) → lq V S R GC → (0 ≤ b ∧ b ≤ 20) → (h = hBx V S c b.toNat) → qT X ω 7 (60 + 5 * b.toNat) (qEnd X ω (fun (v : Option Value) (g' : qHp) => v = some (.long (lI (stF V S c m))) ∧ lq V S R g') qNo 195) GC 75 [(0, .ref (ω.1 0)), (1, .int (iI c)), (2, .int (iI m)), (3, .long (lI h)), (5, .int (iI b))] [] := by
          intro nC
          induction nC with
          | zero => intro b h GC hmC IC hb hh; exfalso; omega
          | succ nC ihC =>
            intro b h GC hmC IC hb hh
            refine q_iload C dL_state_75 rfl ?_
            refine q_bipush C dL_state_77 (by decide +kernel) ?_
            refine q_icmp_ge C 138 dL_state_79 (by decide) (by omega) (by omega) (fun c79 => ?_) (fun c79 => ?_)
            · refine q_iconst C dL_state_138 ?_
              refine q_istoreV C dL_state_139 (by decide) (fun v139 e139 => ?_)
              subst e139
              have loopD : ∀ (nD : Nat) (a : Int) (h : Int) (GD : qHp), ((m - a) < (nD : Int)) → lq V S R GD → (0 ≤ a ∧ a ≤ m) → (h = hAp V S c a.toNat) → qT X ω 7 (160 + a.toNat) (qEnd X ω (fun (v : Option Value) (g' : qHp) => v = some (.long (lI (stF V S c m))) ∧ lq V S R g') qNo 195) GD 141 [(0, .ref (ω.1 0)), (1, .int (iI c)), (2, .int (iI m)), (3, .long (lI h)), (5, .int (iI a))] [] := by
                intro nD
                induction nD with
                | zero => intro a h GD hmD ID ha hh; exfalso; omega
                | succ nD ihD =>
                  intro a h GD hmD ID ha hh
                  refine q_iload C dL_state_141 rfl ?_
                  refine q_iload_n C 2 dL_state_143 rfl rfl ?_
                  refine q_icmp_ge C 171 dL_state_144 (by decide) (by omega) (by omega) (fun c144 => ?_) (fun c144 => ?_)
                  · refine q_ldc2 C 31 (by decide +kernel) cn_116 dL_state_171 ?_
                    refine q_ldc2 C 31 (by decide +kernel) cn_116 dL_state_174 ?_
                    refine q_ldc2 C 31 (by decide +kernel) cn_116 dL_state_177 ?_
                    refine q_lload_n C 3 dL_state_180 rfl rfl ?_
                    refine q_lmul C dL_state_181 ?_
                    refine q_aload_n C 0 dL_state_182 rfl rfl ?_
                    refine q_nm (fun hq183 => ?_)
                    refine q_Vi0 (P := cP_moves _) C (KX5_moves _ ) mX5_moves ml_L_120 dL_state_183 (by decide) (by omega) rfl rfl rfl (Nat.le_of_ble_eq_true rfl) rfl (by decide) rfl rfl (fun v183 g183 l183 u183 h183 => ?_)
                    obtain ⟨rfl, q183⟩ := KD_moves ID A hq183 h183
                    refine q_i2l C dL_state_186 (by omega) ?_
                    refine q_ladd C dL_state_187 ?_
                    refine q_lmul C dL_state_188 ?_
                    refine q_aload_n C 0 dL_state_189 rfl rfl ?_
                    refine q_nm (fun hq190 => ?_)
                    refine q_Vi0 (P := cP_now _) C (KX5_now _ ) mX5_now ml_L_124 dL_state_190 (by decide) (by omega) rfl rfl rfl (Nat.le_of_ble_eq_true rfl) rfl (by decide) rfl rfl (fun v190 g190 l190 u190 h190 => ?_)
                    obtain ⟨rfl, q190⟩ := KD_now q183 A hq190 h190
                    refine q_i2l C dL_state_193 (by omega) ?_
                    refine q_ladd C dL_state_194 ?_
                    refine q_lmul C dL_state_195 ?_
                    refine q_aload_n C 0 dL_state_196 rfl rfl ?_
                    refine q_nm (fun hq197 => ?_)
                    refine q_Vli0 (P := cP_weightLeft _) C (KX5_weightLeft _ ) mX5_weightLeft ml_L_127 dL_state_197 (by decide) (by omega) rfl rfl rfl (Nat.le_of_ble_eq_true rfl) rfl (by decide) rfl rfl (fun v197 g197 l197 u197 h197 => ?_)
                    obtain ⟨rfl, q197⟩ := KD_weightLeft q190 A hq197 h197
                    refine q_ladd C dL_state_200 ?_
                    exact q_lretR C dL_state_201 (by omega) ⟨by unfold stF; rw [hh, show a = m by omega], q197⟩
                  · refine q_ldc2 C 31 (by decide +kernel) cn_116 dL_state_147 ?_
                    refine q_lload_n C 3 dL_state_150 rfl rfl ?_
                    refine q_lmul C dL_state_151 ?_
                    refine q_aload_n C 0 dL_state_152 rfl rfl ?_
                    refine q_bipush C dL_state_153 (by decide +kernel) ?_
                    refine q_iload C dL_state_155 rfl ?_
                    refine q_iconst C dL_state_157 ?_
                    refine q_iconst C dL_state_158 ?_
                    refine q_SHi C (KL_stateOf _ ID A _ (by omega) _ (by omega) _ (by omega)) mL_call ml_L_110 dL_state_159 (by decide) (by omega) rfl rfl rfl (Nat.le_of_ble_eq_true rfl) (fun v159 g159 l159 u159 h159 => ?_)
                    obtain ⟨rfl, q159⟩ := h159
                    refine q_i2l C dL_state_162 (by omega) ?_
                    refine q_ladd C dL_state_163 ?_
                    refine q_lstore_n C 3 dL_state_164 rfl (by decide) ?_
                    refine q_iinc C dL_state_165 rfl (by decide) (fun v165 e165 => ?_)
                    subst e165
                    refine q_goto C 141 dL_state_168 (by decide) ?_
                    refine q_loc [(0, .ref (ω.1 0)), (1, .int (iI c)), (2, .int (iI m)), (3, .long (lI (31 * h + aq22 V a))), (5, .int (iI (a + 1)))] ⟨rfl, rfl, rfl, rfl, rfl, trivial⟩ ?_
                    refine q_widen (k2 := 160 + (a + 1).toNat) (by omega) ?_
                    exact ihD (a + 1) (31 * h + aq22 V a) _ (by omega) q159 (by omega) (by rw [hAp_s (by omega), ← hh])
              refine q_loc [(0, .ref (ω.1 0)), (1, .int (iI c)), (2, .int (iI m)), (3, .long (lI h)), (5, .int (iI (0 : Int)))] ⟨rfl, rfl, rfl, rfl, rfl, trivial⟩ ?_
              refine q_widen (k2 := 160 + (0 : Int).toNat) (by omega) ?_
              exact loopD ((m - (0 : Int)).toNat + 1) (0 : Int) h _ (by omega) IC (by omega) (by rw [hh, show b = 20 by omega]; rfl)
            · refine q_ldc2 C 31 (by decide +kernel) cn_116 dL_state_82 ?_
              refine q_ldc2 C 31 (by decide +kernel) cn_116 dL_state_85 ?_
              refine q_ldc2 C 31 (by decide +kernel) cn_116 dL_state_88 ?_
              refine q_lload_n C 3 dL_state_91 rfl rfl ?_
              refine q_lmul C dL_state_92 ?_
              refine q_aload_n C 0 dL_state_93 rfl rfl ?_
              refine q_bipush C dL_state_94 (by decide +kernel) ?_
              refine q_iload C dL_state_96 rfl ?_
              refine q_iconst C dL_state_98 ?_
              refine q_iconst C dL_state_99 ?_
              refine q_SHi C (KL_holdOf _ IC A _ (by omega) _ (by omega) _ (by omega)) mL_call ml_L_110 dL_state_100 (by decide) (by omega) rfl rfl rfl (Nat.le_of_ble_eq_true rfl) (fun v100 g100 l100 u100 h100 => ?_)
              obtain ⟨rfl, q100⟩ := h100
              refine q_i2l C dL_state_103 (by omega) ?_
              refine q_ladd C dL_state_104 ?_
              refine q_lmul C dL_state_105 ?_
              refine q_aload_n C 0 dL_state_106 rfl rfl ?_
              refine q_bipush C dL_state_107 (by decide +kernel) ?_
              refine q_iload C dL_state_109 rfl ?_
              refine q_iconst C dL_state_111 ?_
              refine q_iconst C dL_state_112 ?_
              refine q_SHi C (KL_heldUntil _ q100 A _ (by omega) _ (by omega) _ (by omega)) mL_call ml_L_110 dL_state_113 (by decide) (by omega) rfl rfl rfl (Nat.le_of_ble_eq_true rfl) (fun v113 g113 l113 u113 h113 => ?_)
              obtain ⟨rfl, q113⟩ := h113
              refine q_i2l C dL_state_116 (by omega) ?_
              refine q_ladd C dL_state_117 ?_
              refine q_lmul C dL_state_118 ?_
              refine q_aload_n C 0 dL_state_119 rfl rfl ?_
              refine q_bipush C dL_state_120 (by decide +kernel) ?_
              refine q_iload C dL_state_122 rfl ?_
              refine q_iconst C dL_state_124 ?_
              refine q_iconst C dL_state_125 ?_
              refine q_SHi C (KL_appointmentOf _ q113 A _ (by omega) _ (by omega) _ (by omega)) mL_call ml_L_110 dL_state_126 (by decide) (by omega) rfl rfl rfl (Nat.le_of_ble_eq_true rfl) (fun v126 g126 l126 u126 h126 => ?_)
              obtain ⟨rfl, q126⟩ := h126
              refine q_i2l C dL_state_129 (by omega) ?_
              refine q_ladd C dL_state_130 ?_
              refine q_lstore_n C 3 dL_state_131 rfl (by decide) ?_
              refine q_iinc C dL_state_132 rfl (by decide) (fun v132 e132 => ?_)
              subst e132
              refine q_goto C 75 dL_state_135 (by decide) ?_
              refine q_loc [(0, .ref (ω.1 0)), (1, .int (iI c)), (2, .int (iI m)), (3, .long (lI (31 * (31 * (31 * h + aq10 V S b) + aq11 V S b) + aq23 V S b))), (5, .int (iI (b + 1)))] ⟨rfl, rfl, rfl, rfl, rfl, trivial⟩ ?_
              refine q_widen (k2 := 60 + 5 * (b + 1).toNat) (by omega) ?_
              exact ihC (b + 1) (31 * (31 * (31 * h + aq10 V S b) + aq11 V S b) + aq23 V S b) _ (by omega) q126 (by omega) (by rw [hBx_s (by omega), ← hh])
        refine q_loc [(0, .ref (ω.1 0)), (1, .int (iI c)), (2, .int (iI m)), (3, .long (lI h)), (5, .int (iI (0 : Int)))] ⟨rfl, rfl, rfl, rfl, rfl, trivial⟩ ?_
        refine q_widen (k2 := 60 + 5 * (0 : Int).toNat) (by omega) ?_
        exact loopC ((20 - (0 : Int)).toNat + 1) (0 : Int) h _ (by omega) IA (by omega) (by rw [hh, show s = c by omega]; rfl)
      · refine q_iconst C dL_state_13 ?_
        refine q_istoreV C dL_state_14 (by decide) (fun v14 e14 => ?_)
        subst e14
        have loopB : ∀ (nB : Nat) (k : Int) (h2 : Int) (GB : qHp), ((5 - k) < (nB : Int)) → lq V S R GB → (0 ≤ k ∧ (k = 0 ∨ k ≤ aq6 V S s)) → (h2 = hIn V S s k.toNat h) → qT X ω 7 (14 * s.toNat + 3 * k.toNat) (qEnd X ω (fun (v : Option Value) (g' : qHp) => v = some (.long (lI (stF V S c m))) ∧ lq V S R g') qNo 195) GB 16 [(0, .ref (ω.1 0)), (1, .int (iI c)), (2, .int (iI m)), (3, .long (lI h2)), (5, .int (iI s)), (6, .int (iI k))] [] := by
          intro nB
          induction nB with
          | zero => intro k h2 GB hmB IB hk hh2; exfalso; omega
          | succ nB ihB =>
            intro k h2 GB hmB IB hk hh2
            refine q_iload C dL_state_16 rfl ?_
            refine q_aload_n C 0 dL_state_18 rfl rfl ?_
            refine q_bipush C dL_state_19 (by decide +kernel) ?_
            refine q_iload C dL_state_21 rfl ?_
            refine q_iconst C dL_state_23 ?_
            refine q_iconst C dL_state_24 ?_
            refine q_SHi C (KL_height _ IB A _ (by omega) _ (by omega) _ (by omega)) mL_call ml_L_110 dL_state_25 (by decide) (by omega) rfl rfl rfl (Nat.le_of_ble_eq_true rfl) (fun v25 g25 l25 u25 h25 => ?_)
            obtain ⟨rfl, q25⟩ := h25
            refine q_icmp_ge C 56 dL_state_28 (by decide) (by omega) (by omega) (fun c28 => ?_) (fun c28 => ?_)
            · have hex : hIn V S s (aq6 V S s).toNat h = h2 := by
                rw [hh2, show (aq6 V S s).toNat = k.toNat by omega]
              refine q_ldc2 C 31 (by decide +kernel) cn_116 dL_state_56 ?_
              refine q_lload_n C 3 dL_state_59 rfl rfl ?_
              refine q_lmul C dL_state_60 ?_
              refine q_ldc2 C 99 (by decide +kernel) cn_118 dL_state_61 ?_
              refine q_ladd C dL_state_64 ?_
              refine q_lstore_n C 3 dL_state_65 rfl (by decide) ?_
              refine q_iinc C dL_state_66 rfl (by decide) (fun v66 e66 => ?_)
              subst e66
              refine q_goto C 7 dL_state_69 (by decide) ?_
              refine q_loc [(0, .ref (ω.1 0)), (1, .int (iI c)), (2, .int (iI m)), (3, .long (lI (31 * h2 + 99))), (5, .int (iI (s + 1)))] ⟨rfl, rfl, rfl, rfl, rfl, trivial⟩ ?_
              refine q_widen (k2 := 14 * (s + 1).toNat) (by omega) ?_
              exact ihA (s + 1) (31 * h2 + 99) _ (by omega) q25 (by omega) (by rw [hOut_s (by omega), ← hh, hex])
            · refine q_ldc2 C 31 (by decide +kernel) cn_116 dL_state_31 ?_
              refine q_lload_n C 3 dL_state_34 rfl rfl ?_
              refine q_lmul C dL_state_35 ?_
              refine q_aload_n C 0 dL_state_36 rfl rfl ?_
              refine q_bipush C dL_state_37 (by decide +kernel) ?_
              refine q_iload C dL_state_39 rfl ?_
              refine q_iload C dL_state_41 rfl ?_
              refine q_iconst C dL_state_43 ?_
              refine q_SHi C (KL_boxAt _ q25 A _ (by omega) _ (by omega) _ (by omega)) mL_call ml_L_110 dL_state_44 (by decide) (by omega) rfl rfl rfl (Nat.le_of_ble_eq_true rfl) (fun v44 g44 l44 u44 h44 => ?_)
              obtain ⟨rfl, q44⟩ := h44
              refine q_i2l C dL_state_47 (by omega) ?_
              refine q_ladd C dL_state_48 ?_
              refine q_lstore_n C 3 dL_state_49 rfl (by decide) ?_
              refine q_iinc C dL_state_50 rfl (by decide) (fun v50 e50 => ?_)
              subst e50
              refine q_goto C 16 dL_state_53 (by decide) ?_
              refine q_loc [(0, .ref (ω.1 0)), (1, .int (iI c)), (2, .int (iI m)), (3, .long (lI (31 * h2 + aq7 V S s k))), (5, .int (iI s)), (6, .int (iI (k + 1)))] ⟨rfl, rfl, rfl, rfl, rfl, rfl, trivial⟩ ?_
              refine q_widen (k2 := 14 * s.toNat + 3 * (k + 1).toNat) (by omega) ?_
              exact ihB (k + 1) (31 * h2 + aq7 V S s k) _ (by omega) q44 (by omega) (by rw [hIn_s (by omega), ← hh2])
        refine q_loc [(0, .ref (ω.1 0)), (1, .int (iI c)), (2, .int (iI m)), (3, .long (lI h)), (5, .int (iI s)), (6, .int (iI (0 : Int)))] ⟨rfl, rfl, rfl, rfl, rfl, rfl, trivial⟩ ?_
        refine q_widen (k2 := 14 * s.toNat + 3 * (0 : Int).toNat) (by omega) ?_
        exact loopB ((5 - (0 : Int)).toNat + 1) (0 : Int) h _ (by omega) IA (by omega) rfl
  refine q_loc [(0, .ref (ω.1 0)), (1, .int (iI c)), (2, .int (iI m)), (3, .long (lI 37)), (5, .int (iI (0 : Int)))] ⟨rfl, rfl, rfl, rfl, rfl, trivial⟩ ?_
  refine q_widen (k2 := 14 * (0 : Int).toNat) (by omega) ?_
  exact loopA ((c - (0 : Int)).toNat + 1) (0 : Int) 37 _ (by omega) I (by omega) rfl
end ST
