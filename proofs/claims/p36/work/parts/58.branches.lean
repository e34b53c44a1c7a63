/-! the law's loop: a theorem a branch -/
/-- what every operation keeps, said of both ends -/
theorem op_addBox2 {V V' : qHp} {S S' : St} {w s k r v : Int} (J : aJ V S) (I : aI V S) (O' : aOK V' S') (h : sp_addBox w s V S k r V' S') (he : v = ecd [-1001, -1002, -1004, -1003] k r) : aI V' S' ∧ (v < 0 → opK V S v 0 0 V' S') ∧ (0 ≤ v → opK V S v 1 0 V' S') ∧ (0 ≤ v → v = V 0 4 ∧ aq3 S' v = s ∧ aq5 S' v = 0 ∧ aq10 V' S' v = 45) := by
  rcases op_addBox J I O' h he with ⟨z, K⟩ | ⟨z, K, e⟩
  · exact ⟨K.1, fun _ => K, fun q => by omega, fun q => by omega⟩
  · exact ⟨K.1, fun q => by omega, fun _ => K, fun _ => e⟩
theorem op_book2 {V V' : qHp} {S S' : St} {x hr l k r v : Int} (J : aJ V S) (I : aI V S) (h : sp_book x hr l V S k r V' S') (he : v = ecd [-1001, -1002, -1004, -1003] k r) : aI V' S' ∧ (v < 0 → opK V S v 0 0 V' S') ∧ (0 ≤ v → opK V S v 0 1 V' S') ∧ (0 ≤ v → v = V 0 5 ∧ aq22 V' v = 98 ∧ aq23 V' S' x = v ∧ aq24 V' l hr = v ∧ aq11 V S x ≤ hr) := by
  rcases op_book J I h he with ⟨z, K⟩ | ⟨z, K, e⟩
  · exact ⟨K.1, fun _ => K, fun q => by omega, fun q => by omega⟩
  · exact ⟨K.1, fun q => by omega, fun _ => K, fun _ => e⟩
section LW
variable {X : qEnv} {ω : qOm} {own : String} {cc : ByteArray} {nL : Nat} {ret : Option FieldType} {T : List ExceptionTableEntry} {fr mc k : Nat} {Q : State → Prop} {g : qHp} {pc : Nat} {ls : List (Nat × Value)} {st : List Value}
theorem q_lowR (C : qCx X ω RL cc nL ret T fr mc) {v n : Int} (hn : 0 < n ∧ n < 2147483648) (hcat : (st.map fun v => v.category).sum ≤ 8) (hd : decode cc pc = .ok (.invokestatic 139, 3)) (hfr : 1 ≤ fr) (hk : k ≤ mc) (kk : 0 ≤ lowI v n → lowI v n < n → qT X ω nL k Q g (pc + 3) ls (.int (iI (lowI v n)) :: st)) : qT X ω nL k Q g pc ls (.int (iI n) :: .int (iI v) :: st) := q_low C hn hcat hd hfr hk (kk (low_rng v hn.1).1 (low_rng v hn.1).2)
theorem q_iandR (C : qCx X ω own cc nL ret T fr mc) {x y : Int} (hd : decode cc pc = .ok (.iand, 1)) (kk : -2147483648 ≤ anI x y → anI x y < 2147483648 → qT X ω nL k Q g (pc + 1) ls (.int (iI (anI x y)) :: st)) : qT X ω nL k Q g pc ls (.int (iI y) :: .int (iI x) :: st) := q_iand C hd _ (anI_v x y) (kk (anI_r x y).1 (anI_r x y).2)
end LW
abbrev lwB (ω : qOm) (b : Nat) (c n m e : Int) : List (Nat × Value) := [(0, .ref b), (1, .ref (ω.1 0)), (2, .int (iI c)), (3, .ref (ω.1 23)), (4, .int (iI n)), (5, .int (iI m)), (6, .int (iI e))]
abbrev lw931 (ω : qOm) (b : Nat) (c n m e was told : Int) : List (Nat × Value) := [(0, .ref b), (1, .ref (ω.1 0)), (2, .int (iI c)), (3, .ref (ω.1 23)), (4, .int (iI n)), (5, .int (iI m)), (6, .int (iI e)), (11, .long (lI was)), (13, .int (iI told))]
abbrev lw154 (ω : qOm) (b : Nat) (c n m e was g7 b8 t9 sr : Int) : List (Nat × Value) := [(0, .ref b), (1, .ref (ω.1 0)), (2, .int (iI c)), (3, .ref (ω.1 23)), (4, .int (iI n)), (5, .int (iI m)), (6, .int (iI e)), (7, .int (iI g7)), (8, .int (iI b8)), (9, .int (iI t9)), (10, .int (iI sr)), (11, .long (lI was)), (13, .int (iI 0))]
/-- goes on at 931 -/
def kT (X : qEnv) (ω : qOm) (Q : State → Prop) (b : Nat) (c e was : Int) (V : qHp) (S : St) (R : Int → Int) (kk : Nat) : Prop := ∀ (V' : qHp) (S' : St) (g' : qHp) (told dn dm n' m' : Int), lq V' S' R g' → opK V S told dn dm V' S' → (-2147483648 ≤ told ∧ told < 2147483648) → n' = V 0 4 + dn → m' = V 0 5 + dm → qT X ω 20 kk Q g' 931 (lw931 ω b c n' m' e was told) []
/-- the numbers of the loop -/
def lwN (V : qHp) (c n m e : Int) : Prop := (2 ≤ c ∧ c ≤ 4 ∧ V 0 3 = c) ∧ V 0 4 = n ∧ V 0 5 = m ∧ (0 ≤ e ∧ e < 40) ∧ (0 ≤ V 0 1 ∧ V 0 1 ≤ 48 * e)
section LAWB
variable {X : qEnv} {ω : qOm} {T : List ExceptionTableEntry} {b : Nat} {g : qHp} {Q : State → Prop} {V : qHp} {S : St} {R : Int → Int} {c n m e was g7 b8 t9 sr : Int} {k kk : Nat}
set_option maxHeartbeats 8000000 in
set_option maxRecDepth 20000 in
theorem br_add (C : qCx X ω RL cL_law 20 (some .boolean) T 22 35000) (I : lq V S R g) (A : aI V S) (N : lwN V c n m e) (h7 : -2147483648 ≤ g7 ∧ g7 < 2147483648) (h8 : 0 ≤ b8 ∧ b8 ≤ n) (h9 : 0 ≤ t9 ∧ t9 < c) (hs : True) (kK : kT X ω Q b c e was V S R kk) (hk : k + 40 ≤ kk) (hkk : kk ≤ 34000) : qT X ω 20 k Q g 161 (lw154 ω b c n m e was g7 b8 t9 sr) [] := by
  refine q_nm (fun hn => ?_)
  have J := lq_J I hn
  obtain ⟨⟨N1, N2, N3⟩, N4, N5, N6, N7⟩ := N
  have J6 := J.2.2.2.2.2.1
  have J7 := J.2.2.2.2.2.2.1
  have J4 := J.2.2.2.1
  refine q_aload_n C 1 dL_law_161 rfl rfl ?_
  refine q_iconst C dL_law_162 ?_
  refine q_iconst C dL_law_163 ?_
  refine q_iload C dL_law_164 rfl ?_
  refine q_bipush C dL_law_166 (by decide +kernel) ?_
  refine q_ishr C dL_law_168 _ (shI_v _ _) ?_
  refine q_iload C dL_law_169 rfl ?_
  refine q_sipush C dL_law_171 (by decide +kernel) ?_
  refine q_iandR C dL_law_174 (fun a174 b174 => ?_)
  refine q_ifne C 182 dL_law_175 (by decide) (by omega) (fun c175 => ?_) (fun c175 => ?_)
  · refine q_bipush C dL_law_182 (by decide +kernel) ?_
    refine q_lowR C (by omega) (Nat.le_of_ble_eq_true rfl) dL_law_184 (by decide) (by omega) (fun a184 b184 => ?_)
    refine q_iadd C dL_law_187 ?_
    refine q_iload C dL_law_188 rfl ?_
    refine q_iconst C dL_law_190 ?_
    refine q_SHi C (KL_addBox _ I A _ (by omega) _ (by omega) _ (by omega)) mL_call ml_L_110 dL_law_191 (by decide) (by omega) rfl rfl rfl (Nat.le_of_ble_eq_true rfl) (fun v191 g191 l191 u191 h191 => ?_)
    obtain ⟨V1, S1, k1, r1, s191, e191, q191⟩ := h191
    refine q_nm (fun hn191 => ?_)
    have J1 := lq_J q191 hn191
    obtain ⟨A1, Kn, Kp, F⟩ := op_addBox2 J A J1.1 s191 e191
    refine q_istoreV C dL_law_194 (by decide) (fun v194 e194 => ?_)
    subst e194
    refine q_iload C dL_law_196 rfl ?_
    refine q_iflt C 931 dL_law_198 (by decide) (by omega) (fun c198 => ?_) (fun c198 => ?_)
    · refine q_widen (k2 := kk) (by omega) ?_
      refine q_loc (lw931 ω b c n m e was _) ⟨rfl, rfl, rfl, rfl, rfl, rfl, rfl, rfl, rfl, trivial⟩ ?_
      exact kK _ _ _ _ 0 0 _ _ q191 (Kn (by omega)) ⟨by omega, by omega⟩ (by omega) (by omega)
    · refine q_iload C dL_law_201 rfl ?_
      refine q_iload C dL_law_203 rfl ?_
      refine q_icmp_ne C 249 dL_law_205 (by decide) (by omega) (by omega) (fun c205 => ?_) (fun c205 => ?_)
      · exfalso; omega
      · refine q_aload_n C 1 dL_law_208 rfl rfl ?_
        refine q_iconst C dL_law_209 ?_
        refine q_iload C dL_law_210 rfl ?_
        refine q_iconst C dL_law_212 ?_
        refine q_iconst C dL_law_213 ?_
        refine q_SHi C (KL_stackOf _ q191 A1 _ (by omega) _ (by omega) _ (by omega)) mL_call ml_L_110 dL_law_214 (by decide) (by omega) rfl rfl rfl (Nat.le_of_ble_eq_true rfl) (fun v214 g214 l214 u214 h214 => ?_)
        obtain ⟨rfl, q214⟩ := h214
        refine q_iload C dL_law_217 rfl ?_
        refine q_icmp_ne C 249 dL_law_219 (by decide) (by omega) (by omega) (fun c219 => ?_) (fun c219 => ?_)
        · exfalso; omega
        · refine q_aload_n C 1 dL_law_222 rfl rfl ?_
          refine q_iconst C dL_law_223 ?_
          refine q_iload C dL_law_224 rfl ?_
          refine q_iconst C dL_law_226 ?_
          refine q_iconst C dL_law_227 ?_
          refine q_SHi C (KL_above _ q214 A1 _ (by omega) _ (by omega) _ (by omega)) mL_call ml_L_110 dL_law_228 (by decide) (by omega) rfl rfl rfl (Nat.le_of_ble_eq_true rfl) (fun v228 g228 l228 u228 h228 => ?_)
          obtain ⟨rfl, q228⟩ := h228
          refine q_ifne C 249 dL_law_231 (by decide) (by omega) (fun c231 => ?_) (fun c231 => ?_)
          · exfalso; omega
          · refine q_aload_n C 1 dL_law_234 rfl rfl ?_
            refine q_bipush C dL_law_235 (by decide +kernel) ?_
            refine q_iload C dL_law_237 rfl ?_
            refine q_iconst C dL_law_239 ?_
            refine q_iconst C dL_law_240 ?_
            refine q_SHi C (KL_holdOf _ q228 A1 _ (by omega) _ (by omega) _ (by omega)) mL_call ml_L_110 dL_law_241 (by decide) (by omega) rfl rfl rfl (Nat.le_of_ble_eq_true rfl) (fun v241 g241 l241 u241 h241 => ?_)
            obtain ⟨rfl, q241⟩ := h241
            refine q_bipush C dL_law_244 (by decide +kernel) ?_
            refine q_icmp_eq C 251 dL_law_246 (by decide) (by omega) (by omega) (fun c246 => ?_) (fun c246 => ?_)
            · refine q_iinc C dL_law_251 rfl (by decide) (fun v251 e251 => ?_)
              subst e251
              refine q_goto C 931 dL_law_254 (by decide) ?_
              refine q_widen (k2 := kk) (by omega) ?_
              refine q_loc (lw931 ω b c (n + 1) m e was _) ⟨rfl, rfl, rfl, rfl, rfl, rfl, rfl, rfl, rfl, trivial⟩ ?_
              exact kK _ _ _ _ 1 0 _ _ q241 (Kp (by omega)) ⟨by omega, by omega⟩ (by omega) (by omega)
            · exfalso; omega
  · refine q_iconst C dL_law_178 ?_
    refine q_goto C 184 dL_law_179 (by decide) ?_
    refine q_lowR C (by omega) (Nat.le_of_ble_eq_true rfl) dL_law_184 (by decide) (by omega) (fun a184 b184 => ?_)
    refine q_iadd C dL_law_187 ?_
    refine q_iload C dL_law_188 rfl ?_
    refine q_iconst C dL_law_190 ?_
    refine q_SHi C (KL_addBox _ I A _ (by omega) _ (by omega) _ (by omega)) mL_call ml_L_110 dL_law_191 (by decide) (by omega) rfl rfl rfl (Nat.le_of_ble_eq_true rfl) (fun v191 g191 l191 u191 h191 => ?_)
    obtain ⟨V1, S1, k1, r1, s191, e191, q191⟩ := h191
    refine q_nm (fun hn191 => ?_)
    have J1 := lq_J q191 hn191
    obtain ⟨A1, Kn, Kp, F⟩ := op_addBox2 J A J1.1 s191 e191
    refine q_istoreV C dL_law_194 (by decide) (fun v194 e194 => ?_)
    subst e194
    refine q_iload C dL_law_196 rfl ?_
    refine q_iflt C 931 dL_law_198 (by decide) (by omega) (fun c198 => ?_) (fun c198 => ?_)
    · refine q_widen (k2 := kk) (by omega) ?_
      refine q_loc (lw931 ω b c n m e was _) ⟨rfl, rfl, rfl, rfl, rfl, rfl, rfl, rfl, rfl, trivial⟩ ?_
      exact kK _ _ _ _ 0 0 _ _ q191 (Kn (by omega)) ⟨by omega, by omega⟩ (by omega) (by omega)
    · refine q_iload C dL_law_201 rfl ?_
      refine q_iload C dL_law_203 rfl ?_
      refine q_icmp_ne C 249 dL_law_205 (by decide) (by omega) (by omega) (fun c205 => ?_) (fun c205 => ?_)
      · exfalso; omega
      · refine q_aload_n C 1 dL_law_208 rfl rfl ?_
        refine q_iconst C dL_law_209 ?_
        refine q_iload C dL_law_210 rfl ?_
        refine q_iconst C dL_law_212 ?_
        refine q_iconst C dL_law_213 ?_
        refine q_SHi C (KL_stackOf _ q191 A1 _ (by omega) _ (by omega) _ (by omega)) mL_call ml_L_110 dL_law_214 (by decide) (by omega) rfl rfl rfl (Nat.le_of_ble_eq_true rfl) (fun v214 g214 l214 u214 h214 => ?_)
        obtain ⟨rfl, q214⟩ := h214
        refine q_iload C dL_law_217 rfl ?_
        refine q_icmp_ne C 249 dL_law_219 (by decide) (by omega) (by omega) (fun c219 => ?_) (fun c219 => ?_)
        · exfalso; omega
        · refine q_aload_n C 1 dL_law_222 rfl rfl ?_
          refine q_iconst C dL_law_223 ?_
          refine q_iload C dL_law_224 rfl ?_
          refine q_iconst C dL_law_226 ?_
          refine q_iconst C dL_law_227 ?_
          refine q_SHi C (KL_above _ q214 A1 _ (by omega) _ (by omega) _ (by omega)) mL_call ml_L_110 dL_law_228 (by decide) (by omega) rfl rfl rfl (Nat.le_of_ble_eq_true rfl) (fun v228 g228 l228 u228 h228 => ?_)
          obtain ⟨rfl, q228⟩ := h228
          refine q_ifne C 249 dL_law_231 (by decide) (by omega) (fun c231 => ?_) (fun c231 => ?_)
          · exfalso; omega
          · refine q_aload_n C 1 dL_law_234 rfl rfl ?_
            refine q_bipush C dL_law_235 (by decide +kernel) ?_
            refine q_iload C dL_law_237 rfl ?_
            refine q_iconst C dL_law_239 ?_
            refine q_iconst C dL_law_240 ?_
            refine q_SHi C (KL_holdOf _ q228 A1 _ (by omega) _ (by omega) _ (by omega)) mL_call ml_L_110 dL_law_241 (by decide) (by omega) rfl rfl rfl (Nat.le_of_ble_eq_true rfl) (fun v241 g241 l241 u241 h241 => ?_)
            obtain ⟨rfl, q241⟩ := h241
            refine q_bipush C dL_law_244 (by decide +kernel) ?_
            refine q_icmp_eq C 251 dL_law_246 (by decide) (by omega) (by omega) (fun c246 => ?_) (fun c246 => ?_)
            · refine q_iinc C dL_law_251 rfl (by decide) (fun v251 e251 => ?_)
              subst e251
              refine q_goto C 931 dL_law_254 (by decide) ?_
              refine q_widen (k2 := kk) (by omega) ?_
              refine q_loc (lw931 ω b c (n + 1) m e was _) ⟨rfl, rfl, rfl, rfl, rfl, rfl, rfl, rfl, rfl, trivial⟩ ?_
              exact kK _ _ _ _ 1 0 _ _ q241 (Kp (by omega)) ⟨by omega, by omega⟩ (by omega) (by omega)
            · exfalso; omega
set_option maxHeartbeats 8000000 in
set_option maxRecDepth 20000 in
theorem br_hold (C : qCx X ω RL cL_law 20 (some .boolean) T 22 35000) (I : lq V S R g) (A : aI V S) (N : lwN V c n m e) (h7 : -2147483648 ≤ g7 ∧ g7 < 2147483648) (h8 : 0 ≤ b8 ∧ b8 ≤ n) (h9 : 0 ≤ t9 ∧ t9 < c) (hs : 8 ≤ sr ∧ sr < 11) (kK : kT X ω Q b c e was V S R kk) (hk : k + 40 ≤ kk) (hkk : kk ≤ 34000) : qT X ω 20 k Q g 264 (lw154 ω b c n m e was g7 b8 t9 sr) [] := by
  refine q_nm (fun hn => ?_)
  have J := lq_J I hn
  obtain ⟨⟨N1, N2, N3⟩, N4, N5, N6, N7⟩ := N
  have J6 := J.2.2.2.2.2.1
  have J7 := J.2.2.2.2.2.2.1
  have J4 := J.2.2.2.1
  refine q_aload_n C 1 dL_law_264 rfl rfl ?_
  refine q_bipush C dL_law_265 (by decide +kernel) ?_
  refine q_iload C dL_law_267 rfl ?_
  refine q_iconst C dL_law_269 ?_
  refine q_iconst C dL_law_270 ?_
  refine q_SHi C (KL_appointmentOf _ I A _ (by omega) _ (by omega) _ (by omega)) mL_call ml_L_110 dL_law_271 (by decide) (by omega) rfl rfl rfl (Nat.le_of_ble_eq_true rfl) (fun v271 g271 l271 u271 h271 => ?_)
  obtain ⟨rfl, q271⟩ := h271
  refine q_istoreV C dL_law_274 (by decide) (fun v274 e274 => ?_)
  subst e274
  refine q_aload_n C 1 dL_law_276 rfl rfl ?_
  refine q_bipush C dL_law_277 (by decide +kernel) ?_
  refine q_iload C dL_law_279 rfl ?_
  refine q_iload C dL_law_281 rfl ?_
  refine q_bipush C dL_law_283 (by decide +kernel) ?_
  refine q_icmp_ne C 293 dL_law_285 (by decide) (by omega) (by omega) (fun c285 => ?_) (fun c285 => ?_)
  · refine q_iload C dL_law_293 rfl ?_
    refine q_bipush C dL_law_295 (by decide +kernel) ?_
    refine q_icmp_ne C 305 dL_law_297 (by decide) (by omega) (by omega) (fun c297 => ?_) (fun c297 => ?_)
    · refine q_bipush C dL_law_305 (by decide +kernel) ?_
      refine q_aload_n C 1 dL_law_307 rfl rfl ?_
      refine q_nm (fun hq308 => ?_)
      refine q_Vi0 (P := cP_now _) C (KX5_now _ ) mX5_now ml_L_124 dL_law_308 (by decide) (by omega) rfl rfl rfl (Nat.le_of_ble_eq_true rfl) rfl (by decide) rfl rfl (fun v308 g308 l308 u308 h308 => ?_)
      obtain ⟨rfl, q308⟩ := KD_now q271 A hq308 h308
      refine q_iload C dL_law_311 rfl ?_
      refine q_bipush C dL_law_313 (by decide +kernel) ?_
      refine q_ishr C dL_law_315 _ (shI_v _ _) ?_
      refine q_bipush C dL_law_316 (by decide +kernel) ?_
      refine q_lowR C (by omega) (Nat.le_of_ble_eq_true rfl) dL_law_318 (by decide) (by omega) (fun a318 b318 => ?_)
      refine q_iadd C dL_law_321 ?_
      refine q_SHi C (KL_hold _ q308 A _ (by omega) _ (by omega) _ (by omega)) mL_call ml_L_110 dL_law_322 (by decide) (by omega) rfl rfl rfl (Nat.le_of_ble_eq_true rfl) (fun v322 g322 l322 u322 h322 => ?_)
      obtain ⟨V1, S1, k1, r1, s322, e322, q322⟩ := h322
      refine q_nm (fun hn322 => ?_)
      have J1 := lq_J q322 hn322
      rw [chI_120] at s322
      obtain ⟨K, F1, F2⟩ := op_hold J A s322 e322
      have A1 := K.1
      refine q_istoreV C dL_law_325 (by decide) (fun v325 e325 => ?_)
      subst e325
      refine q_iload C dL_law_327 rfl ?_
      refine q_iconst C dL_law_329 ?_
      refine q_icmp_ne C 353 dL_law_330 (by decide) (by omega) (by omega) (fun c330 => ?_) (fun c330 => ?_)
      · refine q_iload C dL_law_353 rfl ?_
        refine q_iflt C 367 dL_law_355 (by decide) (by omega) (fun c355 => ?_) (fun c355 => ?_)
        · refine q_goto C 931 dL_law_367 (by decide) ?_
          refine q_widen (k2 := kk) (by omega) ?_
          refine q_loc (lw931 ω b c n m e was _) ⟨rfl, rfl, rfl, rfl, rfl, rfl, rfl, rfl, rfl, trivial⟩ ?_
          exact kK _ _ _ _ 0 0 _ _ q322 K ⟨by omega, by omega⟩ (by omega) (by omega)
        · refine q_iload C dL_law_358 rfl ?_
          refine q_bipush C dL_law_360 (by decide +kernel) ?_
          refine q_icmp_ne C 367 dL_law_362 (by decide) (by omega) (by omega) (fun c362 => ?_) (fun c362 => ?_)
          · refine q_goto C 931 dL_law_367 (by decide) ?_
            refine q_widen (k2 := kk) (by omega) ?_
            refine q_loc (lw931 ω b c n m e was _) ⟨rfl, rfl, rfl, rfl, rfl, rfl, rfl, rfl, rfl, trivial⟩ ?_
            exact kK _ _ _ _ 0 0 _ _ q322 K ⟨by omega, by omega⟩ (by omega) (by omega)
          · exfalso; omega
      · refine q_iload C dL_law_333 rfl ?_
        refine q_iflt C 365 dL_law_335 (by decide) (by omega) (fun c335 => ?_) (fun c335 => ?_)
        · exfalso; omega
        · refine q_aload_n C 1 dL_law_338 rfl rfl ?_
          refine q_bipush C dL_law_339 (by decide +kernel) ?_
          refine q_iload C dL_law_341 rfl ?_
          refine q_iconst C dL_law_343 ?_
          refine q_iconst C dL_law_344 ?_
          refine q_SHi C (KL_stateOf _ q322 A1 _ (by omega) _ (by omega) _ (by omega)) mL_call ml_L_110 dL_law_345 (by decide) (by omega) rfl rfl rfl (Nat.le_of_ble_eq_true rfl) (fun v345 g345 l345 u345 h345 => ?_)
          obtain ⟨rfl, q345⟩ := h345
          refine q_bipush C dL_law_348 (by decide +kernel) ?_
          refine q_icmp_ne C 365 dL_law_350 (by decide) (by omega) (by omega) (fun c350 => ?_) (fun c350 => ?_)
          · exfalso; omega
          · refine q_iload C dL_law_353 rfl ?_
            refine q_iflt C 367 dL_law_355 (by decide) (by omega) (fun c355 => ?_) (fun c355 => ?_)
            · refine q_goto C 931 dL_law_367 (by decide) ?_
              refine q_widen (k2 := kk) (by omega) ?_
              refine q_loc (lw931 ω b c n m e was _) ⟨rfl, rfl, rfl, rfl, rfl, rfl, rfl, rfl, rfl, trivial⟩ ?_
              exact kK _ _ _ _ 0 0 _ _ q345 K ⟨by omega, by omega⟩ (by omega) (by omega)
            · refine q_iload C dL_law_358 rfl ?_
              refine q_bipush C dL_law_360 (by decide +kernel) ?_
              refine q_icmp_ne C 367 dL_law_362 (by decide) (by omega) (by omega) (fun c362 => ?_) (fun c362 => ?_)
              · refine q_goto C 931 dL_law_367 (by decide) ?_
                refine q_widen (k2 := kk) (by omega) ?_
                refine q_loc (lw931 ω b c n m e was _) ⟨rfl, rfl, rfl, rfl, rfl, rfl, rfl, rfl, rfl, trivial⟩ ?_
                exact kK _ _ _ _ 0 0 _ _ q345 K ⟨by omega, by omega⟩ (by omega) (by omega)
              · exfalso; omega
    · refine q_bipush C dL_law_300 (by decide +kernel) ?_
      refine q_goto C 307 dL_law_302 (by decide) ?_
      refine q_aload_n C 1 dL_law_307 rfl rfl ?_
      refine q_nm (fun hq308 => ?_)
      refine q_Vi0 (P := cP_now _) C (KX5_now _ ) mX5_now ml_L_124 dL_law_308 (by decide) (by omega) rfl rfl rfl (Nat.le_of_ble_eq_true rfl) rfl (by decide) rfl rfl (fun v308 g308 l308 u308 h308 => ?_)
      obtain ⟨rfl, q308⟩ := KD_now q271 A hq308 h308
      refine q_iload C dL_law_311 rfl ?_
      refine q_bipush C dL_law_313 (by decide +kernel) ?_
      refine q_ishr C dL_law_315 _ (shI_v _ _) ?_
      refine q_bipush C dL_law_316 (by decide +kernel) ?_
      refine q_lowR C (by omega) (Nat.le_of_ble_eq_true rfl) dL_law_318 (by decide) (by omega) (fun a318 b318 => ?_)
      refine q_iadd C dL_law_321 ?_
      refine q_SHi C (KL_hold _ q308 A _ (by omega) _ (by omega) _ (by omega)) mL_call ml_L_110 dL_law_322 (by decide) (by omega) rfl rfl rfl (Nat.le_of_ble_eq_true rfl) (fun v322 g322 l322 u322 h322 => ?_)
      obtain ⟨V1, S1, k1, r1, s322, e322, q322⟩ := h322
      refine q_nm (fun hn322 => ?_)
      have J1 := lq_J q322 hn322
      rw [chI_108] at s322
      obtain ⟨K, F1, F2⟩ := op_hold J A s322 e322
      have A1 := K.1
      refine q_istoreV C dL_law_325 (by decide) (fun v325 e325 => ?_)
      subst e325
      refine q_iload C dL_law_327 rfl ?_
      refine q_iconst C dL_law_329 ?_
      refine q_icmp_ne C 353 dL_law_330 (by decide) (by omega) (by omega) (fun c330 => ?_) (fun c330 => ?_)
      · refine q_iload C dL_law_353 rfl ?_
        refine q_iflt C 367 dL_law_355 (by decide) (by omega) (fun c355 => ?_) (fun c355 => ?_)
        · refine q_goto C 931 dL_law_367 (by decide) ?_
          refine q_widen (k2 := kk) (by omega) ?_
          refine q_loc (lw931 ω b c n m e was _) ⟨rfl, rfl, rfl, rfl, rfl, rfl, rfl, rfl, rfl, trivial⟩ ?_
          exact kK _ _ _ _ 0 0 _ _ q322 K ⟨by omega, by omega⟩ (by omega) (by omega)
        · refine q_iload C dL_law_358 rfl ?_
          refine q_bipush C dL_law_360 (by decide +kernel) ?_
          refine q_icmp_ne C 367 dL_law_362 (by decide) (by omega) (by omega) (fun c362 => ?_) (fun c362 => ?_)
          · refine q_goto C 931 dL_law_367 (by decide) ?_
            refine q_widen (k2 := kk) (by omega) ?_
            refine q_loc (lw931 ω b c n m e was _) ⟨rfl, rfl, rfl, rfl, rfl, rfl, rfl, rfl, rfl, trivial⟩ ?_
            exact kK _ _ _ _ 0 0 _ _ q322 K ⟨by omega, by omega⟩ (by omega) (by omega)
          · exfalso; omega
      · refine q_iload C dL_law_333 rfl ?_
        refine q_iflt C 365 dL_law_335 (by decide) (by omega) (fun c335 => ?_) (fun c335 => ?_)
        · exfalso; omega
        · refine q_aload_n C 1 dL_law_338 rfl rfl ?_
          refine q_bipush C dL_law_339 (by decide +kernel) ?_
          refine q_iload C dL_law_341 rfl ?_
          refine q_iconst C dL_law_343 ?_
          refine q_iconst C dL_law_344 ?_
          refine q_SHi C (KL_stateOf _ q322 A1 _ (by omega) _ (by omega) _ (by omega)) mL_call ml_L_110 dL_law_345 (by decide) (by omega) rfl rfl rfl (Nat.le_of_ble_eq_true rfl) (fun v345 g345 l345 u345 h345 => ?_)
          obtain ⟨rfl, q345⟩ := h345
          refine q_bipush C dL_law_348 (by decide +kernel) ?_
          refine q_icmp_ne C 365 dL_law_350 (by decide) (by omega) (by omega) (fun c350 => ?_) (fun c350 => ?_)
          · exfalso; omega
          · refine q_iload C dL_law_353 rfl ?_
            refine q_iflt C 367 dL_law_355 (by decide) (by omega) (fun c355 => ?_) (fun c355 => ?_)
            · refine q_goto C 931 dL_law_367 (by decide) ?_
              refine q_widen (k2 := kk) (by omega) ?_
              refine q_loc (lw931 ω b c n m e was _) ⟨rfl, rfl, rfl, rfl, rfl, rfl, rfl, rfl, rfl, trivial⟩ ?_
              exact kK _ _ _ _ 0 0 _ _ q345 K ⟨by omega, by omega⟩ (by omega) (by omega)
            · refine q_iload C dL_law_358 rfl ?_
              refine q_bipush C dL_law_360 (by decide +kernel) ?_
              refine q_icmp_ne C 367 dL_law_362 (by decide) (by omega) (by omega) (fun c362 => ?_) (fun c362 => ?_)
              · refine q_goto C 931 dL_law_367 (by decide) ?_
                refine q_widen (k2 := kk) (by omega) ?_
                refine q_loc (lw931 ω b c n m e was _) ⟨rfl, rfl, rfl, rfl, rfl, rfl, rfl, rfl, rfl, trivial⟩ ?_
                exact kK _ _ _ _ 0 0 _ _ q345 K ⟨by omega, by omega⟩ (by omega) (by omega)
              · exfalso; omega
  · refine q_bipush C dL_law_288 (by decide +kernel) ?_
    refine q_goto C 307 dL_law_290 (by decide) ?_
    refine q_aload_n C 1 dL_law_307 rfl rfl ?_
    refine q_nm (fun hq308 => ?_)
    refine q_Vi0 (P := cP_now _) C (KX5_now _ ) mX5_now ml_L_124 dL_law_308 (by decide) (by omega) rfl rfl rfl (Nat.le_of_ble_eq_true rfl) rfl (by decide) rfl rfl (fun v308 g308 l308 u308 h308 => ?_)
    obtain ⟨rfl, q308⟩ := KD_now q271 A hq308 h308
    refine q_iload C dL_law_311 rfl ?_
    refine q_bipush C dL_law_313 (by decide +kernel) ?_
    refine q_ishr C dL_law_315 _ (shI_v _ _) ?_
    refine q_bipush C dL_law_316 (by decide +kernel) ?_
    refine q_lowR C (by omega) (Nat.le_of_ble_eq_true rfl) dL_law_318 (by decide) (by omega) (fun a318 b318 => ?_)
    refine q_iadd C dL_law_321 ?_
    refine q_SHi C (KL_hold _ q308 A _ (by omega) _ (by omega) _ (by omega)) mL_call ml_L_110 dL_law_322 (by decide) (by omega) rfl rfl rfl (Nat.le_of_ble_eq_true rfl) (fun v322 g322 l322 u322 h322 => ?_)
    obtain ⟨V1, S1, k1, r1, s322, e322, q322⟩ := h322
    refine q_nm (fun hn322 => ?_)
    have J1 := lq_J q322 hn322
    rw [chI_112] at s322
    obtain ⟨K, F1, F2⟩ := op_hold J A s322 e322
    have A1 := K.1
    refine q_istoreV C dL_law_325 (by decide) (fun v325 e325 => ?_)
    subst e325
    refine q_iload C dL_law_327 rfl ?_
    refine q_iconst C dL_law_329 ?_
    refine q_icmp_ne C 353 dL_law_330 (by decide) (by omega) (by omega) (fun c330 => ?_) (fun c330 => ?_)
    · refine q_iload C dL_law_353 rfl ?_
      refine q_iflt C 367 dL_law_355 (by decide) (by omega) (fun c355 => ?_) (fun c355 => ?_)
      · refine q_goto C 931 dL_law_367 (by decide) ?_
        refine q_widen (k2 := kk) (by omega) ?_
        refine q_loc (lw931 ω b c n m e was _) ⟨rfl, rfl, rfl, rfl, rfl, rfl, rfl, rfl, rfl, trivial⟩ ?_
        exact kK _ _ _ _ 0 0 _ _ q322 K ⟨by omega, by omega⟩ (by omega) (by omega)
      · refine q_iload C dL_law_358 rfl ?_
        refine q_bipush C dL_law_360 (by decide +kernel) ?_
        refine q_icmp_ne C 367 dL_law_362 (by decide) (by omega) (by omega) (fun c362 => ?_) (fun c362 => ?_)
        · refine q_goto C 931 dL_law_367 (by decide) ?_
          refine q_widen (k2 := kk) (by omega) ?_
          refine q_loc (lw931 ω b c n m e was _) ⟨rfl, rfl, rfl, rfl, rfl, rfl, rfl, rfl, rfl, trivial⟩ ?_
          exact kK _ _ _ _ 0 0 _ _ q322 K ⟨by omega, by omega⟩ (by omega) (by omega)
        · exfalso; omega
    · refine q_iload C dL_law_333 rfl ?_
      refine q_iflt C 365 dL_law_335 (by decide) (by omega) (fun c335 => ?_) (fun c335 => ?_)
      · exfalso; omega
      · refine q_aload_n C 1 dL_law_338 rfl rfl ?_
        refine q_bipush C dL_law_339 (by decide +kernel) ?_
        refine q_iload C dL_law_341 rfl ?_
        refine q_iconst C dL_law_343 ?_
        refine q_iconst C dL_law_344 ?_
        refine q_SHi C (KL_stateOf _ q322 A1 _ (by omega) _ (by omega) _ (by omega)) mL_call ml_L_110 dL_law_345 (by decide) (by omega) rfl rfl rfl (Nat.le_of_ble_eq_true rfl) (fun v345 g345 l345 u345 h345 => ?_)
        obtain ⟨rfl, q345⟩ := h345
        refine q_bipush C dL_law_348 (by decide +kernel) ?_
        refine q_icmp_ne C 365 dL_law_350 (by decide) (by omega) (by omega) (fun c350 => ?_) (fun c350 => ?_)
        · exfalso; omega
        · refine q_iload C dL_law_353 rfl ?_
          refine q_iflt C 367 dL_law_355 (by decide) (by omega) (fun c355 => ?_) (fun c355 => ?_)
          · refine q_goto C 931 dL_law_367 (by decide) ?_
            refine q_widen (k2 := kk) (by omega) ?_
            refine q_loc (lw931 ω b c n m e was _) ⟨rfl, rfl, rfl, rfl, rfl, rfl, rfl, rfl, rfl, trivial⟩ ?_
            exact kK _ _ _ _ 0 0 _ _ q345 K ⟨by omega, by omega⟩ (by omega) (by omega)
          · refine q_iload C dL_law_358 rfl ?_
            refine q_bipush C dL_law_360 (by decide +kernel) ?_
            refine q_icmp_ne C 367 dL_law_362 (by decide) (by omega) (by omega) (fun c362 => ?_) (fun c362 => ?_)
            · refine q_goto C 931 dL_law_367 (by decide) ?_
              refine q_widen (k2 := kk) (by omega) ?_
              refine q_loc (lw931 ω b c n m e was _) ⟨rfl, rfl, rfl, rfl, rfl, rfl, rfl, rfl, rfl, trivial⟩ ?_
              exact kK _ _ _ _ 0 0 _ _ q345 K ⟨by omega, by omega⟩ (by omega) (by omega)
            · exfalso; omega
set_option maxHeartbeats 8000000 in
set_option maxRecDepth 20000 in
theorem br_release (C : qCx X ω RL cL_law 20 (some .boolean) T 22 35000) (I : lq V S R g) (A : aI V S) (N : lwN V c n m e) (h7 : -2147483648 ≤ g7 ∧ g7 < 2147483648) (h8 : 0 ≤ b8 ∧ b8 ≤ n) (h9 : 0 ≤ t9 ∧ t9 < c) (hs : True) (kK : kT X ω Q b c e was V S R kk) (hk : k + 40 ≤ kk) (hkk : kk ≤ 34000) : qT X ω 20 k Q g 377 (lw154 ω b c n m e was g7 b8 t9 sr) [] := by
  refine q_nm (fun hn => ?_)
  have J := lq_J I hn
  obtain ⟨⟨N1, N2, N3⟩, N4, N5, N6, N7⟩ := N
  have J6 := J.2.2.2.2.2.1
  have J7 := J.2.2.2.2.2.2.1
  have J4 := J.2.2.2.1
  refine q_aload_n C 1 dL_law_377 rfl rfl ?_
  refine q_bipush C dL_law_378 (by decide +kernel) ?_
  refine q_iload C dL_law_380 rfl ?_
  refine q_iconst C dL_law_382 ?_
  refine q_iconst C dL_law_383 ?_
  refine q_SHi C (KL_release _ I A _ (by omega) _ (by omega) _ (by omega)) mL_call ml_L_110 dL_law_384 (by decide) (by omega) rfl rfl rfl (Nat.le_of_ble_eq_true rfl) (fun v384 g384 l384 u384 h384 => ?_)
  obtain ⟨V1, S1, k1, r1, s384, e384, q384⟩ := h384
  refine q_nm (fun hn384 => ?_)
  have J1 := lq_J q384 hn384
  have K := op_release J A s384 e384
  have A1 := K.1
  refine q_istoreV C dL_law_387 (by decide) (fun v387 e387 => ?_)
  subst e387
  refine q_goto C 931 dL_law_389 (by decide) ?_
  refine q_widen (k2 := kk) (by omega) ?_
  refine q_loc (lw931 ω b c n m e was _) ⟨rfl, rfl, rfl, rfl, rfl, rfl, rfl, rfl, rfl, trivial⟩ ?_
  exact kK _ _ _ _ 0 0 _ _ q384 K ⟨by omega, by omega⟩ (by omega) (by omega)
set_option maxHeartbeats 8000000 in
set_option maxRecDepth 20000 in
theorem br_move (C : qCx X ω RL cL_law 20 (some .boolean) T 22 35000) (I : lq V S R g) (A : aI V S) (N : lwN V c n m e) (h7 : -2147483648 ≤ g7 ∧ g7 < 2147483648) (h8 : 0 ≤ b8 ∧ b8 ≤ n) (h9 : 0 ≤ t9 ∧ t9 < c) (hs : True) (kK : kT X ω Q b c e was V S R kk) (hk : k + 40 ≤ kk) (hkk : kk ≤ 34000) : qT X ω 20 k Q g 399 (lw154 ω b c n m e was g7 b8 t9 sr) [] := by
  refine q_nm (fun hn => ?_)
  have J := lq_J I hn
  obtain ⟨⟨N1, N2, N3⟩, N4, N5, N6, N7⟩ := N
  have J6 := J.2.2.2.2.2.1
  have J7 := J.2.2.2.2.2.2.1
  have J4 := J.2.2.2.1
  refine q_aload_n C 1 dL_law_399 rfl rfl ?_
  refine q_bipush C dL_law_400 (by decide +kernel) ?_
  refine q_iload C dL_law_402 rfl ?_
  refine q_iload C dL_law_404 rfl ?_
  refine q_iconst C dL_law_406 ?_
  refine q_SHi C (KL_why _ I A _ (by omega) _ (by omega) _ (by omega)) mL_call ml_L_110 dL_law_407 (by decide) (by omega) rfl rfl rfl (Nat.le_of_ble_eq_true rfl) (fun v407 g407 l407 u407 h407 => ?_)
  obtain ⟨rfl, q407⟩ := h407
  refine q_istoreV C dL_law_410 (by decide) (fun v410 e410 => ?_)
  subst e410
  refine q_aload_n C 1 dL_law_412 rfl rfl ?_
  refine q_bipush C dL_law_413 (by decide +kernel) ?_
  refine q_iload C dL_law_415 rfl ?_
  refine q_iload C dL_law_417 rfl ?_
  refine q_iconst C dL_law_419 ?_
  refine q_SHi C (KL_move _ q407 A _ (by omega) _ (by omega) _ (by omega)) mL_call ml_L_110 dL_law_420 (by decide) (by omega) rfl rfl rfl (Nat.le_of_ble_eq_true rfl) (fun v420 g420 l420 u420 h420 => ?_)
  obtain ⟨V1, S1, k1, r1, s420, e420, q420⟩ := h420
  refine q_nm (fun hn420 => ?_)
  have J1 := lq_J q420 hn420
  obtain ⟨K, F⟩ := op_move J A J1.1 ⟨by omega, by omega⟩ s420 e420
  have A1 := K.1
  refine q_istoreV C dL_law_423 (by decide) (fun v423 e423 => ?_)
  subst e423
  refine q_iload C dL_law_425 rfl ?_
  refine q_bipush C dL_law_427 (by decide +kernel) ?_
  refine q_icmp_ne C 436 dL_law_429 (by decide) (by omega) (by omega) (fun c429 => ?_) (fun c429 => ?_)
  · refine q_iconst C dL_law_436 ?_
    refine q_iload C dL_law_437 rfl ?_
    refine q_iflt C 446 dL_law_439 (by decide) (by omega) (fun c439 => ?_) (fun c439 => ?_)
    · refine q_iconst C dL_law_446 ?_
      refine q_icmp_ne C 481 dL_law_447 (by decide) (by omega) (by omega) (fun c447 => ?_) (fun c447 => ?_)
      · exfalso; omega
      · refine q_iload C dL_law_450 rfl ?_
        refine q_iflt C 483 dL_law_452 (by decide) (by omega) (fun c452 => ?_) (fun c452 => ?_)
        · refine q_goto C 931 dL_law_483 (by decide) ?_
          refine q_widen (k2 := kk) (by omega) ?_
          refine q_loc (lw931 ω b c n m e was _) ⟨rfl, rfl, rfl, rfl, rfl, rfl, rfl, rfl, rfl, trivial⟩ ?_
          exact kK _ _ _ _ 0 0 _ _ q420 K ⟨by omega, by omega⟩ (by omega) (by omega)
        · refine q_aload_n C 1 dL_law_455 rfl rfl ?_
          refine q_iconst C dL_law_456 ?_
          refine q_iload C dL_law_457 rfl ?_
          refine q_iconst C dL_law_459 ?_
          refine q_iconst C dL_law_460 ?_
          refine q_SHi C (KL_stackOf _ q420 A1 _ (by omega) _ (by omega) _ (by omega)) mL_call ml_L_110 dL_law_461 (by decide) (by omega) rfl rfl rfl (Nat.le_of_ble_eq_true rfl) (fun v461 g461 l461 u461 h461 => ?_)
          obtain ⟨rfl, q461⟩ := h461
          refine q_iload C dL_law_464 rfl ?_
          refine q_icmp_ne C 481 dL_law_466 (by decide) (by omega) (by omega) (fun c466 => ?_) (fun c466 => ?_)
          · exfalso; omega
          · refine q_aload_n C 1 dL_law_469 rfl rfl ?_
            refine q_iconst C dL_law_470 ?_
            refine q_iload C dL_law_471 rfl ?_
            refine q_iconst C dL_law_473 ?_
            refine q_iconst C dL_law_474 ?_
            refine q_SHi C (KL_above _ q461 A1 _ (by omega) _ (by omega) _ (by omega)) mL_call ml_L_110 dL_law_475 (by decide) (by omega) rfl rfl rfl (Nat.le_of_ble_eq_true rfl) (fun v475 g475 l475 u475 h475 => ?_)
            obtain ⟨rfl, q475⟩ := h475
            refine q_ifeq C 483 dL_law_478 (by decide) (by omega) (fun c478 => ?_) (fun c478 => ?_)
            · refine q_goto C 931 dL_law_483 (by decide) ?_
              refine q_widen (k2 := kk) (by omega) ?_
              refine q_loc (lw931 ω b c n m e was _) ⟨rfl, rfl, rfl, rfl, rfl, rfl, rfl, rfl, rfl, trivial⟩ ?_
              exact kK _ _ _ _ 0 0 _ _ q475 K ⟨by omega, by omega⟩ (by omega) (by omega)
            · exfalso; omega
    · refine q_iconst C dL_law_442 ?_
      refine q_goto C 447 dL_law_443 (by decide) ?_
      refine q_icmp_ne C 481 dL_law_447 (by decide) (by omega) (by omega) (fun c447 => ?_) (fun c447 => ?_)
      · exfalso; omega
      · refine q_iload C dL_law_450 rfl ?_
        refine q_iflt C 483 dL_law_452 (by decide) (by omega) (fun c452 => ?_) (fun c452 => ?_)
        · refine q_goto C 931 dL_law_483 (by decide) ?_
          refine q_widen (k2 := kk) (by omega) ?_
          refine q_loc (lw931 ω b c n m e was _) ⟨rfl, rfl, rfl, rfl, rfl, rfl, rfl, rfl, rfl, trivial⟩ ?_
          exact kK _ _ _ _ 0 0 _ _ q420 K ⟨by omega, by omega⟩ (by omega) (by omega)
        · refine q_aload_n C 1 dL_law_455 rfl rfl ?_
          refine q_iconst C dL_law_456 ?_
          refine q_iload C dL_law_457 rfl ?_
          refine q_iconst C dL_law_459 ?_
          refine q_iconst C dL_law_460 ?_
          refine q_SHi C (KL_stackOf _ q420 A1 _ (by omega) _ (by omega) _ (by omega)) mL_call ml_L_110 dL_law_461 (by decide) (by omega) rfl rfl rfl (Nat.le_of_ble_eq_true rfl) (fun v461 g461 l461 u461 h461 => ?_)
          obtain ⟨rfl, q461⟩ := h461
          refine q_iload C dL_law_464 rfl ?_
          refine q_icmp_ne C 481 dL_law_466 (by decide) (by omega) (by omega) (fun c466 => ?_) (fun c466 => ?_)
          · exfalso; omega
          · refine q_aload_n C 1 dL_law_469 rfl rfl ?_
            refine q_iconst C dL_law_470 ?_
            refine q_iload C dL_law_471 rfl ?_
            refine q_iconst C dL_law_473 ?_
            refine q_iconst C dL_law_474 ?_
            refine q_SHi C (KL_above _ q461 A1 _ (by omega) _ (by omega) _ (by omega)) mL_call ml_L_110 dL_law_475 (by decide) (by omega) rfl rfl rfl (Nat.le_of_ble_eq_true rfl) (fun v475 g475 l475 u475 h475 => ?_)
            obtain ⟨rfl, q475⟩ := h475
            refine q_ifeq C 483 dL_law_478 (by decide) (by omega) (fun c478 => ?_) (fun c478 => ?_)
            · refine q_goto C 931 dL_law_483 (by decide) ?_
              refine q_widen (k2 := kk) (by omega) ?_
              refine q_loc (lw931 ω b c n m e was _) ⟨rfl, rfl, rfl, rfl, rfl, rfl, rfl, rfl, rfl, trivial⟩ ?_
              exact kK _ _ _ _ 0 0 _ _ q475 K ⟨by omega, by omega⟩ (by omega) (by omega)
            · exfalso; omega
  · refine q_iconst C dL_law_432 ?_
    refine q_goto C 437 dL_law_433 (by decide) ?_
    refine q_iload C dL_law_437 rfl ?_
    refine q_iflt C 446 dL_law_439 (by decide) (by omega) (fun c439 => ?_) (fun c439 => ?_)
    · refine q_iconst C dL_law_446 ?_
      refine q_icmp_ne C 481 dL_law_447 (by decide) (by omega) (by omega) (fun c447 => ?_) (fun c447 => ?_)
      · exfalso; omega
      · refine q_iload C dL_law_450 rfl ?_
        refine q_iflt C 483 dL_law_452 (by decide) (by omega) (fun c452 => ?_) (fun c452 => ?_)
        · refine q_goto C 931 dL_law_483 (by decide) ?_
          refine q_widen (k2 := kk) (by omega) ?_
          refine q_loc (lw931 ω b c n m e was _) ⟨rfl, rfl, rfl, rfl, rfl, rfl, rfl, rfl, rfl, trivial⟩ ?_
          exact kK _ _ _ _ 0 0 _ _ q420 K ⟨by omega, by omega⟩ (by omega) (by omega)
        · refine q_aload_n C 1 dL_law_455 rfl rfl ?_
          refine q_iconst C dL_law_456 ?_
          refine q_iload C dL_law_457 rfl ?_
          refine q_iconst C dL_law_459 ?_
          refine q_iconst C dL_law_460 ?_
          refine q_SHi C (KL_stackOf _ q420 A1 _ (by omega) _ (by omega) _ (by omega)) mL_call ml_L_110 dL_law_461 (by decide) (by omega) rfl rfl rfl (Nat.le_of_ble_eq_true rfl) (fun v461 g461 l461 u461 h461 => ?_)
          obtain ⟨rfl, q461⟩ := h461
          refine q_iload C dL_law_464 rfl ?_
          refine q_icmp_ne C 481 dL_law_466 (by decide) (by omega) (by omega) (fun c466 => ?_) (fun c466 => ?_)
          · exfalso; omega
          · refine q_aload_n C 1 dL_law_469 rfl rfl ?_
            refine q_iconst C dL_law_470 ?_
            refine q_iload C dL_law_471 rfl ?_
            refine q_iconst C dL_law_473 ?_
            refine q_iconst C dL_law_474 ?_
            refine q_SHi C (KL_above _ q461 A1 _ (by omega) _ (by omega) _ (by omega)) mL_call ml_L_110 dL_law_475 (by decide) (by omega) rfl rfl rfl (Nat.le_of_ble_eq_true rfl) (fun v475 g475 l475 u475 h475 => ?_)
            obtain ⟨rfl, q475⟩ := h475
            refine q_ifeq C 483 dL_law_478 (by decide) (by omega) (fun c478 => ?_) (fun c478 => ?_)
            · refine q_goto C 931 dL_law_483 (by decide) ?_
              refine q_widen (k2 := kk) (by omega) ?_
              refine q_loc (lw931 ω b c n m e was _) ⟨rfl, rfl, rfl, rfl, rfl, rfl, rfl, rfl, rfl, trivial⟩ ?_
              exact kK _ _ _ _ 0 0 _ _ q475 K ⟨by omega, by omega⟩ (by omega) (by omega)
            · exfalso; omega
    · refine q_iconst C dL_law_442 ?_
      refine q_goto C 447 dL_law_443 (by decide) ?_
      refine q_icmp_ne C 481 dL_law_447 (by decide) (by omega) (by omega) (fun c447 => ?_) (fun c447 => ?_)
      · exfalso; omega
      · refine q_iload C dL_law_450 rfl ?_
        refine q_iflt C 483 dL_law_452 (by decide) (by omega) (fun c452 => ?_) (fun c452 => ?_)
        · refine q_goto C 931 dL_law_483 (by decide) ?_
          refine q_widen (k2 := kk) (by omega) ?_
          refine q_loc (lw931 ω b c n m e was _) ⟨rfl, rfl, rfl, rfl, rfl, rfl, rfl, rfl, rfl, trivial⟩ ?_
          exact kK _ _ _ _ 0 0 _ _ q420 K ⟨by omega, by omega⟩ (by omega) (by omega)
        · refine q_aload_n C 1 dL_law_455 rfl rfl ?_
          refine q_iconst C dL_law_456 ?_
          refine q_iload C dL_law_457 rfl ?_
          refine q_iconst C dL_law_459 ?_
          refine q_iconst C dL_law_460 ?_
          refine q_SHi C (KL_stackOf _ q420 A1 _ (by omega) _ (by omega) _ (by omega)) mL_call ml_L_110 dL_law_461 (by decide) (by omega) rfl rfl rfl (Nat.le_of_ble_eq_true rfl) (fun v461 g461 l461 u461 h461 => ?_)
          obtain ⟨rfl, q461⟩ := h461
          refine q_iload C dL_law_464 rfl ?_
          refine q_icmp_ne C 481 dL_law_466 (by decide) (by omega) (by omega) (fun c466 => ?_) (fun c466 => ?_)
          · exfalso; omega
          · refine q_aload_n C 1 dL_law_469 rfl rfl ?_
            refine q_iconst C dL_law_470 ?_
            refine q_iload C dL_law_471 rfl ?_
            refine q_iconst C dL_law_473 ?_
            refine q_iconst C dL_law_474 ?_
            refine q_SHi C (KL_above _ q461 A1 _ (by omega) _ (by omega) _ (by omega)) mL_call ml_L_110 dL_law_475 (by decide) (by omega) rfl rfl rfl (Nat.le_of_ble_eq_true rfl) (fun v475 g475 l475 u475 h475 => ?_)
            obtain ⟨rfl, q475⟩ := h475
            refine q_ifeq C 483 dL_law_478 (by decide) (by omega) (fun c478 => ?_) (fun c478 => ?_)
            · refine q_goto C 931 dL_law_483 (by decide) ?_
              refine q_widen (k2 := kk) (by omega) ?_
              refine q_loc (lw931 ω b c n m e was _) ⟨rfl, rfl, rfl, rfl, rfl, rfl, rfl, rfl, rfl, trivial⟩ ?_
              exact kK _ _ _ _ 0 0 _ _ q475 K ⟨by omega, by omega⟩ (by omega) (by omega)
            · exfalso; omega
set_option maxHeartbeats 8000000 in
set_option maxRecDepth 20000 in
theorem br_dig (C : qCx X ω RL cL_law 20 (some .boolean) T 22 35000) (I : lq V S R g) (A : aI V S) (N : lwN V c n m e) (h7 : -2147483648 ≤ g7 ∧ g7 < 2147483648) (h8 : 0 ≤ b8 ∧ b8 ≤ n) (h9 : 0 ≤ t9 ∧ t9 < c) (hs : True) (kK : kT X ω Q b c e was V S R kk) (hk : k + 40 ≤ kk) (hkk : kk ≤ 34000) : qT X ω 20 k Q g 493 (lw154 ω b c n m e was g7 b8 t9 sr) [] := by
  refine q_nm (fun hn => ?_)
  have J := lq_J I hn
  obtain ⟨⟨N1, N2, N3⟩, N4, N5, N6, N7⟩ := N
  have J6 := J.2.2.2.2.2.1
  have J7 := J.2.2.2.2.2.2.1
  have J4 := J.2.2.2.1
  refine q_aload_n C 1 dL_law_493 rfl rfl ?_
  refine q_bipush C dL_law_494 (by decide +kernel) ?_
  refine q_iload C dL_law_496 rfl ?_
  refine q_iconst C dL_law_498 ?_
  refine q_iconst C dL_law_499 ?_
  refine q_SHi C (KL_planLength _ I A _ (by omega) _ (by omega) _ (by omega)) mL_call ml_L_110 dL_law_500 (by decide) (by omega) rfl rfl rfl (Nat.le_of_ble_eq_true rfl) (fun v500 g500 l500 u500 h500 => ?_)
  obtain ⟨rfl, q500⟩ := h500
  refine q_istoreV C dL_law_503 (by decide) (fun v503 e503 => ?_)
  subst e503
  refine q_aload_n C 1 dL_law_505 rfl rfl ?_
  refine q_iconst C dL_law_506 ?_
  refine q_iload C dL_law_507 rfl ?_
  refine q_iconst C dL_law_509 ?_
  refine q_iconst C dL_law_510 ?_
  refine q_SHi C (KL_level _ q500 A _ (by omega) _ (by omega) _ (by omega)) mL_call ml_L_110 dL_law_511 (by decide) (by omega) rfl rfl rfl (Nat.le_of_ble_eq_true rfl) (fun v511 g511 l511 u511 h511 => ?_)
  obtain ⟨rfl, q511⟩ := h511
  refine q_istoreV C dL_law_514 (by decide) (fun v514 e514 => ?_)
  subst e514
  refine q_aload_n C 1 dL_law_516 rfl rfl ?_
  refine q_iconst C dL_law_517 ?_
  refine q_iload C dL_law_518 rfl ?_
  refine q_iconst C dL_law_520 ?_
  refine q_iconst C dL_law_521 ?_
  refine q_SHi C (KL_stackOf _ q511 A _ (by omega) _ (by omega) _ (by omega)) mL_call ml_L_110 dL_law_522 (by decide) (by omega) rfl rfl rfl (Nat.le_of_ble_eq_true rfl) (fun v522 g522 l522 u522 h522 => ?_)
  obtain ⟨rfl, q522⟩ := h522
  refine q_istoreV C dL_law_525 (by decide) (fun v525 e525 => ?_)
  subst e525
  refine q_aload_n C 1 dL_law_527 rfl rfl ?_
  refine q_nm (fun hq528 => ?_)
  refine q_Vi0 (P := cP_moves _) C (KX5_moves _ ) mX5_moves ml_L_120 dL_law_528 (by decide) (by omega) rfl rfl rfl (Nat.le_of_ble_eq_true rfl) rfl (by decide) rfl rfl (fun v528 g528 l528 u528 h528 => ?_)
  obtain ⟨rfl, q528⟩ := KD_moves q522 A hq528 h528
  refine q_istoreV C dL_law_531 (by decide) (fun v531 e531 => ?_)
  subst e531
  refine q_iload C dL_law_533 rfl ?_
  refine q_ifle C 554 dL_law_535 (by decide) (by omega) (fun c535 => ?_) (fun c535 => ?_)
  · refine q_iconst C dL_law_554 ?_
    refine q_istoreV C dL_law_555 (by decide) (fun v555 e555 => ?_)
    subst e555
    refine q_iload C dL_law_557 rfl ?_
    refine q_ifle C 578 dL_law_559 (by decide) (by omega) (fun c559 => ?_) (fun c559 => ?_)
    · refine q_iconst C dL_law_578 ?_
      refine q_istoreV C dL_law_579 (by decide) (fun v579 e579 => ?_)
      subst e579
      refine q_aload_n C 1 dL_law_581 rfl rfl ?_
      refine q_bipush C dL_law_582 (by decide +kernel) ?_
      refine q_iload C dL_law_584 rfl ?_
      refine q_iconst C dL_law_586 ?_
      refine q_iconst C dL_law_587 ?_
      refine q_SHi C (KL_dig _ q528 A _ (by omega) _ (by omega) _ (by omega)) mL_call ml_L_110 dL_law_588 (by decide) (by omega) rfl rfl rfl (Nat.le_of_ble_eq_true rfl) (fun v588 g588 l588 u588 h588 => ?_)
      obtain ⟨V1, S1, k1, r1, s588, e588, q588⟩ := h588
      refine q_nm (fun hn588 => ?_)
      have J1 := lq_J q588 hn588
      obtain ⟨K, F0, F⟩ := op_dig J A J1.1 ⟨by omega, by omega⟩ s588 e588
      have A1 := K.1
      subst F0
      refine q_istoreV C dL_law_591 (by decide) (fun v591 e591 => ?_)
      subst e591
      refine q_iload C dL_law_593 rfl ?_
      refine q_iload C dL_law_595 rfl ?_
      refine q_icmp_ne C 688 dL_law_597 (by decide) (by omega) (by omega) (fun c597 => ?_) (fun c597 => ?_)
      · exfalso; omega
      · refine q_iload C dL_law_600 rfl ?_
        refine q_iflt C 690 dL_law_602 (by decide) (by omega) (fun c602 => ?_) (fun c602 => ?_)
        · refine q_goto C 931 dL_law_690 (by decide) ?_
          refine q_widen (k2 := kk) (by omega) ?_
          refine q_loc (lw931 ω b c n m e was _) ⟨rfl, rfl, rfl, rfl, rfl, rfl, rfl, rfl, rfl, trivial⟩ ?_
          exact kK _ _ _ _ 0 0 _ _ q588 K ⟨by omega, by omega⟩ (by omega) (by omega)
        · refine q_aload_n C 1 dL_law_605 rfl rfl ?_
          refine q_iconst C dL_law_606 ?_
          refine q_iload C dL_law_607 rfl ?_
          refine q_iconst C dL_law_609 ?_
          refine q_iconst C dL_law_610 ?_
          refine q_SHi C (KL_above _ q588 A1 _ (by omega) _ (by omega) _ (by omega)) mL_call ml_L_110 dL_law_611 (by decide) (by omega) rfl rfl rfl (Nat.le_of_ble_eq_true rfl) (fun v611 g611 l611 u611 h611 => ?_)
          obtain ⟨rfl, q611⟩ := h611
          refine q_ifne C 688 dL_law_614 (by decide) (by omega) (fun c614 => ?_) (fun c614 => ?_)
          · exfalso; omega
          · refine q_aload_n C 1 dL_law_617 rfl rfl ?_
            refine q_iconst C dL_law_618 ?_
            refine q_iload C dL_law_619 rfl ?_
            refine q_iconst C dL_law_621 ?_
            refine q_iconst C dL_law_622 ?_
            refine q_SHi C (KL_level _ q611 A1 _ (by omega) _ (by omega) _ (by omega)) mL_call ml_L_110 dL_law_623 (by decide) (by omega) rfl rfl rfl (Nat.le_of_ble_eq_true rfl) (fun v623 g623 l623 u623 h623 => ?_)
            obtain ⟨rfl, q623⟩ := h623
            refine q_iload C dL_law_626 rfl ?_
            refine q_icmp_ne C 688 dL_law_628 (by decide) (by omega) (by omega) (fun c628 => ?_) (fun c628 => ?_)
            · exfalso; omega
            · refine q_aload_n C 1 dL_law_631 rfl rfl ?_
              refine q_iconst C dL_law_632 ?_
              refine q_iload C dL_law_633 rfl ?_
              refine q_iconst C dL_law_635 ?_
              refine q_iconst C dL_law_636 ?_
              refine q_SHi C (KL_stackOf _ q623 A1 _ (by omega) _ (by omega) _ (by omega)) mL_call ml_L_110 dL_law_637 (by decide) (by omega) rfl rfl rfl (Nat.le_of_ble_eq_true rfl) (fun v637 g637 l637 u637 h637 => ?_)
              obtain ⟨rfl, q637⟩ := h637
              refine q_iload C dL_law_640 rfl ?_
              refine q_icmp_ne C 688 dL_law_642 (by decide) (by omega) (by omega) (fun c642 => ?_) (fun c642 => ?_)
              · exfalso; omega
              · refine q_aload_n C 1 dL_law_645 rfl rfl ?_
                refine q_nm (fun hq646 => ?_)
                refine q_Vi0 (P := cP_moves _) C (KX5_moves _ ) mX5_moves ml_L_120 dL_law_646 (by decide) (by omega) rfl rfl rfl (Nat.le_of_ble_eq_true rfl) rfl (by decide) rfl rfl (fun v646 g646 l646 u646 h646 => ?_)
                obtain ⟨rfl, q646⟩ := KD_moves q637 A1 hq646 h646
                refine q_iload C dL_law_649 rfl ?_
                refine q_iload C dL_law_651 rfl ?_
                refine q_iadd C dL_law_653 ?_
                refine q_icmp_ne C 688 dL_law_654 (by decide) (by omega) (by omega) (fun c654 => ?_) (fun c654 => ?_)
                · exfalso; omega
                · refine q_iload C dL_law_657 rfl ?_
                  refine q_ifle C 690 dL_law_659 (by decide) (by omega) (fun c659 => ?_) (fun c659 => ?_)
                  · refine q_goto C 931 dL_law_690 (by decide) ?_
                    refine q_widen (k2 := kk) (by omega) ?_
                    refine q_loc (lw931 ω b c n m e was _) ⟨rfl, rfl, rfl, rfl, rfl, rfl, rfl, rfl, rfl, trivial⟩ ?_
                    exact kK _ _ _ _ 0 0 _ _ q646 K ⟨by omega, by omega⟩ (by omega) (by omega)
                  · exfalso; omega
    · exfalso; omega
  · refine q_aload_n C 1 dL_law_538 rfl rfl ?_
    refine q_bipush C dL_law_539 (by decide +kernel) ?_
    refine q_iload C dL_law_541 rfl ?_
    refine q_iload C dL_law_543 rfl ?_
    refine q_iconst C dL_law_545 ?_
    refine q_isub C dL_law_546 ?_
    refine q_iconst C dL_law_547 ?_
    refine q_SHi C (KL_planBox _ q528 A _ (by omega) _ (by omega) _ (by omega)) mL_call ml_L_110 dL_law_548 (by decide) (by omega) rfl rfl rfl (Nat.le_of_ble_eq_true rfl) (fun v548 g548 l548 u548 h548 => ?_)
    obtain ⟨rfl, q548⟩ := h548
    refine q_goto C 555 dL_law_551 (by decide) ?_
    refine q_istoreV C dL_law_555 (by decide) (fun v555 e555 => ?_)
    subst e555
    refine q_iload C dL_law_557 rfl ?_
    refine q_ifle C 578 dL_law_559 (by decide) (by omega) (fun c559 => ?_) (fun c559 => ?_)
    · exfalso; omega
    · refine q_aload_n C 1 dL_law_562 rfl rfl ?_
      refine q_bipush C dL_law_563 (by decide +kernel) ?_
      refine q_iload C dL_law_565 rfl ?_
      refine q_iload C dL_law_567 rfl ?_
      refine q_iconst C dL_law_569 ?_
      refine q_isub C dL_law_570 ?_
      refine q_iconst C dL_law_571 ?_
      refine q_SHi C (KL_planStack _ q548 A _ (by omega) _ (by omega) _ (by omega)) mL_call ml_L_110 dL_law_572 (by decide) (by omega) rfl rfl rfl (Nat.le_of_ble_eq_true rfl) (fun v572 g572 l572 u572 h572 => ?_)
      obtain ⟨rfl, q572⟩ := h572
      refine q_goto C 579 dL_law_575 (by decide) ?_
      refine q_istoreV C dL_law_579 (by decide) (fun v579 e579 => ?_)
      subst e579
      refine q_aload_n C 1 dL_law_581 rfl rfl ?_
      refine q_bipush C dL_law_582 (by decide +kernel) ?_
      refine q_iload C dL_law_584 rfl ?_
      refine q_iconst C dL_law_586 ?_
      refine q_iconst C dL_law_587 ?_
      refine q_SHi C (KL_dig _ q572 A _ (by omega) _ (by omega) _ (by omega)) mL_call ml_L_110 dL_law_588 (by decide) (by omega) rfl rfl rfl (Nat.le_of_ble_eq_true rfl) (fun v588 g588 l588 u588 h588 => ?_)
      obtain ⟨V1, S1, k1, r1, s588, e588, q588⟩ := h588
      refine q_nm (fun hn588 => ?_)
      have J1 := lq_J q588 hn588
      obtain ⟨K, F0, F⟩ := op_dig J A J1.1 ⟨by omega, by omega⟩ s588 e588
      have A1 := K.1
      subst F0
      refine q_istoreV C dL_law_591 (by decide) (fun v591 e591 => ?_)
      subst e591
      refine q_iload C dL_law_593 rfl ?_
      refine q_iload C dL_law_595 rfl ?_
      refine q_icmp_ne C 688 dL_law_597 (by decide) (by omega) (by omega) (fun c597 => ?_) (fun c597 => ?_)
      · exfalso; omega
      · refine q_iload C dL_law_600 rfl ?_
        refine q_iflt C 690 dL_law_602 (by decide) (by omega) (fun c602 => ?_) (fun c602 => ?_)
        · refine q_goto C 931 dL_law_690 (by decide) ?_
          refine q_widen (k2 := kk) (by omega) ?_
          refine q_loc (lw931 ω b c n m e was _) ⟨rfl, rfl, rfl, rfl, rfl, rfl, rfl, rfl, rfl, trivial⟩ ?_
          exact kK _ _ _ _ 0 0 _ _ q588 K ⟨by omega, by omega⟩ (by omega) (by omega)
        · refine q_aload_n C 1 dL_law_605 rfl rfl ?_
          refine q_iconst C dL_law_606 ?_
          refine q_iload C dL_law_607 rfl ?_
          refine q_iconst C dL_law_609 ?_
          refine q_iconst C dL_law_610 ?_
          refine q_SHi C (KL_above _ q588 A1 _ (by omega) _ (by omega) _ (by omega)) mL_call ml_L_110 dL_law_611 (by decide) (by omega) rfl rfl rfl (Nat.le_of_ble_eq_true rfl) (fun v611 g611 l611 u611 h611 => ?_)
          obtain ⟨rfl, q611⟩ := h611
          refine q_ifne C 688 dL_law_614 (by decide) (by omega) (fun c614 => ?_) (fun c614 => ?_)
          · exfalso; omega
          · refine q_aload_n C 1 dL_law_617 rfl rfl ?_
            refine q_iconst C dL_law_618 ?_
            refine q_iload C dL_law_619 rfl ?_
            refine q_iconst C dL_law_621 ?_
            refine q_iconst C dL_law_622 ?_
            refine q_SHi C (KL_level _ q611 A1 _ (by omega) _ (by omega) _ (by omega)) mL_call ml_L_110 dL_law_623 (by decide) (by omega) rfl rfl rfl (Nat.le_of_ble_eq_true rfl) (fun v623 g623 l623 u623 h623 => ?_)
            obtain ⟨rfl, q623⟩ := h623
            refine q_iload C dL_law_626 rfl ?_
            refine q_icmp_ne C 688 dL_law_628 (by decide) (by omega) (by omega) (fun c628 => ?_) (fun c628 => ?_)
            · exfalso; omega
            · refine q_aload_n C 1 dL_law_631 rfl rfl ?_
              refine q_iconst C dL_law_632 ?_
              refine q_iload C dL_law_633 rfl ?_
              refine q_iconst C dL_law_635 ?_
              refine q_iconst C dL_law_636 ?_
              refine q_SHi C (KL_stackOf _ q623 A1 _ (by omega) _ (by omega) _ (by omega)) mL_call ml_L_110 dL_law_637 (by decide) (by omega) rfl rfl rfl (Nat.le_of_ble_eq_true rfl) (fun v637 g637 l637 u637 h637 => ?_)
              obtain ⟨rfl, q637⟩ := h637
              refine q_iload C dL_law_640 rfl ?_
              refine q_icmp_ne C 688 dL_law_642 (by decide) (by omega) (by omega) (fun c642 => ?_) (fun c642 => ?_)
              · exfalso; omega
              · refine q_aload_n C 1 dL_law_645 rfl rfl ?_
                refine q_nm (fun hq646 => ?_)
                refine q_Vi0 (P := cP_moves _) C (KX5_moves _ ) mX5_moves ml_L_120 dL_law_646 (by decide) (by omega) rfl rfl rfl (Nat.le_of_ble_eq_true rfl) rfl (by decide) rfl rfl (fun v646 g646 l646 u646 h646 => ?_)
                obtain ⟨rfl, q646⟩ := KD_moves q637 A1 hq646 h646
                refine q_iload C dL_law_649 rfl ?_
                refine q_iload C dL_law_651 rfl ?_
                refine q_iadd C dL_law_653 ?_
                refine q_icmp_ne C 688 dL_law_654 (by decide) (by omega) (by omega) (fun c654 => ?_) (fun c654 => ?_)
                · exfalso; omega
                · refine q_iload C dL_law_657 rfl ?_
                  refine q_ifle C 690 dL_law_659 (by decide) (by omega) (fun c659 => ?_) (fun c659 => ?_)
                  · refine q_goto C 931 dL_law_690 (by decide) ?_
                    refine q_widen (k2 := kk) (by omega) ?_
                    refine q_loc (lw931 ω b c n m e was _) ⟨rfl, rfl, rfl, rfl, rfl, rfl, rfl, rfl, rfl, trivial⟩ ?_
                    exact kK _ _ _ _ 0 0 _ _ q646 K ⟨by omega, by omega⟩ (by omega) (by omega)
                  · refine q_aload_n C 1 dL_law_662 rfl rfl ?_
                    refine q_iconst C dL_law_663 ?_
                    refine q_iload C dL_law_664 rfl ?_
                    refine q_iconst C dL_law_666 ?_
                    refine q_iconst C dL_law_667 ?_
                    refine q_SHi C (KL_stackOf _ q646 A1 _ (by omega) _ (by omega) _ (by omega)) mL_call ml_L_110 dL_law_668 (by decide) (by omega) rfl rfl rfl (Nat.le_of_ble_eq_true rfl) (fun v668 g668 l668 u668 h668 => ?_)
                    obtain ⟨rfl, q668⟩ := h668
                    refine q_iload C dL_law_671 rfl ?_
                    refine q_icmp_ne C 688 dL_law_673 (by decide) (by omega) (by omega) (fun c673 => ?_) (fun c673 => ?_)
                    · exfalso; omega
                    · refine q_aload_n C 1 dL_law_676 rfl rfl ?_
                      refine q_iconst C dL_law_677 ?_
                      refine q_iload C dL_law_678 rfl ?_
                      refine q_iconst C dL_law_680 ?_
                      refine q_iconst C dL_law_681 ?_
                      refine q_SHi C (KL_above _ q668 A1 _ (by omega) _ (by omega) _ (by omega)) mL_call ml_L_110 dL_law_682 (by decide) (by omega) rfl rfl rfl (Nat.le_of_ble_eq_true rfl) (fun v682 g682 l682 u682 h682 => ?_)
                      obtain ⟨rfl, q682⟩ := h682
                      refine q_ifeq C 690 dL_law_685 (by decide) (by omega) (fun c685 => ?_) (fun c685 => ?_)
                      · refine q_goto C 931 dL_law_690 (by decide) ?_
                        refine q_widen (k2 := kk) (by omega) ?_
                        refine q_loc (lw931 ω b c n m e was _) ⟨rfl, rfl, rfl, rfl, rfl, rfl, rfl, rfl, rfl, trivial⟩ ?_
                        exact kK _ _ _ _ 0 0 _ _ q682 K ⟨by omega, by omega⟩ (by omega) (by omega)
                      · exfalso; omega
set_option maxHeartbeats 8000000 in
set_option maxRecDepth 20000 in
theorem br_book (C : qCx X ω RL cL_law 20 (some .boolean) T 22 35000) (I : lq V S R g) (A : aI V S) (N : lwN V c n m e) (h7 : -2147483648 ≤ g7 ∧ g7 < 2147483648) (h8 : 0 ≤ b8 ∧ b8 ≤ n) (h9 : 0 ≤ t9 ∧ t9 < c) (hs : True) (kK : kT X ω Q b c e was V S R kk) (hk : k + 40 ≤ kk) (hkk : kk ≤ 34000) : qT X ω 20 k Q g 700 (lw154 ω b c n m e was g7 b8 t9 sr) [] := by
  refine q_nm (fun hn => ?_)
  have J := lq_J I hn
  obtain ⟨⟨N1, N2, N3⟩, N4, N5, N6, N7⟩ := N
  have J6 := J.2.2.2.2.2.1
  have J7 := J.2.2.2.2.2.2.1
  have J4 := J.2.2.2.1
  refine q_iload C dL_law_700 rfl ?_
  refine q_bipush C dL_law_702 (by decide +kernel) ?_
  refine q_ishr C dL_law_704 _ (shI_v _ _) ?_
  refine q_iconst C dL_law_705 ?_
  refine q_lowR C (by omega) (Nat.le_of_ble_eq_true rfl) dL_law_706 (by decide) (by omega) (fun a706 b706 => ?_)
  refine q_ifne C 725 dL_law_709 (by decide) (by omega) (fun c709 => ?_) (fun c709 => ?_)
  · refine q_aload_n C 1 dL_law_725 rfl rfl ?_
    refine q_nm (fun hq726 => ?_)
    refine q_Vi0 (P := cP_now _) C (KX5_now _ ) mX5_now ml_L_124 dL_law_726 (by decide) (by omega) rfl rfl rfl (Nat.le_of_ble_eq_true rfl) rfl (by decide) rfl rfl (fun v726 g726 l726 u726 h726 => ?_)
    obtain ⟨rfl, q726⟩ := KD_now I A hq726 h726
    refine q_iload C dL_law_729 rfl ?_
    refine q_bipush C dL_law_731 (by decide +kernel) ?_
    refine q_ishr C dL_law_733 _ (shI_v _ _) ?_
    refine q_bipush C dL_law_734 (by decide +kernel) ?_
    refine q_lowR C (by omega) (Nat.le_of_ble_eq_true rfl) dL_law_736 (by decide) (by omega) (fun a736 b736 => ?_)
    refine q_iadd C dL_law_739 ?_
    refine q_istoreV C dL_law_740 (by decide) (fun v740 e740 => ?_)
    subst e740
    refine q_aload_n C 1 dL_law_742 rfl rfl ?_
    refine q_bipush C dL_law_743 (by decide +kernel) ?_
    refine q_iload C dL_law_745 rfl ?_
    refine q_iconst C dL_law_747 ?_
    refine q_iconst C dL_law_748 ?_
    refine q_SHi C (KL_heldUntil _ q726 A _ (by omega) _ (by omega) _ (by omega)) mL_call ml_L_110 dL_law_749 (by decide) (by omega) rfl rfl rfl (Nat.le_of_ble_eq_true rfl) (fun v749 g749 l749 u749 h749 => ?_)
    obtain ⟨rfl, q749⟩ := h749
    refine q_istoreV C dL_law_752 (by decide) (fun v752 e752 => ?_)
    subst e752
    refine q_aload_n C 1 dL_law_754 rfl rfl ?_
    refine q_bipush C dL_law_755 (by decide +kernel) ?_
    refine q_iload C dL_law_757 rfl ?_
    refine q_iload C dL_law_759 rfl ?_
    refine q_iload C dL_law_761 rfl ?_
    refine q_bipush C dL_law_763 (by decide +kernel) ?_
    refine q_ishr C dL_law_765 _ (shI_v _ _) ?_
    refine q_iconst C dL_law_766 ?_
    refine q_lowR C (by omega) (Nat.le_of_ble_eq_true rfl) dL_law_767 (by decide) (by omega) (fun a767 b767 => ?_)
    refine q_SHi C (KL_book _ q749 A _ (by omega) _ (by omega) _ (by omega)) mL_call ml_L_110 dL_law_770 (by decide) (by omega) rfl rfl rfl (Nat.le_of_ble_eq_true rfl) (fun v770 g770 l770 u770 h770 => ?_)
    obtain ⟨V1, S1, k1, r1, s770, e770, q770⟩ := h770
    refine q_nm (fun hn770 => ?_)
    have J1 := lq_J q770 hn770
    obtain ⟨A1, Kn, Kp, F⟩ := op_book2 J A s770 e770
    refine q_istoreV C dL_law_773 (by decide) (fun v773 e773 => ?_)
    subst e773
    refine q_iload C dL_law_775 rfl ?_
    refine q_iflt C 852 dL_law_777 (by decide) (by omega) (fun c777 => ?_) (fun c777 => ?_)
    · refine q_goto C 931 dL_law_852 (by decide) ?_
      refine q_widen (k2 := kk) (by omega) ?_
      refine q_loc (lw931 ω b c n m e was _) ⟨rfl, rfl, rfl, rfl, rfl, rfl, rfl, rfl, rfl, trivial⟩ ?_
      exact kK _ _ _ _ 0 0 _ _ q770 (Kn (by omega)) ⟨by omega, by omega⟩ (by omega) (by omega)
    · refine q_iload C dL_law_780 rfl ?_
      refine q_iload C dL_law_782 rfl ?_
      refine q_icmp_ne C 847 dL_law_784 (by decide) (by omega) (by omega) (fun c784 => ?_) (fun c784 => ?_)
      · exfalso; omega
      · refine q_aload_n C 1 dL_law_787 rfl rfl ?_
        refine q_bipush C dL_law_788 (by decide +kernel) ?_
        refine q_iload C dL_law_790 rfl ?_
        refine q_iconst C dL_law_792 ?_
        refine q_iconst C dL_law_793 ?_
        refine q_SHi C (KL_stateOf _ q770 A1 _ (by omega) _ (by omega) _ (by omega)) mL_call ml_L_110 dL_law_794 (by decide) (by omega) rfl rfl rfl (Nat.le_of_ble_eq_true rfl) (fun v794 g794 l794 u794 h794 => ?_)
        obtain ⟨rfl, q794⟩ := h794
        refine q_bipush C dL_law_797 (by decide +kernel) ?_
        refine q_icmp_ne C 847 dL_law_799 (by decide) (by omega) (by omega) (fun c799 => ?_) (fun c799 => ?_)
        · exfalso; omega
        · refine q_aload_n C 1 dL_law_802 rfl rfl ?_
          refine q_bipush C dL_law_803 (by decide +kernel) ?_
          refine q_iload C dL_law_805 rfl ?_
          refine q_iconst C dL_law_807 ?_
          refine q_iconst C dL_law_808 ?_
          refine q_SHi C (KL_appointmentOf _ q794 A1 _ (by omega) _ (by omega) _ (by omega)) mL_call ml_L_110 dL_law_809 (by decide) (by omega) rfl rfl rfl (Nat.le_of_ble_eq_true rfl) (fun v809 g809 l809 u809 h809 => ?_)
          obtain ⟨rfl, q809⟩ := h809
          refine q_iload C dL_law_812 rfl ?_
          refine q_icmp_ne C 847 dL_law_814 (by decide) (by omega) (by omega) (fun c814 => ?_) (fun c814 => ?_)
          · exfalso; omega
          · refine q_aload_n C 1 dL_law_817 rfl rfl ?_
            refine q_bipush C dL_law_818 (by decide +kernel) ?_
            refine q_iload C dL_law_820 rfl ?_
            refine q_bipush C dL_law_822 (by decide +kernel) ?_
            refine q_ishr C dL_law_824 _ (shI_v _ _) ?_
            refine q_iconst C dL_law_825 ?_
            refine q_lowR C (by omega) (Nat.le_of_ble_eq_true rfl) dL_law_826 (by decide) (by omega) (fun a826 b826 => ?_)
            refine q_iload C dL_law_829 rfl ?_
            refine q_iconst C dL_law_831 ?_
            refine q_SHi C (KL_inLane _ q809 A1 _ (by omega) _ (by omega) _ (by omega)) mL_call ml_L_110 dL_law_832 (by decide) (by omega) rfl rfl rfl (Nat.le_of_ble_eq_true rfl) (fun v832 g832 l832 u832 h832 => ?_)
            obtain ⟨rfl, q832⟩ := h832
            refine q_iload C dL_law_835 rfl ?_
            refine q_icmp_ne C 847 dL_law_837 (by decide) (by omega) (by omega) (fun c837 => ?_) (fun c837 => ?_)
            · exfalso; omega
            · refine q_iload C dL_law_840 rfl ?_
              refine q_iload C dL_law_842 rfl ?_
              refine q_icmp_le C 849 dL_law_844 (by decide) (by omega) (by omega) (fun c844 => ?_) (fun c844 => ?_)
              · refine q_iinc C dL_law_849 rfl (by decide) (fun v849 e849 => ?_)
                subst e849
                refine q_goto C 931 dL_law_852 (by decide) ?_
                refine q_widen (k2 := kk) (by omega) ?_
                refine q_loc (lw931 ω b c n (m + 1) e was _) ⟨rfl, rfl, rfl, rfl, rfl, rfl, rfl, rfl, rfl, trivial⟩ ?_
                exact kK _ _ _ _ 0 1 _ _ q832 (Kp (by omega)) ⟨by omega, by omega⟩ (by omega) (by omega)
              · exfalso; omega
  · refine q_aload_n C 1 dL_law_712 rfl rfl ?_
    refine q_bipush C dL_law_713 (by decide +kernel) ?_
    refine q_iload C dL_law_715 rfl ?_
    refine q_iconst C dL_law_717 ?_
    refine q_iconst C dL_law_718 ?_
    refine q_SHi C (KL_firstHour _ I A _ (by omega) _ (by omega) _ (by omega)) mL_call ml_L_110 dL_law_719 (by decide) (by omega) rfl rfl rfl (Nat.le_of_ble_eq_true rfl) (fun v719 g719 l719 u719 h719 => ?_)
    obtain ⟨rfl, q719⟩ := h719
    refine q_goto C 740 dL_law_722 (by decide) ?_
    refine q_istoreV C dL_law_740 (by decide) (fun v740 e740 => ?_)
    subst e740
    refine q_aload_n C 1 dL_law_742 rfl rfl ?_
    refine q_bipush C dL_law_743 (by decide +kernel) ?_
    refine q_iload C dL_law_745 rfl ?_
    refine q_iconst C dL_law_747 ?_
    refine q_iconst C dL_law_748 ?_
    refine q_SHi C (KL_heldUntil _ q719 A _ (by omega) _ (by omega) _ (by omega)) mL_call ml_L_110 dL_law_749 (by decide) (by omega) rfl rfl rfl (Nat.le_of_ble_eq_true rfl) (fun v749 g749 l749 u749 h749 => ?_)
    obtain ⟨rfl, q749⟩ := h749
    refine q_istoreV C dL_law_752 (by decide) (fun v752 e752 => ?_)
    subst e752
    refine q_aload_n C 1 dL_law_754 rfl rfl ?_
    refine q_bipush C dL_law_755 (by decide +kernel) ?_
    refine q_iload C dL_law_757 rfl ?_
    refine q_iload C dL_law_759 rfl ?_
    refine q_iload C dL_law_761 rfl ?_
    refine q_bipush C dL_law_763 (by decide +kernel) ?_
    refine q_ishr C dL_law_765 _ (shI_v _ _) ?_
    refine q_iconst C dL_law_766 ?_
    refine q_lowR C (by omega) (Nat.le_of_ble_eq_true rfl) dL_law_767 (by decide) (by omega) (fun a767 b767 => ?_)
    refine q_SHi C (KL_book _ q749 A _ (by omega) _ (by omega) _ (by omega)) mL_call ml_L_110 dL_law_770 (by decide) (by omega) rfl rfl rfl (Nat.le_of_ble_eq_true rfl) (fun v770 g770 l770 u770 h770 => ?_)
    obtain ⟨V1, S1, k1, r1, s770, e770, q770⟩ := h770
    refine q_nm (fun hn770 => ?_)
    have J1 := lq_J q770 hn770
    obtain ⟨A1, Kn, Kp, F⟩ := op_book2 J A s770 e770
    refine q_istoreV C dL_law_773 (by decide) (fun v773 e773 => ?_)
    subst e773
    refine q_iload C dL_law_775 rfl ?_
    refine q_iflt C 852 dL_law_777 (by decide) (by omega) (fun c777 => ?_) (fun c777 => ?_)
    · refine q_goto C 931 dL_law_852 (by decide) ?_
      refine q_widen (k2 := kk) (by omega) ?_
      refine q_loc (lw931 ω b c n m e was _) ⟨rfl, rfl, rfl, rfl, rfl, rfl, rfl, rfl, rfl, trivial⟩ ?_
      exact kK _ _ _ _ 0 0 _ _ q770 (Kn (by omega)) ⟨by omega, by omega⟩ (by omega) (by omega)
    · refine q_iload C dL_law_780 rfl ?_
      refine q_iload C dL_law_782 rfl ?_
      refine q_icmp_ne C 847 dL_law_784 (by decide) (by omega) (by omega) (fun c784 => ?_) (fun c784 => ?_)
      · exfalso; omega
      · refine q_aload_n C 1 dL_law_787 rfl rfl ?_
        refine q_bipush C dL_law_788 (by decide +kernel) ?_
        refine q_iload C dL_law_790 rfl ?_
        refine q_iconst C dL_law_792 ?_
        refine q_iconst C dL_law_793 ?_
        refine q_SHi C (KL_stateOf _ q770 A1 _ (by omega) _ (by omega) _ (by omega)) mL_call ml_L_110 dL_law_794 (by decide) (by omega) rfl rfl rfl (Nat.le_of_ble_eq_true rfl) (fun v794 g794 l794 u794 h794 => ?_)
        obtain ⟨rfl, q794⟩ := h794
        refine q_bipush C dL_law_797 (by decide +kernel) ?_
        refine q_icmp_ne C 847 dL_law_799 (by decide) (by omega) (by omega) (fun c799 => ?_) (fun c799 => ?_)
        · exfalso; omega
        · refine q_aload_n C 1 dL_law_802 rfl rfl ?_
          refine q_bipush C dL_law_803 (by decide +kernel) ?_
          refine q_iload C dL_law_805 rfl ?_
          refine q_iconst C dL_law_807 ?_
          refine q_iconst C dL_law_808 ?_
          refine q_SHi C (KL_appointmentOf _ q794 A1 _ (by omega) _ (by omega) _ (by omega)) mL_call ml_L_110 dL_law_809 (by decide) (by omega) rfl rfl rfl (Nat.le_of_ble_eq_true rfl) (fun v809 g809 l809 u809 h809 => ?_)
          obtain ⟨rfl, q809⟩ := h809
          refine q_iload C dL_law_812 rfl ?_
          refine q_icmp_ne C 847 dL_law_814 (by decide) (by omega) (by omega) (fun c814 => ?_) (fun c814 => ?_)
          · exfalso; omega
          · refine q_aload_n C 1 dL_law_817 rfl rfl ?_
            refine q_bipush C dL_law_818 (by decide +kernel) ?_
            refine q_iload C dL_law_820 rfl ?_
            refine q_bipush C dL_law_822 (by decide +kernel) ?_
            refine q_ishr C dL_law_824 _ (shI_v _ _) ?_
            refine q_iconst C dL_law_825 ?_
            refine q_lowR C (by omega) (Nat.le_of_ble_eq_true rfl) dL_law_826 (by decide) (by omega) (fun a826 b826 => ?_)
            refine q_iload C dL_law_829 rfl ?_
            refine q_iconst C dL_law_831 ?_
            refine q_SHi C (KL_inLane _ q809 A1 _ (by omega) _ (by omega) _ (by omega)) mL_call ml_L_110 dL_law_832 (by decide) (by omega) rfl rfl rfl (Nat.le_of_ble_eq_true rfl) (fun v832 g832 l832 u832 h832 => ?_)
            obtain ⟨rfl, q832⟩ := h832
            refine q_iload C dL_law_835 rfl ?_
            refine q_icmp_ne C 847 dL_law_837 (by decide) (by omega) (by omega) (fun c837 => ?_) (fun c837 => ?_)
            · exfalso; omega
            · refine q_iload C dL_law_840 rfl ?_
              refine q_iload C dL_law_842 rfl ?_
              refine q_icmp_le C 849 dL_law_844 (by decide) (by omega) (by omega) (fun c844 => ?_) (fun c844 => ?_)
              · refine q_iinc C dL_law_849 rfl (by decide) (fun v849 e849 => ?_)
                subst e849
                refine q_goto C 931 dL_law_852 (by decide) ?_
                refine q_widen (k2 := kk) (by omega) ?_
                refine q_loc (lw931 ω b c n (m + 1) e was _) ⟨rfl, rfl, rfl, rfl, rfl, rfl, rfl, rfl, rfl, trivial⟩ ?_
                exact kK _ _ _ _ 0 1 _ _ q832 (Kp (by omega)) ⟨by omega, by omega⟩ (by omega) (by omega)
              · exfalso; omega
set_option maxHeartbeats 8000000 in
set_option maxRecDepth 20000 in
theorem br_cancel (C : qCx X ω RL cL_law 20 (some .boolean) T 22 35000) (I : lq V S R g) (A : aI V S) (N : lwN V c n m e) (h7 : -2147483648 ≤ g7 ∧ g7 < 2147483648) (h8 : 0 ≤ b8 ∧ b8 ≤ n) (h9 : 0 ≤ t9 ∧ t9 < c) (hs : True) (kK : kT X ω Q b c e was V S R kk) (hk : k + 40 ≤ kk) (hkk : kk ≤ 34000) : qT X ω 20 k Q g 862 (lw154 ω b c n m e was g7 b8 t9 sr) [] := by
  refine q_nm (fun hn => ?_)
  have J := lq_J I hn
  obtain ⟨⟨N1, N2, N3⟩, N4, N5, N6, N7⟩ := N
  have J6 := J.2.2.2.2.2.1
  have J7 := J.2.2.2.2.2.2.1
  have J4 := J.2.2.2.1
  refine q_aload_n C 1 dL_law_862 rfl rfl ?_
  refine q_bipush C dL_law_863 (by decide +kernel) ?_
  refine q_iload C dL_law_865 rfl ?_
  refine q_bipush C dL_law_867 (by decide +kernel) ?_
  refine q_ishr C dL_law_869 _ (shI_v _ _) ?_
  refine q_iload C dL_law_870 rfl ?_
  refine q_iconst C dL_law_872 ?_
  refine q_iadd C dL_law_873 ?_
  refine q_lowR C (by omega) (Nat.le_of_ble_eq_true rfl) dL_law_874 (by decide) (by omega) (fun a874 b874 => ?_)
  refine q_iconst C dL_law_877 ?_
  refine q_iconst C dL_law_878 ?_
  refine q_SHi C (KL_cancel _ I A _ (by omega) _ (by omega) _ (by omega)) mL_call ml_L_110 dL_law_879 (by decide) (by omega) rfl rfl rfl (Nat.le_of_ble_eq_true rfl) (fun v879 g879 l879 u879 h879 => ?_)
  obtain ⟨V1, S1, k1, r1, s879, e879, q879⟩ := h879
  refine q_nm (fun hn879 => ?_)
  have J1 := lq_J q879 hn879
  have K := op_cancel J A s879 e879
  have A1 := K.1
  refine q_istoreV C dL_law_882 (by decide) (fun v882 e882 => ?_)
  subst e882
  refine q_goto C 931 dL_law_884 (by decide) ?_
  refine q_widen (k2 := kk) (by omega) ?_
  refine q_loc (lw931 ω b c n m e was _) ⟨rfl, rfl, rfl, rfl, rfl, rfl, rfl, rfl, rfl, trivial⟩ ?_
  exact kK _ _ _ _ 0 0 _ _ q879 K ⟨by omega, by omega⟩ (by omega) (by omega)
set_option maxHeartbeats 8000000 in
set_option maxRecDepth 20000 in
theorem br_pass (C : qCx X ω RL cL_law 20 (some .boolean) T 22 35000) (I : lq V S R g) (A : aI V S) (N : lwN V c n m e) (h7 : -2147483648 ≤ g7 ∧ g7 < 2147483648) (h8 : 0 ≤ b8 ∧ b8 ≤ n) (h9 : 0 ≤ t9 ∧ t9 < c) (hs : True) (kK : kT X ω Q b c e was V S R kk) (hk : k + 40 ≤ kk) (hkk : kk ≤ 34000) : qT X ω 20 k Q g 887 (lw154 ω b c n m e was g7 b8 t9 sr) [] := by
  refine q_nm (fun hn => ?_)
  have J := lq_J I hn
  obtain ⟨⟨N1, N2, N3⟩, N4, N5, N6, N7⟩ := N
  have J6 := J.2.2.2.2.2.1
  have J7 := J.2.2.2.2.2.2.1
  have J4 := J.2.2.2.1
  refine q_aload_n C 1 dL_law_887 rfl rfl ?_
  refine q_nm (fun hq888 => ?_)
  refine q_Vi0 (P := cP_boxes _) C (KX5_boxes _ ) mX5_boxes ml_L_131 dL_law_888 (by decide) (by omega) rfl rfl rfl (Nat.le_of_ble_eq_true rfl) rfl (by decide) rfl rfl (fun v888 g888 l888 u888 h888 => ?_)
  obtain ⟨rfl, q888⟩ := KD_boxes I A hq888 h888
  refine q_istoreV C dL_law_891 (by decide) (fun v891 e891 => ?_)
  subst e891
  refine q_aload_n C 1 dL_law_893 rfl rfl ?_
  refine q_bipush C dL_law_894 (by decide +kernel) ?_
  refine q_iload C dL_law_896 rfl ?_
  refine q_bipush C dL_law_898 (by decide +kernel) ?_
  refine q_ishr C dL_law_900 _ (shI_v _ _) ?_
  refine q_iconst C dL_law_901 ?_
  refine q_lowR C (by omega) (Nat.le_of_ble_eq_true rfl) dL_law_902 (by decide) (by omega) (fun a902 b902 => ?_)
  refine q_iconst C dL_law_905 ?_
  refine q_iconst C dL_law_906 ?_
  refine q_SHi C (KL_pass _ q888 A _ (by omega) _ (by omega) _ (by omega)) mL_call ml_L_110 dL_law_907 (by decide) (by omega) rfl rfl rfl (Nat.le_of_ble_eq_true rfl) (fun v907 g907 l907 u907 h907 => ?_)
  obtain ⟨V1, S1, k1, r1, s907, e907, q907⟩ := h907
  refine q_nm (fun hn907 => ?_)
  have J1 := lq_J q907 hn907
  obtain ⟨K, F1, F2, F3⟩ := op_pass J A ⟨by omega, by omega⟩ (by omega) s907 e907
  have A1 := K.1
  refine q_istoreV C dL_law_910 (by decide) (fun v910 e910 => ?_)
  subst e910
  refine q_iload C dL_law_912 rfl ?_
  refine q_iflt C 931 dL_law_914 (by decide) (by omega) (fun c914 => ?_) (fun c914 => ?_)
  · refine q_widen (k2 := kk) (by omega) ?_
    refine q_loc (lw931 ω b c n m e was _) ⟨rfl, rfl, rfl, rfl, rfl, rfl, rfl, rfl, rfl, trivial⟩ ?_
    exact kK _ _ _ _ 0 0 _ _ q907 K ⟨by omega, by omega⟩ (by omega) (by omega)
  · refine q_aload_n C 1 dL_law_917 rfl rfl ?_
    refine q_nm (fun hq918 => ?_)
    refine q_Vi0 (P := cP_boxes _) C (KX5_boxes _ ) mX5_boxes ml_L_131 dL_law_918 (by decide) (by omega) rfl rfl rfl (Nat.le_of_ble_eq_true rfl) rfl (by decide) rfl rfl (fun v918 g918 l918 u918 h918 => ?_)
    obtain ⟨rfl, q918⟩ := KD_boxes q907 A1 hq918 h918
    refine q_iload C dL_law_921 rfl ?_
    refine q_iload C dL_law_923 rfl ?_
    refine q_isub C dL_law_925 ?_
    refine q_icmp_eq C 931 dL_law_926 (by decide) (by omega) (by omega) (fun c926 => ?_) (fun c926 => ?_)
    · refine q_widen (k2 := kk) (by omega) ?_
      refine q_loc (lw931 ω b c n m e was _) ⟨rfl, rfl, rfl, rfl, rfl, rfl, rfl, rfl, rfl, trivial⟩ ?_
      exact kK _ _ _ _ 0 0 _ _ q918 K ⟨by omega, by omega⟩ (by omega) (by omega)
    · exfalso; omega
end LAWB
