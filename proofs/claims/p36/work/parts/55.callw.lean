/-! the law's method call, walked -/
set_option maxRecDepth 20000 in
theorem KL_addStack {V : qHp} {S : St} {R : Int → Int} (g : qHp) (I : lq V S R g) (A : aI V S) (a : Int) (ha : -2147483648 ≤ a ∧ a < 2147483648) (b : Int) (hb : -2147483648 ≤ b ∧ b < 2147483648) (c : Int) (hc : -2147483648 ≤ c ∧ c < 2147483648) : qC yL_call cdC 7 1 (fun ad => [.ref (ad 0), .int (iI 0), .int (iI a), .int (iI b), .int (iI c)]) g (qPi (fun (v : Int) (g' : qHp) => ∃ V' S' k r, sp_addStack a V S k r V' S' ∧ v = ecd [-1002, -1003] k r ∧ lq V' S' R g')) qNo := by
  refine q_methH (by decide +kernel) rfl (fun _ => (Nat.le_of_ble_eq_true rfl)) (fun X ω C => ?_)
  refine q_nm (fun hn => ?_)
  have hcm : cmI g := by obtain ⟨I1, rfl, rfl, rfl⟩ := I; exact lq_cm A
  refine q_loc [(0, .ref (ω.1 0)), (1, .int (iI 0)), (2, .int (iI a)), (3, .int (iI b)), (4, .int (iI c))] ⟨rfl, rfl, rfl, rfl, rfl, trivial⟩ ?_
  refine q_iload_n C 1 dL_call_0 rfl rfl ?_
  refine q_tableIn C 120 dL_call_1 (by decide) (by decide) (by decide) rfl (by decide) ?_
  refine q_aload_n C 0 dL_call_120 rfl rfl ?_
  refine q_iload_n C 2 dL_call_121 rfl rfl ?_
  refine q_ViT (P := cP_addStack g a) (PX' := cX_addStack g a) C (KX5_addStack g a ha ) mX5_addStack ml_L_9 dL_call_122 (by decide) (by decide) rfl rfl rfl (Nat.le_of_ble_eq_true rfl) rfl (by decide) rfl rfl (fun E g1 hx => ?_) (fun v g1 lv uv hv => ?_)
  · have hi := xin_addStack hx
    rcases hi with rfl | rfl | hi
    · refine q_catchN C 27 ⟨0, 125, 302, 100⟩ rfl (by decide +kernel) x5_xIA cst_xIA (by decide) (by decide) rfl (h := 302) rfl (fun q => ?_)
      refine q_astore C dL_call_302 (by decide) ?_
      refine q_sipush C dL_call_304 (by decide +kernel) ?_
      exact q_iretI C dL_call_307 (by decide) (by decide) (KA_addStack (b := b) (c := c) I A hn (Or.inr ⟨_, 1, hx, Or.inl ⟨rfl, rfl⟩, rfl⟩))
    · refine q_catchN C 54 ⟨0, 125, 308, 102⟩ rfl (by decide +kernel) x5_xIS cst_xIS (by decide) (by decide) rfl (h := 308) rfl (fun q => ?_)
      refine q_astore C dL_call_308 (by decide) ?_
      refine q_sipush C dL_call_310 (by decide +kernel) ?_
      exact q_iretI C dL_call_313 (by decide) (by decide) (KA_addStack (b := b) (c := c) I A hn (Or.inr ⟨_, 2, hx, Or.inr (Or.inl ⟨rfl, rfl⟩), rfl⟩))
    · exact hi.elim
  · exact q_iretI C dL_call_125 ⟨lv, uv⟩ (by decide) (KA_addStack (b := b) (c := c) I A hn (Or.inl hv))
set_option maxRecDepth 20000 in
theorem KL_addBox {V : qHp} {S : St} {R : Int → Int} (g : qHp) (I : lq V S R g) (A : aI V S) (a : Int) (ha : -2147483648 ≤ a ∧ a < 2147483648) (b : Int) (hb : -2147483648 ≤ b ∧ b < 2147483648) (c : Int) (hc : -2147483648 ≤ c ∧ c < 2147483648) : qC yL_call cdC 8 2 (fun ad => [.ref (ad 0), .int (iI 1), .int (iI a), .int (iI b), .int (iI c)]) g (qPi (fun (v : Int) (g' : qHp) => ∃ V' S' k r, sp_addBox a b V S k r V' S' ∧ v = ecd [-1001, -1002, -1004, -1003] k r ∧ lq V' S' R g')) qNo := by
  refine q_methH (by decide +kernel) rfl (fun _ => (Nat.le_of_ble_eq_true rfl)) (fun X ω C => ?_)
  refine q_nm (fun hn => ?_)
  have hcm : cmI g := by obtain ⟨I1, rfl, rfl, rfl⟩ := I; exact lq_cm A
  refine q_loc [(0, .ref (ω.1 0)), (1, .int (iI 1)), (2, .int (iI a)), (3, .int (iI b)), (4, .int (iI c))] ⟨rfl, rfl, rfl, rfl, rfl, trivial⟩ ?_
  refine q_iload_n C 1 dL_call_0 rfl rfl ?_
  refine q_tableIn C 126 dL_call_1 (by decide) (by decide) (by decide) rfl (by decide) ?_
  refine q_aload_n C 0 dL_call_126 rfl rfl ?_
  refine q_iload_n C 2 dL_call_127 rfl rfl ?_
  refine q_iload_n C 3 dL_call_128 rfl rfl ?_
  refine q_ViT (P := cP_addBox g a b) (PX' := cX_addBox g a b) C (KX5_addBox g a ha b hb ) mX5_addBox ml_L_15 dL_call_129 (by decide) (by decide) rfl rfl rfl (Nat.le_of_ble_eq_true rfl) rfl (by decide) rfl rfl (fun E g1 hx => ?_) (fun v g1 lv uv hv => ?_)
  · have hi := xin_addBox hx
    rcases hi with rfl | rfl | rfl | rfl | hi
    · refine q_catchN C 1 ⟨126, 132, 296, 98⟩ rfl (by decide +kernel) x5_xIO cst_xIO (by decide) (by decide) rfl (h := 296) rfl (fun q => ?_)
      refine q_astore C dL_call_296 (by decide) ?_
      refine q_sipush C dL_call_298 (by decide +kernel) ?_
      exact q_iretI C dL_call_301 (by decide) (by decide) (KA_addBox (b := b) (c := c) I A hn (Or.inr ⟨_, 1, hx, Or.inl ⟨rfl, rfl⟩, rfl⟩))
    · refine q_catchN C 28 ⟨126, 132, 302, 100⟩ rfl (by decide +kernel) x5_xIA cst_xIA (by decide) (by decide) rfl (h := 302) rfl (fun q => ?_)
      refine q_astore C dL_call_302 (by decide) ?_
      refine q_sipush C dL_call_304 (by decide +kernel) ?_
      exact q_iretI C dL_call_307 (by decide) (by decide) (KA_addBox (b := b) (c := c) I A hn (Or.inr ⟨_, 2, hx, Or.inr (Or.inl ⟨rfl, rfl⟩), rfl⟩))
    · refine q_catchN C 82 ⟨126, 132, 314, 104⟩ rfl (by decide +kernel) x5_xUO cst_xUO (by decide) (by decide) rfl (h := 314) rfl (fun q => ?_)
      refine q_astore C dL_call_314 (by decide) ?_
      refine q_sipush C dL_call_316 (by decide +kernel) ?_
      exact q_iretI C dL_call_319 (by decide) (by decide) (KA_addBox (b := b) (c := c) I A hn (Or.inr ⟨_, 3, hx, Or.inr (Or.inr (Or.inl ⟨rfl, rfl⟩)), rfl⟩))
    · refine q_catchN C 55 ⟨126, 132, 308, 102⟩ rfl (by decide +kernel) x5_xIS cst_xIS (by decide) (by decide) rfl (h := 308) rfl (fun q => ?_)
      refine q_astore C dL_call_308 (by decide) ?_
      refine q_sipush C dL_call_310 (by decide +kernel) ?_
      exact q_iretI C dL_call_313 (by decide) (by decide) (KA_addBox (b := b) (c := c) I A hn (Or.inr ⟨_, 4, hx, Or.inr (Or.inr (Or.inr (Or.inl ⟨rfl, rfl⟩))), rfl⟩))
    · exact hi.elim
  · exact q_iretI C dL_call_132 ⟨lv, uv⟩ (by decide) (KA_addBox (b := b) (c := c) I A hn (Or.inl hv))
set_option maxRecDepth 20000 in
theorem KL_weight {V : qHp} {S : St} {R : Int → Int} (g : qHp) (I : lq V S R g) (A : aI V S) (a : Int) (ha : -2147483648 ≤ a ∧ a < 2147483648) (b : Int) (hb : -2147483648 ≤ b ∧ b < 2147483648) (c : Int) (hc : -2147483648 ≤ c ∧ c < 2147483648) : qC yL_call cdC 8 1 (fun ad => [.ref (ad 0), .int (iI 2), .int (iI a), .int (iI b), .int (iI c)]) g (qPi (fun (v : Int) (g' : qHp) => v = aq2 V S a ∧ lq V S R g')) qNo := by
  refine q_methH (by decide +kernel) rfl (fun _ => (Nat.le_of_ble_eq_true rfl)) (fun X ω C => ?_)
  refine q_nm (fun hn => ?_)
  have hcm : cmI g := by obtain ⟨I1, rfl, rfl, rfl⟩ := I; exact lq_cm A
  refine q_loc [(0, .ref (ω.1 0)), (1, .int (iI 2)), (2, .int (iI a)), (3, .int (iI b)), (4, .int (iI c))] ⟨rfl, rfl, rfl, rfl, rfl, trivial⟩ ?_
  refine q_iload_n C 1 dL_call_0 rfl rfl ?_
  refine q_tableIn C 133 dL_call_1 (by decide) (by decide) (by decide) rfl (by decide) ?_
  refine q_aload_n C 0 dL_call_133 rfl rfl ?_
  refine q_iload_n C 2 dL_call_134 rfl rfl ?_
  refine q_ViT (P := cP_weight g a) (PX' := cX_weight g a) C (KX5_weight g a ha ) mX5_weight ml_L_19 dL_call_135 (by decide) (by decide) rfl rfl rfl (Nat.le_of_ble_eq_true rfl) rfl (by decide) rfl rfl (fun E g1 hx => ?_) (fun v g1 lv uv hv => ?_)
  · have hi := xin_weight hx
    rcases hi with rfl | hi
    · refine q_catchN C 2 ⟨133, 138, 296, 98⟩ rfl (by decide +kernel) x5_xIO cst_xIO (by decide) (by decide) rfl (h := 296) rfl (fun q => ?_)
      refine q_astore C dL_call_296 (by decide) ?_
      refine q_sipush C dL_call_298 (by decide +kernel) ?_
      exact q_iretI C dL_call_301 (by decide) (by decide) (KA_weight (b := b) (c := c) I A hn (Or.inr ⟨_, 1, hx, Or.inl ⟨rfl, rfl⟩, rfl⟩))
    · exact hi.elim
  · exact q_iretI C dL_call_138 ⟨lv, uv⟩ (by decide) (KA_weight (b := b) (c := c) I A hn (Or.inl hv))
set_option maxRecDepth 20000 in
theorem KL_stackOf {V : qHp} {S : St} {R : Int → Int} (g : qHp) (I : lq V S R g) (A : aI V S) (a : Int) (ha : -2147483648 ≤ a ∧ a < 2147483648) (b : Int) (hb : -2147483648 ≤ b ∧ b < 2147483648) (c : Int) (hc : -2147483648 ≤ c ∧ c < 2147483648) : qC yL_call cdC 8 1 (fun ad => [.ref (ad 0), .int (iI 3), .int (iI a), .int (iI b), .int (iI c)]) g (qPi (fun (v : Int) (g' : qHp) => v = aq3 S a ∧ lq V S R g')) qNo := by
  refine q_methH (by decide +kernel) rfl (fun _ => (Nat.le_of_ble_eq_true rfl)) (fun X ω C => ?_)
  refine q_nm (fun hn => ?_)
  have hcm : cmI g := by obtain ⟨I1, rfl, rfl, rfl⟩ := I; exact lq_cm A
  refine q_loc [(0, .ref (ω.1 0)), (1, .int (iI 3)), (2, .int (iI a)), (3, .int (iI b)), (4, .int (iI c))] ⟨rfl, rfl, rfl, rfl, rfl, trivial⟩ ?_
  refine q_iload_n C 1 dL_call_0 rfl rfl ?_
  refine q_tableIn C 139 dL_call_1 (by decide) (by decide) (by decide) rfl (by decide) ?_
  refine q_aload_n C 0 dL_call_139 rfl rfl ?_
  refine q_iload_n C 2 dL_call_140 rfl rfl ?_
  refine q_ViT (P := cP_stackOf g a) (PX' := cX_stackOf g a) C (KX5_stackOf g a ha ) mX5_stackOf ml_L_22 dL_call_141 (by decide) (by decide) rfl rfl rfl (Nat.le_of_ble_eq_true rfl) rfl (by decide) rfl rfl (fun E g1 hx => ?_) (fun v g1 lv uv hv => ?_)
  · have hi := xin_stackOf hx
    rcases hi with rfl | hi
    · refine q_catchN C 3 ⟨139, 144, 296, 98⟩ rfl (by decide +kernel) x5_xIO cst_xIO (by decide) (by decide) rfl (h := 296) rfl (fun q => ?_)
      refine q_astore C dL_call_296 (by decide) ?_
      refine q_sipush C dL_call_298 (by decide +kernel) ?_
      exact q_iretI C dL_call_301 (by decide) (by decide) (KA_stackOf (b := b) (c := c) I A hn (Or.inr ⟨_, 1, hx, Or.inl ⟨rfl, rfl⟩, rfl⟩))
    · exact hi.elim
  · exact q_iretI C dL_call_144 ⟨lv, uv⟩ (by decide) (KA_stackOf (b := b) (c := c) I A hn (Or.inl hv))
set_option maxRecDepth 20000 in
theorem KL_level {V : qHp} {S : St} {R : Int → Int} (g : qHp) (I : lq V S R g) (A : aI V S) (a : Int) (ha : -2147483648 ≤ a ∧ a < 2147483648) (b : Int) (hb : -2147483648 ≤ b ∧ b < 2147483648) (c : Int) (hc : -2147483648 ≤ c ∧ c < 2147483648) : qC yL_call cdC 8 1 (fun ad => [.ref (ad 0), .int (iI 4), .int (iI a), .int (iI b), .int (iI c)]) g (qPi (fun (v : Int) (g' : qHp) => v = aq4 S a ∧ lq V S R g')) qNo := by
  refine q_methH (by decide +kernel) rfl (fun _ => (Nat.le_of_ble_eq_true rfl)) (fun X ω C => ?_)
  refine q_nm (fun hn => ?_)
  have hcm : cmI g := by obtain ⟨I1, rfl, rfl, rfl⟩ := I; exact lq_cm A
  refine q_loc [(0, .ref (ω.1 0)), (1, .int (iI 4)), (2, .int (iI a)), (3, .int (iI b)), (4, .int (iI c))] ⟨rfl, rfl, rfl, rfl, rfl, trivial⟩ ?_
  refine q_iload_n C 1 dL_call_0 rfl rfl ?_
  refine q_tableIn C 145 dL_call_1 (by decide) (by decide) (by decide) rfl (by decide) ?_
  refine q_aload_n C 0 dL_call_145 rfl rfl ?_
  refine q_iload_n C 2 dL_call_146 rfl rfl ?_
  refine q_ViT (P := cP_level g a) (PX' := cX_level g a) C (KX5_level g a ha ) mX5_level ml_L_25 dL_call_147 (by decide) (by decide) rfl rfl rfl (Nat.le_of_ble_eq_true rfl) rfl (by decide) rfl rfl (fun E g1 hx => ?_) (fun v g1 lv uv hv => ?_)
  · have hi := xin_level hx
    rcases hi with rfl | hi
    · refine q_catchN C 4 ⟨145, 150, 296, 98⟩ rfl (by decide +kernel) x5_xIO cst_xIO (by decide) (by decide) rfl (h := 296) rfl (fun q => ?_)
      refine q_astore C dL_call_296 (by decide) ?_
      refine q_sipush C dL_call_298 (by decide +kernel) ?_
      exact q_iretI C dL_call_301 (by decide) (by decide) (KA_level (b := b) (c := c) I A hn (Or.inr ⟨_, 1, hx, Or.inl ⟨rfl, rfl⟩, rfl⟩))
    · exact hi.elim
  · exact q_iretI C dL_call_150 ⟨lv, uv⟩ (by decide) (KA_level (b := b) (c := c) I A hn (Or.inl hv))
set_option maxRecDepth 20000 in
theorem KL_above {V : qHp} {S : St} {R : Int → Int} (g : qHp) (I : lq V S R g) (A : aI V S) (a : Int) (ha : -2147483648 ≤ a ∧ a < 2147483648) (b : Int) (hb : -2147483648 ≤ b ∧ b < 2147483648) (c : Int) (hc : -2147483648 ≤ c ∧ c < 2147483648) : qC yL_call cdC 8 1 (fun ad => [.ref (ad 0), .int (iI 5), .int (iI a), .int (iI b), .int (iI c)]) g (qPi (fun (v : Int) (g' : qHp) => v = aq5 S a ∧ lq V S R g')) qNo := by
  refine q_methH (by decide +kernel) rfl (fun _ => (Nat.le_of_ble_eq_true rfl)) (fun X ω C => ?_)
  refine q_nm (fun hn => ?_)
  have hcm : cmI g := by obtain ⟨I1, rfl, rfl, rfl⟩ := I; exact lq_cm A
  refine q_loc [(0, .ref (ω.1 0)), (1, .int (iI 5)), (2, .int (iI a)), (3, .int (iI b)), (4, .int (iI c))] ⟨rfl, rfl, rfl, rfl, rfl, trivial⟩ ?_
  refine q_iload_n C 1 dL_call_0 rfl rfl ?_
  refine q_tableIn C 151 dL_call_1 (by decide) (by decide) (by decide) rfl (by decide) ?_
  refine q_aload_n C 0 dL_call_151 rfl rfl ?_
  refine q_iload_n C 2 dL_call_152 rfl rfl ?_
  refine q_ViT (P := cP_above g a) (PX' := cX_above g a) C (KX5_above g a ha ) mX5_above ml_L_28 dL_call_153 (by decide) (by decide) rfl rfl rfl (Nat.le_of_ble_eq_true rfl) rfl (by decide) rfl rfl (fun E g1 hx => ?_) (fun v g1 lv uv hv => ?_)
  · have hi := xin_above hx
    rcases hi with rfl | hi
    · refine q_catchN C 5 ⟨151, 156, 296, 98⟩ rfl (by decide +kernel) x5_xIO cst_xIO (by decide) (by decide) rfl (h := 296) rfl (fun q => ?_)
      refine q_astore C dL_call_296 (by decide) ?_
      refine q_sipush C dL_call_298 (by decide +kernel) ?_
      exact q_iretI C dL_call_301 (by decide) (by decide) (KA_above (b := b) (c := c) I A hn (Or.inr ⟨_, 1, hx, Or.inl ⟨rfl, rfl⟩, rfl⟩))
    · exact hi.elim
  · exact q_iretI C dL_call_156 ⟨lv, uv⟩ (by decide) (KA_above (b := b) (c := c) I A hn (Or.inl hv))
set_option maxRecDepth 20000 in
theorem KL_height {V : qHp} {S : St} {R : Int → Int} (g : qHp) (I : lq V S R g) (A : aI V S) (a : Int) (ha : -2147483648 ≤ a ∧ a < 2147483648) (b : Int) (hb : -2147483648 ≤ b ∧ b < 2147483648) (c : Int) (hc : -2147483648 ≤ c ∧ c < 2147483648) : qC yL_call cdC 8 1 (fun ad => [.ref (ad 0), .int (iI 6), .int (iI a), .int (iI b), .int (iI c)]) g (qPi (fun (v : Int) (g' : qHp) => v = aq6 V S a ∧ lq V S R g')) qNo := by
  refine q_methH (by decide +kernel) rfl (fun _ => (Nat.le_of_ble_eq_true rfl)) (fun X ω C => ?_)
  refine q_nm (fun hn => ?_)
  have hcm : cmI g := by obtain ⟨I1, rfl, rfl, rfl⟩ := I; exact lq_cm A
  refine q_loc [(0, .ref (ω.1 0)), (1, .int (iI 6)), (2, .int (iI a)), (3, .int (iI b)), (4, .int (iI c))] ⟨rfl, rfl, rfl, rfl, rfl, trivial⟩ ?_
  refine q_iload_n C 1 dL_call_0 rfl rfl ?_
  refine q_tableIn C 157 dL_call_1 (by decide) (by decide) (by decide) rfl (by decide) ?_
  refine q_aload_n C 0 dL_call_157 rfl rfl ?_
  refine q_iload_n C 2 dL_call_158 rfl rfl ?_
  refine q_ViT (P := cP_height g a) (PX' := cX_height g a) C (KX5_height g a ha ) mX5_height ml_L_31 dL_call_159 (by decide) (by decide) rfl rfl rfl (Nat.le_of_ble_eq_true rfl) rfl (by decide) rfl rfl (fun E g1 hx => ?_) (fun v g1 lv uv hv => ?_)
  · have hi := xin_height hx
    rcases hi with rfl | hi
    · refine q_catchN C 6 ⟨157, 162, 296, 98⟩ rfl (by decide +kernel) x5_xIO cst_xIO (by decide) (by decide) rfl (h := 296) rfl (fun q => ?_)
      refine q_astore C dL_call_296 (by decide) ?_
      refine q_sipush C dL_call_298 (by decide +kernel) ?_
      exact q_iretI C dL_call_301 (by decide) (by decide) (KA_height (b := b) (c := c) I A hn (Or.inr ⟨_, 1, hx, Or.inl ⟨rfl, rfl⟩, rfl⟩))
    · exact hi.elim
  · exact q_iretI C dL_call_162 ⟨lv, uv⟩ (by decide) (KA_height (b := b) (c := c) I A hn (Or.inl hv))
set_option maxRecDepth 20000 in
theorem KL_boxAt {V : qHp} {S : St} {R : Int → Int} (g : qHp) (I : lq V S R g) (A : aI V S) (a : Int) (ha : -2147483648 ≤ a ∧ a < 2147483648) (b : Int) (hb : -2147483648 ≤ b ∧ b < 2147483648) (c : Int) (hc : -2147483648 ≤ c ∧ c < 2147483648) : qC yL_call cdC 8 2 (fun ad => [.ref (ad 0), .int (iI 7), .int (iI a), .int (iI b), .int (iI c)]) g (qPi (fun (v : Int) (g' : qHp) => v = aq7 V S a b ∧ lq V S R g')) qNo := by
  refine q_methH (by decide +kernel) rfl (fun _ => (Nat.le_of_ble_eq_true rfl)) (fun X ω C => ?_)
  refine q_nm (fun hn => ?_)
  have hcm : cmI g := by obtain ⟨I1, rfl, rfl, rfl⟩ := I; exact lq_cm A
  refine q_loc [(0, .ref (ω.1 0)), (1, .int (iI 7)), (2, .int (iI a)), (3, .int (iI b)), (4, .int (iI c))] ⟨rfl, rfl, rfl, rfl, rfl, trivial⟩ ?_
  refine q_iload_n C 1 dL_call_0 rfl rfl ?_
  refine q_tableIn C 163 dL_call_1 (by decide) (by decide) (by decide) rfl (by decide) ?_
  refine q_aload_n C 0 dL_call_163 rfl rfl ?_
  refine q_iload_n C 2 dL_call_164 rfl rfl ?_
  refine q_iload_n C 3 dL_call_165 rfl rfl ?_
  refine q_ViT (P := cP_boxAt g a b) (PX' := cX_boxAt g a b) C (KX5_boxAt g a ha b hb ) mX5_boxAt ml_L_34 dL_call_166 (by decide) (by decide) rfl rfl rfl (Nat.le_of_ble_eq_true rfl) rfl (by decide) rfl rfl (fun E g1 hx => ?_) (fun v g1 lv uv hv => ?_)
  · have hi := xin_boxAt hx
    rcases hi with rfl | rfl | hi
    · refine q_catchN C 7 ⟨163, 169, 296, 98⟩ rfl (by decide +kernel) x5_xIO cst_xIO (by decide) (by decide) rfl (h := 296) rfl (fun q => ?_)
      refine q_astore C dL_call_296 (by decide) ?_
      refine q_sipush C dL_call_298 (by decide +kernel) ?_
      exact q_iretI C dL_call_301 (by decide) (by decide) (KA_boxAt (b := b) (c := c) I A hn (Or.inr ⟨_, 1, hx, Or.inl ⟨rfl, rfl⟩, rfl⟩))
    · refine q_catchN C 115 ⟨163, 169, 320, 106⟩ rfl (by decide +kernel) x5_xNS cst_xNS (by decide) (by decide) rfl (h := 320) rfl (fun q => ?_)
      refine q_astore C dL_call_320 (by decide) ?_
      refine q_sipush C dL_call_322 (by decide +kernel) ?_
      exact q_iretI C dL_call_325 (by decide) (by decide) (KA_boxAt (b := b) (c := c) I A hn (Or.inr ⟨_, 2, hx, Or.inr (Or.inl ⟨rfl, rfl⟩), rfl⟩))
    · exact hi.elim
  · exact q_iretI C dL_call_169 ⟨lv, uv⟩ (by decide) (KA_boxAt (b := b) (c := c) I A hn (Or.inl hv))
set_option maxRecDepth 20000 in
theorem KL_hold {V : qHp} {S : St} {R : Int → Int} (g : qHp) (I : lq V S R g) (A : aI V S) (a : Int) (ha : -2147483648 ≤ a ∧ a < 2147483648) (b : Int) (hb : -2147483648 ≤ b ∧ b < 2147483648) (c : Int) (hc : -2147483648 ≤ c ∧ c < 2147483648) : qC yL_call cdC 8 3 (fun ad => [.ref (ad 0), .int (iI 8), .int (iI a), .int (iI b), .int (iI c)]) g (qPi (fun (v : Int) (g' : qHp) => ∃ V' S' k r, sp_hold a (chI b) c V S k r V' S' ∧ v = ecd [-1001, -1002] k r ∧ lq V' S' R g')) qNo := by
  refine q_methH (by decide +kernel) rfl (fun _ => (Nat.le_of_ble_eq_true rfl)) (fun X ω C => ?_)
  refine q_nm (fun hn => ?_)
  have hcm : cmI g := by obtain ⟨I1, rfl, rfl, rfl⟩ := I; exact lq_cm A
  refine q_loc [(0, .ref (ω.1 0)), (1, .int (iI 8)), (2, .int (iI a)), (3, .int (iI b)), (4, .int (iI c))] ⟨rfl, rfl, rfl, rfl, rfl, trivial⟩ ?_
  refine q_iload_n C 1 dL_call_0 rfl rfl ?_
  refine q_tableIn C 170 dL_call_1 (by decide) (by decide) (by decide) rfl (by decide) ?_
  refine q_aload_n C 0 dL_call_170 rfl rfl ?_
  refine q_iload_n C 2 dL_call_171 rfl rfl ?_
  refine q_iload_n C 3 dL_call_172 rfl rfl ?_
  refine q_i2c C dL_call_173 _ (chI_v _) ?_
  refine q_iload C dL_call_174 rfl ?_
  refine q_ViT (P := cP_hold g a (chI b) c) (PX' := cX_hold g a (chI b) c) C (KX5_hold g a ha (chI b) (by have := chI_rng b; omega) c hc (chI_rng _) (fun q => in_co I.1 hcm q)) mX5_hold ml_L_37 dL_call_176 (by decide) (by decide) rfl rfl rfl (Nat.le_of_ble_eq_true rfl) rfl (by decide) rfl rfl (fun E g1 hx => ?_) (fun v g1 lv uv hv => ?_)
  · have hi := xin_hold hx
    rcases hi with rfl | rfl | hi
    · refine q_catchN C 8 ⟨170, 179, 296, 98⟩ rfl (by decide +kernel) x5_xIO cst_xIO (by decide) (by decide) rfl (h := 296) rfl (fun q => ?_)
      refine q_astore C dL_call_296 (by decide) ?_
      refine q_sipush C dL_call_298 (by decide +kernel) ?_
      exact q_iretI C dL_call_301 (by decide) (by decide) (KA_hold (b := b) (c := c) I A hn (Or.inr ⟨_, 1, hx, Or.inl ⟨rfl, rfl⟩, rfl⟩))
    · refine q_catchN C 35 ⟨170, 179, 302, 100⟩ rfl (by decide +kernel) x5_xIA cst_xIA (by decide) (by decide) rfl (h := 302) rfl (fun q => ?_)
      refine q_astore C dL_call_302 (by decide) ?_
      refine q_sipush C dL_call_304 (by decide +kernel) ?_
      exact q_iretI C dL_call_307 (by decide) (by decide) (KA_hold (b := b) (c := c) I A hn (Or.inr ⟨_, 2, hx, Or.inr (Or.inl ⟨rfl, rfl⟩), rfl⟩))
    · exact hi.elim
  · exact q_iretI C dL_call_179 ⟨lv, uv⟩ (by decide) (KA_hold (b := b) (c := c) I A hn (Or.inl hv))
set_option maxRecDepth 20000 in
theorem KL_release {V : qHp} {S : St} {R : Int → Int} (g : qHp) (I : lq V S R g) (A : aI V S) (a : Int) (ha : -2147483648 ≤ a ∧ a < 2147483648) (b : Int) (hb : -2147483648 ≤ b ∧ b < 2147483648) (c : Int) (hc : -2147483648 ≤ c ∧ c < 2147483648) : qC yL_call cdC 8 2 (fun ad => [.ref (ad 0), .int (iI 9), .int (iI a), .int (iI b), .int (iI c)]) g (qPi (fun (v : Int) (g' : qHp) => ∃ V' S' k r, sp_release a V S k r V' S' ∧ v = ecd [-1001, -1003] k r ∧ lq V' S' R g')) qNo := by
  refine q_methH (by decide +kernel) rfl (fun _ => (Nat.le_of_ble_eq_true rfl)) (fun X ω C => ?_)
  refine q_nm (fun hn => ?_)
  have hcm : cmI g := by obtain ⟨I1, rfl, rfl, rfl⟩ := I; exact lq_cm A
  refine q_loc [(0, .ref (ω.1 0)), (1, .int (iI 9)), (2, .int (iI a)), (3, .int (iI b)), (4, .int (iI c))] ⟨rfl, rfl, rfl, rfl, rfl, trivial⟩ ?_
  refine q_iload_n C 1 dL_call_0 rfl rfl ?_
  refine q_tableIn C 180 dL_call_1 (by decide) (by decide) (by decide) rfl (by decide) ?_
  refine q_aload_n C 0 dL_call_180 rfl rfl ?_
  refine q_iload_n C 2 dL_call_181 rfl rfl ?_
  refine q_ViT (P := cP_release g a) (PX' := cX_release g a) C (KX5_release g a ha (fun q => in_co I.1 hcm q)) mX5_release ml_L_41 dL_call_182 (by decide) (by decide) rfl rfl rfl (Nat.le_of_ble_eq_true rfl) rfl (by decide) rfl rfl (fun E g1 hx => ?_) (fun v g1 lv uv hv => ?_)
  · have hi := xin_release hx
    rcases hi with rfl | rfl | hi
    · refine q_catchN C 9 ⟨180, 185, 296, 98⟩ rfl (by decide +kernel) x5_xIO cst_xIO (by decide) (by decide) rfl (h := 296) rfl (fun q => ?_)
      refine q_astore C dL_call_296 (by decide) ?_
      refine q_sipush C dL_call_298 (by decide +kernel) ?_
      exact q_iretI C dL_call_301 (by decide) (by decide) (KA_release (b := b) (c := c) I A hn (Or.inr ⟨_, 1, hx, Or.inl ⟨rfl, rfl⟩, rfl⟩))
    · refine q_catchN C 63 ⟨180, 185, 308, 102⟩ rfl (by decide +kernel) x5_xIS cst_xIS (by decide) (by decide) rfl (h := 308) rfl (fun q => ?_)
      refine q_astore C dL_call_308 (by decide) ?_
      refine q_sipush C dL_call_310 (by decide +kernel) ?_
      exact q_iretI C dL_call_313 (by decide) (by decide) (KA_release (b := b) (c := c) I A hn (Or.inr ⟨_, 2, hx, Or.inr (Or.inl ⟨rfl, rfl⟩), rfl⟩))
    · exact hi.elim
  · exact q_iretI C dL_call_185 ⟨lv, uv⟩ (by decide) (KA_release (b := b) (c := c) I A hn (Or.inl hv))
set_option maxRecDepth 20000 in
theorem KL_holdOf {V : qHp} {S : St} {R : Int → Int} (g : qHp) (I : lq V S R g) (A : aI V S) (a : Int) (ha : -2147483648 ≤ a ∧ a < 2147483648) (b : Int) (hb : -2147483648 ≤ b ∧ b < 2147483648) (c : Int) (hc : -2147483648 ≤ c ∧ c < 2147483648) : qC yL_call cdC 8 1 (fun ad => [.ref (ad 0), .int (iI 10), .int (iI a), .int (iI b), .int (iI c)]) g (qPi (fun (v : Int) (g' : qHp) => v = aq10 V S a ∧ lq V S R g')) qNo := by
  refine q_methH (by decide +kernel) rfl (fun _ => (Nat.le_of_ble_eq_true rfl)) (fun X ω C => ?_)
  refine q_nm (fun hn => ?_)
  have hcm : cmI g := by obtain ⟨I1, rfl, rfl, rfl⟩ := I; exact lq_cm A
  refine q_loc [(0, .ref (ω.1 0)), (1, .int (iI 10)), (2, .int (iI a)), (3, .int (iI b)), (4, .int (iI c))] ⟨rfl, rfl, rfl, rfl, rfl, trivial⟩ ?_
  refine q_iload_n C 1 dL_call_0 rfl rfl ?_
  refine q_tableIn C 186 dL_call_1 (by decide) (by decide) (by decide) rfl (by decide) ?_
  refine q_aload_n C 0 dL_call_186 rfl rfl ?_
  refine q_iload_n C 2 dL_call_187 rfl rfl ?_
  refine q_ViT (P := cP_holdOf g a) (PX' := cX_holdOf g a) C (KX5_holdOf g a ha ) mX5_holdOf ml_L_44 dL_call_188 (by decide) (by decide) rfl rfl rfl (Nat.le_of_ble_eq_true rfl) rfl (by decide) rfl rfl (fun E g1 hx => ?_) (fun v g1 lv uv hv => ?_)
  · have hi := xin_holdOf hx
    rcases hi with rfl | hi
    · refine q_catchN C 10 ⟨186, 191, 296, 98⟩ rfl (by decide +kernel) x5_xIO cst_xIO (by decide) (by decide) rfl (h := 296) rfl (fun q => ?_)
      refine q_astore C dL_call_296 (by decide) ?_
      refine q_sipush C dL_call_298 (by decide +kernel) ?_
      exact q_iretI C dL_call_301 (by decide) (by decide) (KA_holdOf (b := b) (c := c) I A hn (Or.inr ⟨_, 1, hx, Or.inl ⟨rfl, rfl⟩, rfl⟩))
    · exact hi.elim
  · exact q_iretI C dL_call_191 ⟨lv, uv⟩ (by decide) (KA_holdOf (b := b) (c := c) I A hn (Or.inl hv))
set_option maxRecDepth 20000 in
theorem KL_heldUntil {V : qHp} {S : St} {R : Int → Int} (g : qHp) (I : lq V S R g) (A : aI V S) (a : Int) (ha : -2147483648 ≤ a ∧ a < 2147483648) (b : Int) (hb : -2147483648 ≤ b ∧ b < 2147483648) (c : Int) (hc : -2147483648 ≤ c ∧ c < 2147483648) : qC yL_call cdC 8 2 (fun ad => [.ref (ad 0), .int (iI 11), .int (iI a), .int (iI b), .int (iI c)]) g (qPi (fun (v : Int) (g' : qHp) => v = aq11 V S a ∧ lq V S R g')) qNo := by
  refine q_methH (by decide +kernel) rfl (fun _ => (Nat.le_of_ble_eq_true rfl)) (fun X ω C => ?_)
  refine q_nm (fun hn => ?_)
  have hcm : cmI g := by obtain ⟨I1, rfl, rfl, rfl⟩ := I; exact lq_cm A
  refine q_loc [(0, .ref (ω.1 0)), (1, .int (iI 11)), (2, .int (iI a)), (3, .int (iI b)), (4, .int (iI c))] ⟨rfl, rfl, rfl, rfl, rfl, trivial⟩ ?_
  refine q_iload_n C 1 dL_call_0 rfl rfl ?_
  refine q_tableIn C 192 dL_call_1 (by decide) (by decide) (by decide) rfl (by decide) ?_
  refine q_aload_n C 0 dL_call_192 rfl rfl ?_
  refine q_iload_n C 2 dL_call_193 rfl rfl ?_
  refine q_ViT (P := cP_heldUntil g a) (PX' := cX_heldUntil g a) C (KX5_heldUntil g a ha ) mX5_heldUntil ml_L_48 dL_call_194 (by decide) (by decide) rfl rfl rfl (Nat.le_of_ble_eq_true rfl) rfl (by decide) rfl rfl (fun E g1 hx => ?_) (fun v g1 lv uv hv => ?_)
  · have hi := xin_heldUntil hx
    rcases hi with rfl | rfl | hi
    · refine q_catchN C 11 ⟨192, 197, 296, 98⟩ rfl (by decide +kernel) x5_xIO cst_xIO (by decide) (by decide) rfl (h := 296) rfl (fun q => ?_)
      refine q_astore C dL_call_296 (by decide) ?_
      refine q_sipush C dL_call_298 (by decide +kernel) ?_
      exact q_iretI C dL_call_301 (by decide) (by decide) (KA_heldUntil (b := b) (c := c) I A hn (Or.inr ⟨_, 1, hx, Or.inl ⟨rfl, rfl⟩, rfl⟩))
    · refine q_catchN C 119 ⟨192, 197, 320, 106⟩ rfl (by decide +kernel) x5_xNS cst_xNS (by decide) (by decide) rfl (h := 320) rfl (fun q => ?_)
      refine q_astore C dL_call_320 (by decide) ?_
      refine q_sipush C dL_call_322 (by decide +kernel) ?_
      exact q_iretI C dL_call_325 (by decide) (by decide) (KA_heldUntil (b := b) (c := c) I A hn (Or.inr ⟨_, 2, hx, Or.inr (Or.inl ⟨rfl, rfl⟩), rfl⟩))
    · exact hi.elim
  · exact q_iretI C dL_call_197 ⟨lv, uv⟩ (by decide) (KA_heldUntil (b := b) (c := c) I A hn (Or.inl hv))
set_option maxRecDepth 20000 in
theorem KL_pinnedAbove {V : qHp} {S : St} {R : Int → Int} (g : qHp) (I : lq V S R g) (A : aI V S) (a : Int) (ha : -2147483648 ≤ a ∧ a < 2147483648) (b : Int) (hb : -2147483648 ≤ b ∧ b < 2147483648) (c : Int) (hc : -2147483648 ≤ c ∧ c < 2147483648) : qC yL_call cdC 8 1 (fun ad => [.ref (ad 0), .int (iI 12), .int (iI a), .int (iI b), .int (iI c)]) g (qPi (fun (v : Int) (g' : qHp) => v = aq12 V S a ∧ lq V S R g')) qNo := by
  refine q_methH (by decide +kernel) rfl (fun _ => (Nat.le_of_ble_eq_true rfl)) (fun X ω C => ?_)
  refine q_nm (fun hn => ?_)
  have hcm : cmI g := by obtain ⟨I1, rfl, rfl, rfl⟩ := I; exact lq_cm A
  refine q_loc [(0, .ref (ω.1 0)), (1, .int (iI 12)), (2, .int (iI a)), (3, .int (iI b)), (4, .int (iI c))] ⟨rfl, rfl, rfl, rfl, rfl, trivial⟩ ?_
  refine q_iload_n C 1 dL_call_0 rfl rfl ?_
  refine q_tableIn C 198 dL_call_1 (by decide) (by decide) (by decide) rfl (by decide) ?_
  refine q_aload_n C 0 dL_call_198 rfl rfl ?_
  refine q_iload_n C 2 dL_call_199 rfl rfl ?_
  refine q_ViT (P := cP_pinnedAbove g a) (PX' := cX_pinnedAbove g a) C (KX5_pinnedAbove g a ha ) mX5_pinnedAbove ml_L_51 dL_call_200 (by decide) (by decide) rfl rfl rfl (Nat.le_of_ble_eq_true rfl) rfl (by decide) rfl rfl (fun E g1 hx => ?_) (fun v g1 lv uv hv => ?_)
  · have hi := xin_pinnedAbove hx
    rcases hi with rfl | hi
    · refine q_catchN C 12 ⟨198, 203, 296, 98⟩ rfl (by decide +kernel) x5_xIO cst_xIO (by decide) (by decide) rfl (h := 296) rfl (fun q => ?_)
      refine q_astore C dL_call_296 (by decide) ?_
      refine q_sipush C dL_call_298 (by decide +kernel) ?_
      exact q_iretI C dL_call_301 (by decide) (by decide) (KA_pinnedAbove (b := b) (c := c) I A hn (Or.inr ⟨_, 1, hx, Or.inl ⟨rfl, rfl⟩, rfl⟩))
    · exact hi.elim
  · exact q_iretI C dL_call_203 ⟨lv, uv⟩ (by decide) (KA_pinnedAbove (b := b) (c := c) I A hn (Or.inl hv))
set_option maxRecDepth 20000 in
theorem KL_why {V : qHp} {S : St} {R : Int → Int} (g : qHp) (I : lq V S R g) (A : aI V S) (a : Int) (ha : -2147483648 ≤ a ∧ a < 2147483648) (b : Int) (hb : -2147483648 ≤ b ∧ b < 2147483648) (c : Int) (hc : -2147483648 ≤ c ∧ c < 2147483648) : qC yL_call cdC 8 2 (fun ad => [.ref (ad 0), .int (iI 13), .int (iI a), .int (iI b), .int (iI c)]) g (qPi (fun (v : Int) (g' : qHp) => v = aq13 V S a b ∧ lq V S R g')) qNo := by
  refine q_methH (by decide +kernel) rfl (fun _ => (Nat.le_of_ble_eq_true rfl)) (fun X ω C => ?_)
  refine q_nm (fun hn => ?_)
  have hcm : cmI g := by obtain ⟨I1, rfl, rfl, rfl⟩ := I; exact lq_cm A
  refine q_loc [(0, .ref (ω.1 0)), (1, .int (iI 13)), (2, .int (iI a)), (3, .int (iI b)), (4, .int (iI c))] ⟨rfl, rfl, rfl, rfl, rfl, trivial⟩ ?_
  refine q_iload_n C 1 dL_call_0 rfl rfl ?_
  refine q_tableIn C 204 dL_call_1 (by decide) (by decide) (by decide) rfl (by decide) ?_
  refine q_aload_n C 0 dL_call_204 rfl rfl ?_
  refine q_iload_n C 2 dL_call_205 rfl rfl ?_
  refine q_iload_n C 3 dL_call_206 rfl rfl ?_
  refine q_ViT (P := cP_why g a b) (PX' := cX_why g a b) C (KX5_why g a ha b hb ) mX5_why ml_L_54 dL_call_207 (by decide) (by decide) rfl rfl rfl (Nat.le_of_ble_eq_true rfl) rfl (by decide) rfl rfl (fun E g1 hx => ?_) (fun v g1 lv uv hv => ?_)
  · have hi := xin_why hx
    rcases hi with rfl | hi
    · refine q_catchN C 13 ⟨204, 210, 296, 98⟩ rfl (by decide +kernel) x5_xIO cst_xIO (by decide) (by decide) rfl (h := 296) rfl (fun q => ?_)
      refine q_astore C dL_call_296 (by decide) ?_
      refine q_sipush C dL_call_298 (by decide +kernel) ?_
      exact q_iretI C dL_call_301 (by decide) (by decide) (KA_why (b := b) (c := c) I A hn (Or.inr ⟨_, 1, hx, Or.inl ⟨rfl, rfl⟩, rfl⟩))
    · exact hi.elim
  · exact q_iretI C dL_call_210 ⟨lv, uv⟩ (by decide) (KA_why (b := b) (c := c) I A hn (Or.inl hv))
set_option maxRecDepth 20000 in
theorem KL_move {V : qHp} {S : St} {R : Int → Int} (g : qHp) (I : lq V S R g) (A : aI V S) (a : Int) (ha : -2147483648 ≤ a ∧ a < 2147483648) (b : Int) (hb : -2147483648 ≤ b ∧ b < 2147483648) (c : Int) (hc : -2147483648 ≤ c ∧ c < 2147483648) : qC yL_call cdC 8 3 (fun ad => [.ref (ad 0), .int (iI 14), .int (iI a), .int (iI b), .int (iI c)]) g (qPi (fun (v : Int) (g' : qHp) => ∃ V' S' k r, sp_move a b V S k r V' S' ∧ v = ecd [-1001, -1004] k r ∧ lq V' S' R g')) qNo := by
  refine q_methH (by decide +kernel) rfl (fun _ => (Nat.le_of_ble_eq_true rfl)) (fun X ω C => ?_)
  refine q_nm (fun hn => ?_)
  have hcm : cmI g := by obtain ⟨I1, rfl, rfl, rfl⟩ := I; exact lq_cm A
  refine q_loc [(0, .ref (ω.1 0)), (1, .int (iI 14)), (2, .int (iI a)), (3, .int (iI b)), (4, .int (iI c))] ⟨rfl, rfl, rfl, rfl, rfl, trivial⟩ ?_
  refine q_iload_n C 1 dL_call_0 rfl rfl ?_
  refine q_tableIn C 211 dL_call_1 (by decide) (by decide) (by decide) rfl (by decide) ?_
  refine q_aload_n C 0 dL_call_211 rfl rfl ?_
  refine q_iload_n C 2 dL_call_212 rfl rfl ?_
  refine q_iload_n C 3 dL_call_213 rfl rfl ?_
  refine q_ViT (P := cP_move g a b) (PX' := cX_move g a b) C (KX5_move g a ha b hb I.1.1) mX5_move ml_L_58 dL_call_214 (by decide) (by decide) rfl rfl rfl (Nat.le_of_ble_eq_true rfl) rfl (by decide) rfl rfl (fun E g1 hx => ?_) (fun v g1 lv uv hv => ?_)
  · have hi := xin_move hx
    rcases hi with rfl | rfl | hi
    · refine q_catchN C 14 ⟨211, 217, 296, 98⟩ rfl (by decide +kernel) x5_xIO cst_xIO (by decide) (by decide) rfl (h := 296) rfl (fun q => ?_)
      refine q_astore C dL_call_296 (by decide) ?_
      refine q_sipush C dL_call_298 (by decide +kernel) ?_
      exact q_iretI C dL_call_301 (by decide) (by decide) (KA_move (b := b) (c := c) I A hn (Or.inr ⟨_, 1, hx, Or.inl ⟨rfl, rfl⟩, rfl⟩))
    · refine q_catchN C 95 ⟨211, 217, 314, 104⟩ rfl (by decide +kernel) x5_xUO cst_xUO (by decide) (by decide) rfl (h := 314) rfl (fun q => ?_)
      refine q_astore C dL_call_314 (by decide) ?_
      refine q_sipush C dL_call_316 (by decide +kernel) ?_
      exact q_iretI C dL_call_319 (by decide) (by decide) (KA_move (b := b) (c := c) I A hn (Or.inr ⟨_, 2, hx, Or.inr (Or.inl ⟨rfl, rfl⟩), rfl⟩))
    · exact hi.elim
  · exact q_iretI C dL_call_217 ⟨lv, uv⟩ (by decide) (KA_move (b := b) (c := c) I A hn (Or.inl hv))
set_option maxRecDepth 20000 in
theorem KL_planLength {V : qHp} {S : St} {R : Int → Int} (g : qHp) (I : lq V S R g) (A : aI V S) (a : Int) (ha : -2147483648 ≤ a ∧ a < 2147483648) (b : Int) (hb : -2147483648 ≤ b ∧ b < 2147483648) (c : Int) (hc : -2147483648 ≤ c ∧ c < 2147483648) : qC yL_call cdC 9 2 (fun ad => [.ref (ad 0), .int (iI 15), .int (iI a), .int (iI b), .int (iI c)]) g (qPi (fun (v : Int) (g' : qHp) => v = aqP V S a ∧ lq V S R g')) qNo := by
  refine q_methH (by decide +kernel) rfl (fun _ => (Nat.le_of_ble_eq_true rfl)) (fun X ω C => ?_)
  refine q_nm (fun hn => ?_)
  have hcm : cmI g := by obtain ⟨I1, rfl, rfl, rfl⟩ := I; exact lq_cm A
  refine q_loc [(0, .ref (ω.1 0)), (1, .int (iI 15)), (2, .int (iI a)), (3, .int (iI b)), (4, .int (iI c))] ⟨rfl, rfl, rfl, rfl, rfl, trivial⟩ ?_
  refine q_iload_n C 1 dL_call_0 rfl rfl ?_
  refine q_tableIn C 218 dL_call_1 (by decide) (by decide) (by decide) rfl (by decide) ?_
  refine q_aload_n C 0 dL_call_218 rfl rfl ?_
  refine q_iload_n C 2 dL_call_219 rfl rfl ?_
  refine q_ViT (P := cP_planLength g a) (PX' := cX_planLength g a) C (KX5_planLength g a ha I.1.1) mX5_planLength ml_L_61 dL_call_220 (by decide) (by decide) rfl rfl rfl (Nat.le_of_ble_eq_true rfl) rfl (by decide) rfl rfl (fun E g1 hx => ?_) (fun v g1 lv uv hv => ?_)
  · have hi := xin_planLength hx
    rcases hi with rfl | rfl | hi
    · refine q_catchN C 15 ⟨218, 223, 296, 98⟩ rfl (by decide +kernel) x5_xIO cst_xIO (by decide) (by decide) rfl (h := 296) rfl (fun q => ?_)
      refine q_astore C dL_call_296 (by decide) ?_
      refine q_sipush C dL_call_298 (by decide +kernel) ?_
      exact q_iretI C dL_call_301 (by decide) (by decide) (KA_planLength (b := b) (c := c) I A hn (Or.inr ⟨_, 1, hx, Or.inl ⟨rfl, rfl⟩, rfl⟩))
    · refine q_catchN C 123 ⟨218, 223, 320, 106⟩ rfl (by decide +kernel) x5_xNS cst_xNS (by decide) (by decide) rfl (h := 320) rfl (fun q => ?_)
      refine q_astore C dL_call_320 (by decide) ?_
      refine q_sipush C dL_call_322 (by decide +kernel) ?_
      exact q_iretI C dL_call_325 (by decide) (by decide) (KA_planLength (b := b) (c := c) I A hn (Or.inr ⟨_, 2, hx, Or.inr (Or.inl ⟨rfl, rfl⟩), rfl⟩))
    · exact hi.elim
  · exact q_iretI C dL_call_223 ⟨lv, uv⟩ (by decide) (KA_planLength (b := b) (c := c) I A hn (Or.inl hv))
set_option maxRecDepth 20000 in
theorem KL_planByTrying {V : qHp} {S : St} {R : Int → Int} (g : qHp) (I : lq V S R g) (A : aI V S) (a : Int) (ha : -2147483648 ≤ a ∧ a < 2147483648) (b : Int) (hb : -2147483648 ≤ b ∧ b < 2147483648) (c : Int) (hc : -2147483648 ≤ c ∧ c < 2147483648) : qC yL_call cdC 11 2 (fun ad => [.ref (ad 0), .int (iI 16), .int (iI a), .int (iI b), .int (iI c)]) g (qPi (fun (v : Int) (g' : qHp) => v = aqP V S a ∧ lq V S R g')) qNo := by
  refine q_methH (by decide +kernel) rfl (fun _ => (Nat.le_of_ble_eq_true rfl)) (fun X ω C => ?_)
  refine q_nm (fun hn => ?_)
  have hcm : cmI g := by obtain ⟨I1, rfl, rfl, rfl⟩ := I; exact lq_cm A
  refine q_loc [(0, .ref (ω.1 0)), (1, .int (iI 16)), (2, .int (iI a)), (3, .int (iI b)), (4, .int (iI c))] ⟨rfl, rfl, rfl, rfl, rfl, trivial⟩ ?_
  refine q_iload_n C 1 dL_call_0 rfl rfl ?_
  refine q_tableIn C 224 dL_call_1 (by decide) (by decide) (by decide) rfl (by decide) ?_
  refine q_aload_n C 0 dL_call_224 rfl rfl ?_
  refine q_iload_n C 2 dL_call_225 rfl rfl ?_
  refine q_ViT (P := cP_planByTrying g a) (PX' := cX_planByTrying g a) C (KX5_planByTrying g a ha I.1.1) mX5_planByTrying ml_L_64 dL_call_226 (by decide) (by decide) rfl rfl rfl (Nat.le_of_ble_eq_true rfl) rfl (by decide) rfl rfl (fun E g1 hx => ?_) (fun v g1 lv uv hv => ?_)
  · have hi := xin_planByTrying hx
    rcases hi with rfl | rfl | hi
    · refine q_catchN C 16 ⟨224, 229, 296, 98⟩ rfl (by decide +kernel) x5_xIO cst_xIO (by decide) (by decide) rfl (h := 296) rfl (fun q => ?_)
      refine q_astore C dL_call_296 (by decide) ?_
      refine q_sipush C dL_call_298 (by decide +kernel) ?_
      exact q_iretI C dL_call_301 (by decide) (by decide) (KA_planByTrying (b := b) (c := c) I A hn (Or.inr ⟨_, 1, hx, Or.inl ⟨rfl, rfl⟩, rfl⟩))
    · refine q_catchN C 124 ⟨224, 229, 320, 106⟩ rfl (by decide +kernel) x5_xNS cst_xNS (by decide) (by decide) rfl (h := 320) rfl (fun q => ?_)
      refine q_astore C dL_call_320 (by decide) ?_
      refine q_sipush C dL_call_322 (by decide +kernel) ?_
      exact q_iretI C dL_call_325 (by decide) (by decide) (KA_planByTrying (b := b) (c := c) I A hn (Or.inr ⟨_, 2, hx, Or.inr (Or.inl ⟨rfl, rfl⟩), rfl⟩))
    · exact hi.elim
  · exact q_iretI C dL_call_229 ⟨lv, uv⟩ (by decide) (KA_planByTrying (b := b) (c := c) I A hn (Or.inl hv))
set_option maxRecDepth 20000 in
theorem KL_planBox {V : qHp} {S : St} {R : Int → Int} (g : qHp) (I : lq V S R g) (A : aI V S) (a : Int) (ha : -2147483648 ≤ a ∧ a < 2147483648) (b : Int) (hb : -2147483648 ≤ b ∧ b < 2147483648) (c : Int) (hc : -2147483648 ≤ c ∧ c < 2147483648) : qC yL_call cdC 9 3 (fun ad => [.ref (ad 0), .int (iI 17), .int (iI a), .int (iI b), .int (iI c)]) g (qPi (fun (v : Int) (g' : qHp) => v = aq17 V S a b ∧ lq V S R g')) qNo := by
  refine q_methH (by decide +kernel) rfl (fun _ => (Nat.le_of_ble_eq_true rfl)) (fun X ω C => ?_)
  refine q_nm (fun hn => ?_)
  have hcm : cmI g := by obtain ⟨I1, rfl, rfl, rfl⟩ := I; exact lq_cm A
  refine q_loc [(0, .ref (ω.1 0)), (1, .int (iI 17)), (2, .int (iI a)), (3, .int (iI b)), (4, .int (iI c))] ⟨rfl, rfl, rfl, rfl, rfl, trivial⟩ ?_
  refine q_iload_n C 1 dL_call_0 rfl rfl ?_
  refine q_tableIn C 230 dL_call_1 (by decide) (by decide) (by decide) rfl (by decide) ?_
  refine q_aload_n C 0 dL_call_230 rfl rfl ?_
  refine q_iload_n C 2 dL_call_231 rfl rfl ?_
  refine q_iload_n C 3 dL_call_232 rfl rfl ?_
  refine q_ViT (P := cP_planBox g a b) (PX' := cX_planBox g a b) C (KX5_planBox g a ha b hb I.1.1) mX5_planBox ml_L_67 dL_call_233 (by decide) (by decide) rfl rfl rfl (Nat.le_of_ble_eq_true rfl) rfl (by decide) rfl rfl (fun E g1 hx => ?_) (fun v g1 lv uv hv => ?_)
  · have hi := xin_planBox hx
    rcases hi with rfl | rfl | hi
    · refine q_catchN C 17 ⟨230, 236, 296, 98⟩ rfl (by decide +kernel) x5_xIO cst_xIO (by decide) (by decide) rfl (h := 296) rfl (fun q => ?_)
      refine q_astore C dL_call_296 (by decide) ?_
      refine q_sipush C dL_call_298 (by decide +kernel) ?_
      exact q_iretI C dL_call_301 (by decide) (by decide) (KA_planBox (b := b) (c := c) I A hn (Or.inr ⟨_, 1, hx, Or.inl ⟨rfl, rfl⟩, rfl⟩))
    · refine q_catchN C 125 ⟨230, 236, 320, 106⟩ rfl (by decide +kernel) x5_xNS cst_xNS (by decide) (by decide) rfl (h := 320) rfl (fun q => ?_)
      refine q_astore C dL_call_320 (by decide) ?_
      refine q_sipush C dL_call_322 (by decide +kernel) ?_
      exact q_iretI C dL_call_325 (by decide) (by decide) (KA_planBox (b := b) (c := c) I A hn (Or.inr ⟨_, 2, hx, Or.inr (Or.inl ⟨rfl, rfl⟩), rfl⟩))
    · exact hi.elim
  · exact q_iretI C dL_call_236 ⟨lv, uv⟩ (by decide) (KA_planBox (b := b) (c := c) I A hn (Or.inl hv))
set_option maxRecDepth 20000 in
theorem KL_planStack {V : qHp} {S : St} {R : Int → Int} (g : qHp) (I : lq V S R g) (A : aI V S) (a : Int) (ha : -2147483648 ≤ a ∧ a < 2147483648) (b : Int) (hb : -2147483648 ≤ b ∧ b < 2147483648) (c : Int) (hc : -2147483648 ≤ c ∧ c < 2147483648) : qC yL_call cdC 9 3 (fun ad => [.ref (ad 0), .int (iI 18), .int (iI a), .int (iI b), .int (iI c)]) g (qPi (fun (v : Int) (g' : qHp) => v = aq18 V S a b ∧ lq V S R g')) qNo := by
  refine q_methH (by decide +kernel) rfl (fun _ => (Nat.le_of_ble_eq_true rfl)) (fun X ω C => ?_)
  refine q_nm (fun hn => ?_)
  have hcm : cmI g := by obtain ⟨I1, rfl, rfl, rfl⟩ := I; exact lq_cm A
  refine q_loc [(0, .ref (ω.1 0)), (1, .int (iI 18)), (2, .int (iI a)), (3, .int (iI b)), (4, .int (iI c))] ⟨rfl, rfl, rfl, rfl, rfl, trivial⟩ ?_
  refine q_iload_n C 1 dL_call_0 rfl rfl ?_
  refine q_tableIn C 237 dL_call_1 (by decide) (by decide) (by decide) rfl (by decide) ?_
  refine q_aload_n C 0 dL_call_237 rfl rfl ?_
  refine q_iload_n C 2 dL_call_238 rfl rfl ?_
  refine q_iload_n C 3 dL_call_239 rfl rfl ?_
  refine q_ViT (P := cP_planStack g a b) (PX' := cX_planStack g a b) C (KX5_planStack g a ha b hb I.1.1) mX5_planStack ml_L_70 dL_call_240 (by decide) (by decide) rfl rfl rfl (Nat.le_of_ble_eq_true rfl) rfl (by decide) rfl rfl (fun E g1 hx => ?_) (fun v g1 lv uv hv => ?_)
  · have hi := xin_planStack hx
    rcases hi with rfl | rfl | hi
    · refine q_catchN C 18 ⟨237, 243, 296, 98⟩ rfl (by decide +kernel) x5_xIO cst_xIO (by decide) (by decide) rfl (h := 296) rfl (fun q => ?_)
      refine q_astore C dL_call_296 (by decide) ?_
      refine q_sipush C dL_call_298 (by decide +kernel) ?_
      exact q_iretI C dL_call_301 (by decide) (by decide) (KA_planStack (b := b) (c := c) I A hn (Or.inr ⟨_, 1, hx, Or.inl ⟨rfl, rfl⟩, rfl⟩))
    · refine q_catchN C 126 ⟨237, 243, 320, 106⟩ rfl (by decide +kernel) x5_xNS cst_xNS (by decide) (by decide) rfl (h := 320) rfl (fun q => ?_)
      refine q_astore C dL_call_320 (by decide) ?_
      refine q_sipush C dL_call_322 (by decide +kernel) ?_
      exact q_iretI C dL_call_325 (by decide) (by decide) (KA_planStack (b := b) (c := c) I A hn (Or.inr ⟨_, 2, hx, Or.inr (Or.inl ⟨rfl, rfl⟩), rfl⟩))
    · exact hi.elim
  · exact q_iretI C dL_call_243 ⟨lv, uv⟩ (by decide) (KA_planStack (b := b) (c := c) I A hn (Or.inl hv))
set_option maxRecDepth 20000 in
theorem KL_dig {V : qHp} {S : St} {R : Int → Int} (g : qHp) (I : lq V S R g) (A : aI V S) (a : Int) (ha : -2147483648 ≤ a ∧ a < 2147483648) (b : Int) (hb : -2147483648 ≤ b ∧ b < 2147483648) (c : Int) (hc : -2147483648 ≤ c ∧ c < 2147483648) : qC yL_call cdC 9 2 (fun ad => [.ref (ad 0), .int (iI 19), .int (iI a), .int (iI b), .int (iI c)]) g (qPi (fun (v : Int) (g' : qHp) => ∃ V' S' k r, sp_dig a V S k r V' S' ∧ v = ecd [-1001, -1005] k r ∧ lq V' S' R g')) qNo := by
  refine q_methH (by decide +kernel) rfl (fun _ => (Nat.le_of_ble_eq_true rfl)) (fun X ω C => ?_)
  refine q_nm (fun hn => ?_)
  have hcm : cmI g := by obtain ⟨I1, rfl, rfl, rfl⟩ := I; exact lq_cm A
  refine q_loc [(0, .ref (ω.1 0)), (1, .int (iI 19)), (2, .int (iI a)), (3, .int (iI b)), (4, .int (iI c))] ⟨rfl, rfl, rfl, rfl, rfl, trivial⟩ ?_
  refine q_iload_n C 1 dL_call_0 rfl rfl ?_
  refine q_tableIn C 244 dL_call_1 (by decide) (by decide) (by decide) rfl (by decide) ?_
  refine q_aload_n C 0 dL_call_244 rfl rfl ?_
  refine q_iload_n C 2 dL_call_245 rfl rfl ?_
  refine q_ViT (P := cP_dig g a) (PX' := cX_dig g a) C (KX5_dig g a ha I.1.1) mX5_dig ml_L_73 dL_call_246 (by decide) (by decide) rfl rfl rfl (Nat.le_of_ble_eq_true rfl) rfl (by decide) rfl rfl (fun E g1 hx => ?_) (fun v g1 lv uv hv => ?_)
  · have hi := xin_dig hx
    rcases hi with rfl | rfl | hi
    · refine q_catchN C 19 ⟨244, 249, 296, 98⟩ rfl (by decide +kernel) x5_xIO cst_xIO (by decide) (by decide) rfl (h := 296) rfl (fun q => ?_)
      refine q_astore C dL_call_296 (by decide) ?_
      refine q_sipush C dL_call_298 (by decide +kernel) ?_
      exact q_iretI C dL_call_301 (by decide) (by decide) (KA_dig (b := b) (c := c) I A hn (Or.inr ⟨_, 1, hx, Or.inl ⟨rfl, rfl⟩, rfl⟩))
    · refine q_catchN C 127 ⟨244, 249, 320, 106⟩ rfl (by decide +kernel) x5_xNS cst_xNS (by decide) (by decide) rfl (h := 320) rfl (fun q => ?_)
      refine q_astore C dL_call_320 (by decide) ?_
      refine q_sipush C dL_call_322 (by decide +kernel) ?_
      exact q_iretI C dL_call_325 (by decide) (by decide) (KA_dig (b := b) (c := c) I A hn (Or.inr ⟨_, 2, hx, Or.inr (Or.inl ⟨rfl, rfl⟩), rfl⟩))
    · exact hi.elim
  · exact q_iretI C dL_call_249 ⟨lv, uv⟩ (by decide) (KA_dig (b := b) (c := c) I A hn (Or.inl hv))
set_option maxRecDepth 20000 in
theorem KL_book {V : qHp} {S : St} {R : Int → Int} (g : qHp) (I : lq V S R g) (A : aI V S) (a : Int) (ha : -2147483648 ≤ a ∧ a < 2147483648) (b : Int) (hb : -2147483648 ≤ b ∧ b < 2147483648) (c : Int) (hc : -2147483648 ≤ c ∧ c < 2147483648) : qC yL_call cdC 8 3 (fun ad => [.ref (ad 0), .int (iI 20), .int (iI a), .int (iI b), .int (iI c)]) g (qPi (fun (v : Int) (g' : qHp) => ∃ V' S' k r, sp_book a b c V S k r V' S' ∧ v = ecd [-1001, -1002, -1004, -1003] k r ∧ lq V' S' R g')) qNo := by
  refine q_methH (by decide +kernel) rfl (fun _ => (Nat.le_of_ble_eq_true rfl)) (fun X ω C => ?_)
  refine q_nm (fun hn => ?_)
  have hcm : cmI g := by obtain ⟨I1, rfl, rfl, rfl⟩ := I; exact lq_cm A
  refine q_loc [(0, .ref (ω.1 0)), (1, .int (iI 20)), (2, .int (iI a)), (3, .int (iI b)), (4, .int (iI c))] ⟨rfl, rfl, rfl, rfl, rfl, trivial⟩ ?_
  refine q_iload_n C 1 dL_call_0 rfl rfl ?_
  refine q_tableIn C 250 dL_call_1 (by decide) (by decide) (by decide) rfl (by decide) ?_
  refine q_aload_n C 0 dL_call_250 rfl rfl ?_
  refine q_iload_n C 2 dL_call_251 rfl rfl ?_
  refine q_iload_n C 3 dL_call_252 rfl rfl ?_
  refine q_iload C dL_call_253 rfl ?_
  refine q_ViT (P := cP_book g a b c) (PX' := cX_book g a b c) C (KX5_book g a ha b hb c hc ) mX5_book ml_L_76 dL_call_255 (by decide) (by decide) rfl rfl rfl (Nat.le_of_ble_eq_true rfl) rfl (by decide) rfl rfl (fun E g1 hx => ?_) (fun v g1 lv uv hv => ?_)
  · have hi := xin_book hx
    rcases hi with rfl | rfl | rfl | rfl | hi
    · refine q_catchN C 20 ⟨250, 258, 296, 98⟩ rfl (by decide +kernel) x5_xIO cst_xIO (by decide) (by decide) rfl (h := 296) rfl (fun q => ?_)
      refine q_astore C dL_call_296 (by decide) ?_
      refine q_sipush C dL_call_298 (by decide +kernel) ?_
      exact q_iretI C dL_call_301 (by decide) (by decide) (KA_book (b := b) (c := c) I A hn (Or.inr ⟨_, 1, hx, Or.inl ⟨rfl, rfl⟩, rfl⟩))
    · refine q_catchN C 47 ⟨250, 258, 302, 100⟩ rfl (by decide +kernel) x5_xIA cst_xIA (by decide) (by decide) rfl (h := 302) rfl (fun q => ?_)
      refine q_astore C dL_call_302 (by decide) ?_
      refine q_sipush C dL_call_304 (by decide +kernel) ?_
      exact q_iretI C dL_call_307 (by decide) (by decide) (KA_book (b := b) (c := c) I A hn (Or.inr ⟨_, 2, hx, Or.inr (Or.inl ⟨rfl, rfl⟩), rfl⟩))
    · refine q_catchN C 101 ⟨250, 258, 314, 104⟩ rfl (by decide +kernel) x5_xUO cst_xUO (by decide) (by decide) rfl (h := 314) rfl (fun q => ?_)
      refine q_astore C dL_call_314 (by decide) ?_
      refine q_sipush C dL_call_316 (by decide +kernel) ?_
      exact q_iretI C dL_call_319 (by decide) (by decide) (KA_book (b := b) (c := c) I A hn (Or.inr ⟨_, 3, hx, Or.inr (Or.inr (Or.inl ⟨rfl, rfl⟩)), rfl⟩))
    · refine q_catchN C 74 ⟨250, 258, 308, 102⟩ rfl (by decide +kernel) x5_xIS cst_xIS (by decide) (by decide) rfl (h := 308) rfl (fun q => ?_)
      refine q_astore C dL_call_308 (by decide) ?_
      refine q_sipush C dL_call_310 (by decide +kernel) ?_
      exact q_iretI C dL_call_313 (by decide) (by decide) (KA_book (b := b) (c := c) I A hn (Or.inr ⟨_, 4, hx, Or.inr (Or.inr (Or.inr (Or.inl ⟨rfl, rfl⟩))), rfl⟩))
    · exact hi.elim
  · exact q_iretI C dL_call_258 ⟨lv, uv⟩ (by decide) (KA_book (b := b) (c := c) I A hn (Or.inl hv))
set_option maxRecDepth 20000 in
theorem KL_cancel {V : qHp} {S : St} {R : Int → Int} (g : qHp) (I : lq V S R g) (A : aI V S) (a : Int) (ha : -2147483648 ≤ a ∧ a < 2147483648) (b : Int) (hb : -2147483648 ≤ b ∧ b < 2147483648) (c : Int) (hc : -2147483648 ≤ c ∧ c < 2147483648) : qC yL_call cdC 8 2 (fun ad => [.ref (ad 0), .int (iI 21), .int (iI a), .int (iI b), .int (iI c)]) g (qPi (fun (v : Int) (g' : qHp) => ∃ V' S' k r, sp_cancel a V S k r V' S' ∧ v = ecd [-1001, -1003] k r ∧ lq V' S' R g')) qNo := by
  refine q_methH (by decide +kernel) rfl (fun _ => (Nat.le_of_ble_eq_true rfl)) (fun X ω C => ?_)
  refine q_nm (fun hn => ?_)
  have hcm : cmI g := by obtain ⟨I1, rfl, rfl, rfl⟩ := I; exact lq_cm A
  refine q_loc [(0, .ref (ω.1 0)), (1, .int (iI 21)), (2, .int (iI a)), (3, .int (iI b)), (4, .int (iI c))] ⟨rfl, rfl, rfl, rfl, rfl, trivial⟩ ?_
  refine q_iload_n C 1 dL_call_0 rfl rfl ?_
  refine q_tableIn C 259 dL_call_1 (by decide) (by decide) (by decide) rfl (by decide) ?_
  refine q_aload_n C 0 dL_call_259 rfl rfl ?_
  refine q_iload_n C 2 dL_call_260 rfl rfl ?_
  refine q_ViT (P := cP_cancel g a) (PX' := cX_cancel g a) C (KX5_cancel g a ha ) mX5_cancel ml_L_80 dL_call_261 (by decide) (by decide) rfl rfl rfl (Nat.le_of_ble_eq_true rfl) rfl (by decide) rfl rfl (fun E g1 hx => ?_) (fun v g1 lv uv hv => ?_)
  · have hi := xin_cancel hx
    rcases hi with rfl | rfl | hi
    · refine q_catchN C 21 ⟨259, 264, 296, 98⟩ rfl (by decide +kernel) x5_xIO cst_xIO (by decide) (by decide) rfl (h := 296) rfl (fun q => ?_)
      refine q_astore C dL_call_296 (by decide) ?_
      refine q_sipush C dL_call_298 (by decide +kernel) ?_
      exact q_iretI C dL_call_301 (by decide) (by decide) (KA_cancel (b := b) (c := c) I A hn (Or.inr ⟨_, 1, hx, Or.inl ⟨rfl, rfl⟩, rfl⟩))
    · refine q_catchN C 75 ⟨259, 264, 308, 102⟩ rfl (by decide +kernel) x5_xIS cst_xIS (by decide) (by decide) rfl (h := 308) rfl (fun q => ?_)
      refine q_astore C dL_call_308 (by decide) ?_
      refine q_sipush C dL_call_310 (by decide +kernel) ?_
      exact q_iretI C dL_call_313 (by decide) (by decide) (KA_cancel (b := b) (c := c) I A hn (Or.inr ⟨_, 2, hx, Or.inr (Or.inl ⟨rfl, rfl⟩), rfl⟩))
    · exact hi.elim
  · exact q_iretI C dL_call_264 ⟨lv, uv⟩ (by decide) (KA_cancel (b := b) (c := c) I A hn (Or.inl hv))
set_option maxRecDepth 20000 in
theorem KL_stateOf {V : qHp} {S : St} {R : Int → Int} (g : qHp) (I : lq V S R g) (A : aI V S) (a : Int) (ha : -2147483648 ≤ a ∧ a < 2147483648) (b : Int) (hb : -2147483648 ≤ b ∧ b < 2147483648) (c : Int) (hc : -2147483648 ≤ c ∧ c < 2147483648) : qC yL_call cdC 8 1 (fun ad => [.ref (ad 0), .int (iI 22), .int (iI a), .int (iI b), .int (iI c)]) g (qPi (fun (v : Int) (g' : qHp) => v = aq22 V a ∧ lq V S R g')) qNo := by
  refine q_methH (by decide +kernel) rfl (fun _ => (Nat.le_of_ble_eq_true rfl)) (fun X ω C => ?_)
  refine q_nm (fun hn => ?_)
  have hcm : cmI g := by obtain ⟨I1, rfl, rfl, rfl⟩ := I; exact lq_cm A
  refine q_loc [(0, .ref (ω.1 0)), (1, .int (iI 22)), (2, .int (iI a)), (3, .int (iI b)), (4, .int (iI c))] ⟨rfl, rfl, rfl, rfl, rfl, trivial⟩ ?_
  refine q_iload_n C 1 dL_call_0 rfl rfl ?_
  refine q_tableIn C 265 dL_call_1 (by decide) (by decide) (by decide) rfl (by decide) ?_
  refine q_aload_n C 0 dL_call_265 rfl rfl ?_
  refine q_iload_n C 2 dL_call_266 rfl rfl ?_
  refine q_ViT (P := cP_stateOf g a) (PX' := cX_stateOf g a) C (KX5_stateOf g a ha ) mX5_stateOf ml_L_83 dL_call_267 (by decide) (by decide) rfl rfl rfl (Nat.le_of_ble_eq_true rfl) rfl (by decide) rfl rfl (fun E g1 hx => ?_) (fun v g1 lv uv hv => ?_)
  · have hi := xin_stateOf hx
    rcases hi with rfl | hi
    · refine q_catchN C 22 ⟨265, 270, 296, 98⟩ rfl (by decide +kernel) x5_xIO cst_xIO (by decide) (by decide) rfl (h := 296) rfl (fun q => ?_)
      refine q_astore C dL_call_296 (by decide) ?_
      refine q_sipush C dL_call_298 (by decide +kernel) ?_
      exact q_iretI C dL_call_301 (by decide) (by decide) (KA_stateOf (b := b) (c := c) I A hn (Or.inr ⟨_, 1, hx, Or.inl ⟨rfl, rfl⟩, rfl⟩))
    · exact hi.elim
  · exact q_iretI C dL_call_270 ⟨lv, uv⟩ (by decide) (KA_stateOf (b := b) (c := c) I A hn (Or.inl hv))
set_option maxRecDepth 20000 in
theorem KL_appointmentOf {V : qHp} {S : St} {R : Int → Int} (g : qHp) (I : lq V S R g) (A : aI V S) (a : Int) (ha : -2147483648 ≤ a ∧ a < 2147483648) (b : Int) (hb : -2147483648 ≤ b ∧ b < 2147483648) (c : Int) (hc : -2147483648 ≤ c ∧ c < 2147483648) : qC yL_call cdC 8 2 (fun ad => [.ref (ad 0), .int (iI 23), .int (iI a), .int (iI b), .int (iI c)]) g (qPi (fun (v : Int) (g' : qHp) => v = aq23 V S a ∧ lq V S R g')) qNo := by
  refine q_methH (by decide +kernel) rfl (fun _ => (Nat.le_of_ble_eq_true rfl)) (fun X ω C => ?_)
  refine q_nm (fun hn => ?_)
  have hcm : cmI g := by obtain ⟨I1, rfl, rfl, rfl⟩ := I; exact lq_cm A
  refine q_loc [(0, .ref (ω.1 0)), (1, .int (iI 23)), (2, .int (iI a)), (3, .int (iI b)), (4, .int (iI c))] ⟨rfl, rfl, rfl, rfl, rfl, trivial⟩ ?_
  refine q_iload_n C 1 dL_call_0 rfl rfl ?_
  refine q_tableIn C 271 dL_call_1 (by decide) (by decide) (by decide) rfl (by decide) ?_
  refine q_aload_n C 0 dL_call_271 rfl rfl ?_
  refine q_iload_n C 2 dL_call_272 rfl rfl ?_
  refine q_ViT (P := cP_appointmentOf g a) (PX' := cX_appointmentOf g a) C (KX5_appointmentOf g a ha ) mX5_appointmentOf ml_L_86 dL_call_273 (by decide) (by decide) rfl rfl rfl (Nat.le_of_ble_eq_true rfl) rfl (by decide) rfl rfl (fun E g1 hx => ?_) (fun v g1 lv uv hv => ?_)
  · have hi := xin_appointmentOf hx
    rcases hi with rfl | rfl | hi
    · refine q_catchN C 23 ⟨271, 276, 296, 98⟩ rfl (by decide +kernel) x5_xIO cst_xIO (by decide) (by decide) rfl (h := 296) rfl (fun q => ?_)
      refine q_astore C dL_call_296 (by decide) ?_
      refine q_sipush C dL_call_298 (by decide +kernel) ?_
      exact q_iretI C dL_call_301 (by decide) (by decide) (KA_appointmentOf (b := b) (c := c) I A hn (Or.inr ⟨_, 1, hx, Or.inl ⟨rfl, rfl⟩, rfl⟩))
    · refine q_catchN C 131 ⟨271, 276, 320, 106⟩ rfl (by decide +kernel) x5_xNS cst_xNS (by decide) (by decide) rfl (h := 320) rfl (fun q => ?_)
      refine q_astore C dL_call_320 (by decide) ?_
      refine q_sipush C dL_call_322 (by decide +kernel) ?_
      exact q_iretI C dL_call_325 (by decide) (by decide) (KA_appointmentOf (b := b) (c := c) I A hn (Or.inr ⟨_, 2, hx, Or.inr (Or.inl ⟨rfl, rfl⟩), rfl⟩))
    · exact hi.elim
  · exact q_iretI C dL_call_276 ⟨lv, uv⟩ (by decide) (KA_appointmentOf (b := b) (c := c) I A hn (Or.inl hv))
set_option maxRecDepth 20000 in
theorem KL_inLane {V : qHp} {S : St} {R : Int → Int} (g : qHp) (I : lq V S R g) (A : aI V S) (a : Int) (ha : -2147483648 ≤ a ∧ a < 2147483648) (b : Int) (hb : -2147483648 ≤ b ∧ b < 2147483648) (c : Int) (hc : -2147483648 ≤ c ∧ c < 2147483648) : qC yL_call cdC 8 2 (fun ad => [.ref (ad 0), .int (iI 24), .int (iI a), .int (iI b), .int (iI c)]) g (qPi (fun (v : Int) (g' : qHp) => v = aq24 V a b ∧ lq V S R g')) qNo := by
  refine q_methH (by decide +kernel) rfl (fun _ => (Nat.le_of_ble_eq_true rfl)) (fun X ω C => ?_)
  refine q_nm (fun hn => ?_)
  have hcm : cmI g := by obtain ⟨I1, rfl, rfl, rfl⟩ := I; exact lq_cm A
  refine q_loc [(0, .ref (ω.1 0)), (1, .int (iI 24)), (2, .int (iI a)), (3, .int (iI b)), (4, .int (iI c))] ⟨rfl, rfl, rfl, rfl, rfl, trivial⟩ ?_
  refine q_iload_n C 1 dL_call_0 rfl rfl ?_
  refine q_tableIn C 277 dL_call_1 (by decide) (by decide) (by decide) rfl (by decide) ?_
  refine q_aload_n C 0 dL_call_277 rfl rfl ?_
  refine q_iload_n C 2 dL_call_278 rfl rfl ?_
  refine q_iload_n C 3 dL_call_279 rfl rfl ?_
  refine q_ViT (P := cP_inLane g a b) (PX' := cX_inLane g a b) C (KX5_inLane g a ha b hb ) mX5_inLane ml_L_89 dL_call_280 (by decide) (by decide) rfl rfl rfl (Nat.le_of_ble_eq_true rfl) rfl (by decide) rfl rfl (fun E g1 hx => ?_) (fun v g1 lv uv hv => ?_)
  · have hi := xin_inLane hx
    rcases hi with rfl | rfl | hi
    · refine q_catchN C 24 ⟨277, 283, 296, 98⟩ rfl (by decide +kernel) x5_xIO cst_xIO (by decide) (by decide) rfl (h := 296) rfl (fun q => ?_)
      refine q_astore C dL_call_296 (by decide) ?_
      refine q_sipush C dL_call_298 (by decide +kernel) ?_
      exact q_iretI C dL_call_301 (by decide) (by decide) (KA_inLane (b := b) (c := c) I A hn (Or.inr ⟨_, 1, hx, Or.inl ⟨rfl, rfl⟩, rfl⟩))
    · refine q_catchN C 51 ⟨277, 283, 302, 100⟩ rfl (by decide +kernel) x5_xIA cst_xIA (by decide) (by decide) rfl (h := 302) rfl (fun q => ?_)
      refine q_astore C dL_call_302 (by decide) ?_
      refine q_sipush C dL_call_304 (by decide +kernel) ?_
      exact q_iretI C dL_call_307 (by decide) (by decide) (KA_inLane (b := b) (c := c) I A hn (Or.inr ⟨_, 2, hx, Or.inr (Or.inl ⟨rfl, rfl⟩), rfl⟩))
    · exact hi.elim
  · exact q_iretI C dL_call_283 ⟨lv, uv⟩ (by decide) (KA_inLane (b := b) (c := c) I A hn (Or.inl hv))
set_option maxRecDepth 20000 in
theorem KL_firstHour {V : qHp} {S : St} {R : Int → Int} (g : qHp) (I : lq V S R g) (A : aI V S) (a : Int) (ha : -2147483648 ≤ a ∧ a < 2147483648) (b : Int) (hb : -2147483648 ≤ b ∧ b < 2147483648) (c : Int) (hc : -2147483648 ≤ c ∧ c < 2147483648) : qC yL_call cdC 8 2 (fun ad => [.ref (ad 0), .int (iI 25), .int (iI a), .int (iI b), .int (iI c)]) g (qPi (fun (v : Int) (g' : qHp) => v = aq25 V S a ∧ lq V S R g')) qNo := by
  refine q_methH (by decide +kernel) rfl (fun _ => (Nat.le_of_ble_eq_true rfl)) (fun X ω C => ?_)
  refine q_nm (fun hn => ?_)
  have hcm : cmI g := by obtain ⟨I1, rfl, rfl, rfl⟩ := I; exact lq_cm A
  refine q_loc [(0, .ref (ω.1 0)), (1, .int (iI 25)), (2, .int (iI a)), (3, .int (iI b)), (4, .int (iI c))] ⟨rfl, rfl, rfl, rfl, rfl, trivial⟩ ?_
  refine q_iload_n C 1 dL_call_0 rfl rfl ?_
  refine q_tableIn C 284 dL_call_1 (by decide) (by decide) (by decide) rfl (by decide) ?_
  refine q_aload_n C 0 dL_call_284 rfl rfl ?_
  refine q_iload_n C 2 dL_call_285 rfl rfl ?_
  refine q_ViT (P := cP_firstHour g a) (PX' := cX_firstHour g a) C (KX5_firstHour g a ha ) mX5_firstHour ml_L_92 dL_call_286 (by decide) (by decide) rfl rfl rfl (Nat.le_of_ble_eq_true rfl) rfl (by decide) rfl rfl (fun E g1 hx => ?_) (fun v g1 lv uv hv => ?_)
  · have hi := xin_firstHour hx
    rcases hi with rfl | rfl | hi
    · refine q_catchN C 25 ⟨284, 289, 296, 98⟩ rfl (by decide +kernel) x5_xIO cst_xIO (by decide) (by decide) rfl (h := 296) rfl (fun q => ?_)
      refine q_astore C dL_call_296 (by decide) ?_
      refine q_sipush C dL_call_298 (by decide +kernel) ?_
      exact q_iretI C dL_call_301 (by decide) (by decide) (KA_firstHour (b := b) (c := c) I A hn (Or.inr ⟨_, 1, hx, Or.inl ⟨rfl, rfl⟩, rfl⟩))
    · refine q_catchN C 133 ⟨284, 289, 320, 106⟩ rfl (by decide +kernel) x5_xNS cst_xNS (by decide) (by decide) rfl (h := 320) rfl (fun q => ?_)
      refine q_astore C dL_call_320 (by decide) ?_
      refine q_sipush C dL_call_322 (by decide +kernel) ?_
      exact q_iretI C dL_call_325 (by decide) (by decide) (KA_firstHour (b := b) (c := c) I A hn (Or.inr ⟨_, 2, hx, Or.inr (Or.inl ⟨rfl, rfl⟩), rfl⟩))
    · exact hi.elim
  · exact q_iretI C dL_call_289 ⟨lv, uv⟩ (by decide) (KA_firstHour (b := b) (c := c) I A hn (Or.inl hv))
set_option maxRecDepth 20000 in
theorem KL_pass {V : qHp} {S : St} {R : Int → Int} (g : qHp) (I : lq V S R g) (A : aI V S) (a : Int) (ha : -2147483648 ≤ a ∧ a < 2147483648) (b : Int) (hb : -2147483648 ≤ b ∧ b < 2147483648) (c : Int) (hc : -2147483648 ≤ c ∧ c < 2147483648) : qC yL_call cdC 7 1 (fun ad => [.ref (ad 0), .int (iI 26), .int (iI a), .int (iI b), .int (iI c)]) g (qPi (fun (v : Int) (g' : qHp) => ∃ V' S' k r, sp_pass a V S k r V' S' ∧ v = ecd [-1002] k r ∧ lq V' S' R g')) qNo := by
  refine q_methH (by decide +kernel) rfl (fun _ => (Nat.le_of_ble_eq_true rfl)) (fun X ω C => ?_)
  refine q_nm (fun hn => ?_)
  have hcm : cmI g := by obtain ⟨I1, rfl, rfl, rfl⟩ := I; exact lq_cm A
  refine q_loc [(0, .ref (ω.1 0)), (1, .int (iI 26)), (2, .int (iI a)), (3, .int (iI b)), (4, .int (iI c))] ⟨rfl, rfl, rfl, rfl, rfl, trivial⟩ ?_
  refine q_iload_n C 1 dL_call_0 rfl rfl ?_
  refine q_tableOut C 290 dL_call_1 (by decide) (by decide) (by decide) ?_
  refine q_aload_n C 0 dL_call_290 rfl rfl ?_
  refine q_iload_n C 2 dL_call_291 rfl rfl ?_
  refine q_ViT (P := cP_pass g a) (PX' := cX_pass g a) C (KX5_pass g a ha I.1.1 I.1.2.2.2) mX5_pass ml_L_95 dL_call_292 (by decide) (by decide) rfl rfl rfl (Nat.le_of_ble_eq_true rfl) rfl (by decide) rfl rfl (fun E g1 hx => ?_) (fun v g1 lv uv hv => ?_)
  · have hi := xin_pass hx
    rcases hi with rfl | hi
    · refine q_catchN C 53 ⟨290, 295, 302, 100⟩ rfl (by decide +kernel) x5_xIA cst_xIA (by decide) (by decide) rfl (h := 302) rfl (fun q => ?_)
      refine q_astore C dL_call_302 (by decide) ?_
      refine q_sipush C dL_call_304 (by decide +kernel) ?_
      exact q_iretI C dL_call_307 (by decide) (by decide) (KA_pass (b := b) (c := c) I A hn (Or.inr ⟨_, 1, hx, Or.inl ⟨rfl, rfl⟩, rfl⟩))
    · exact hi.elim
  · exact q_iretI C dL_call_295 ⟨lv, uv⟩ (by decide) (KA_pass (b := b) (c := c) I A hn (Or.inl hv))
