/-! the reference: the calls with plans, and those that change something -/
def whyM (g : qHp) (b s r : Int) : Prop := ((stM g 0 (soS (stM g 0) b)).head? ≠ some b ∧ r = 116) ∨ ((stM g 0 (soS (stM g 0) b)).head? = some b ∧ g 27 b = 112 ∧ r = 112) ∨ ((stM g 0 (soS (stM g 0) b)).head? = some b ∧ g 27 b ≠ 112 ∧ ((soS (stM g 0) b = s ∧ r = 115) ∨ (soS (stM g 0) b ≠ s ∧ ((g 29 s = g 24 s ∧ r = 102) ∨ (g 29 s ≠ g 24 s ∧ (((hM g 0 s < g 24 s ∧ ∀ x, (stM g 0 s).head? = some x → g 25 b ≤ g 25 x) ∧ r = 45) ∨ (¬ (hM g 0 s < g 24 s ∧ ∀ x, (stM g 0 s).head? = some x → g 25 b ≤ g 25 x) ∧ r = 119)))))))
theorem c0_j (g : qHp) {j : Int} (h : j ≠ 0) : c0 g 23 j = g 23 j := qUp_j h
theorem c0_k (g : qHp) {k : Nat} (h : k ≠ 23) : c0 g k = g k := qUp_row h
theorem cN_c0 (g : qHp) : qUp g 23 0 1 = qUp (c0 g) 23 0 1 := by
  funext k j
  by_cases q : k = 23 ∧ j = 0
  · obtain ⟨rfl, rfl⟩ := q
    rw [qUp_s, qUp_s]
  · by_cases q2 : k = 23
    · have q3 : j ≠ 0 := fun e => q ⟨q2, e⟩
      rw [qUp_j q3, qUp_j q3, q2, c0_j g q3]
    · rw [qUp_k q2, qUp_k q2, c0_k g q2]
theorem c0_0 (g : qHp) : c0 g 23 0 = 0 := qUp_s _ _ _ _
abbrev isBM (g : qHp) (b : Int) : Prop := 0 ≤ b ∧ b < g 23 4 ∧ g 26 b = 1
def planQ (g0 : qHp) (b r : Int) (g' : qHp) : Prop := (¬ isBM g0 b ∧ r = 0 ∧ g' = qUp g0 23 0 1) ∨ (isBM g0 b ∧ r = 0 ∧ noN g0 b ∧ ∃ g1, fndF g0 g1 ∧ g' = qUp g1 23 0 2) ∨ (isBM g0 b ∧ fndF g0 g' ∧ ∃ L, leaN g0 b L ∧ r = (L.length : Int) ∧ ∀ i : Nat, i < L.length → L[i]? = some (g' 31 (i : Int)))
theorem leaN_len {g : qHp} {b : Int} {L : List Int} (o : yK g 0) (h : leaN g b L) : L.length ≤ 4 ∧ digs L ∧ plnN g b L := by
  obtain ⟨n, h1, h2, h3, -⟩ := h
  have h0 := h1
  obtain ⟨s, h4, h5⟩ := h1
  have h6 := ix_lt h4
  have h7 : (stM g 0 s).length ≤ 4 := o.2.2.2.2.1.2.2.2.1 s
  have h9 := h2
  obtain ⟨z, q, -⟩ := h2
  exact ⟨by omega, run_dig o.1.2 (yOK_cut o) o.2.2.2.2.1 q, h9⟩
theorem plq_f {g0 g' : qHp} {b r : Int} (o : yK g0 0) (hz : g0 23 0 = 0) (h : planQ g0 b r g') : (0 ≤ r ∧ r ≤ 4) ∧ ((g' 23 0 = 1 ∧ ¬ isBM g0 b) ∨ (g' 23 0 = 2 ∧ isBM g0 b) ∨ (g' 23 0 = 0 ∧ isBM g0 b)) := by
  rcases h with ⟨h1, h2, rfl⟩ | ⟨h1, h2, -, g1, -, rfl⟩ | ⟨h1, h2, L, h3, h4, -⟩
  · exact ⟨by omega, Or.inl ⟨qUp_s _ _ _ _, h1⟩⟩
  · exact ⟨by omega, Or.inr (Or.inl ⟨qUp_s _ _ _ _, h1⟩)⟩
  · have := leaN_len o h3
    exact ⟨by omega, Or.inr (Or.inr ⟨by rw [h2.2.2 23 (by decide) (by decide) (by decide)]; exact hz, h1⟩)⟩
def plaQ (g0 : qHp) (b i r : Int) (g' : qHp) : Prop := (0 ≤ r ∧ r ≤ 79) ∧ ((¬ isBM g0 b ∧ g' = qUp g0 23 0 1) ∨ (isBM g0 b ∧ (noN g0 b ∨ ∃ L, leaN g0 b L ∧ ¬ (0 ≤ i ∧ i < L.length)) ∧ ∃ g1, fndF g0 g1 ∧ g' = qUp g1 23 0 2) ∨ (isBM g0 b ∧ fndF g0 g' ∧ ∃ L, leaN g0 b L ∧ 0 ≤ i ∧ L[i.toNat]? = some r))
theorem pla_1 {g0 g' : qHp} {b i r : Int} (hz : g0 23 0 = 0) (h : planQ g0 b r g') (hc : g' 23 0 ≠ 0) : plaQ g0 b i 0 g' := by
  refine ⟨by decide, ?_⟩
  rcases h with ⟨h1, h2, h3⟩ | ⟨h1, h2, h3, h4⟩ | ⟨h1, h2, L, h3, h4, -⟩
  · exact Or.inl ⟨h1, h3⟩
  · exact Or.inr (Or.inl ⟨h1, Or.inl h3, h4⟩)
  · rw [h2.2.2 23 (by decide) (by decide) (by decide)] at hc
    exact absurd hz hc
theorem pla_2 {g0 g' : qHp} {b i r v : Int} (o : yK g0 0) (h : planQ g0 b r g') (hc : g' 23 0 = 0) (hi : 0 ≤ i ∧ i < r) (hv : v = g' 31 i) : plaQ g0 b i v g' := by
  rcases h with ⟨h1, h2, rfl⟩ | ⟨h1, h2, -, g1, -, rfl⟩ | ⟨h1, h2, L, h3, h4, h5⟩
  · rw [qUp_s] at hc
    omega
  · rw [qUp_s] at hc
    omega
  · have q := h5 i.toNat (by omega)
    rw [show ((i.toNat : Nat) : Int) = i by omega, ← hv] at q
    have hm : v ∈ L := List.mem_of_getElem? q
    have := (leaN_len o h3).2.1 v hm
    exact ⟨by omega, Or.inr (Or.inr ⟨h1, h2, L, h3, hi.1, q⟩)⟩
theorem pla_3 {g0 g' : qHp} {b i r : Int} (h : planQ g0 b r g') (hc : g' 23 0 = 0) (hi : ¬ (0 ≤ i ∧ i < r)) : plaQ g0 b i 0 (qUp g' 23 0 2) := by
  refine ⟨by decide, ?_⟩
  rcases h with ⟨h1, h2, rfl⟩ | ⟨h1, h2, -, g1, -, rfl⟩ | ⟨h1, h2, L, h3, h4, h5⟩
  · rw [qUp_s] at hc
    omega
  · rw [qUp_s] at hc
    omega
  · exact Or.inr (Or.inl ⟨h1, Or.inr ⟨L, h3, by rw [← h4]; exact hi⟩, g', h2, rfl⟩)
def digQ (g0 : qHp) (b r : Int) (g' : qHp) : Prop := ∃ g1 L z, planQ g0 b r g1 ∧ r = (L.length : Int) ∧ runN g0 b L (stM g0 0) z ∧ mkQ g1 g' L.length z ∧ (g1 23 0 = 0 → leaN g0 b L)
theorem cN_yK {g : qHp} {k : Int} (o : yK g 0) : yK (qUp g 23 0 k) 0 ∧ stM (qUp g 23 0 k) 0 = stM g 0 := yK_eq (qUp_j (by decide)) (qUp_row (by decide)) (fun j _ _ => by rw [qUp_k (by decide)]) (fun j _ _ => by rw [qUp_k (by decide)]) o
theorem dig_pre {g0 g1 : qHp} {b r : Int} (o : yK g0 0) (h : planQ g0 b r g1) : ∃ L z, L.length ≤ 4 ∧ r = (L.length : Int) ∧ (∀ i : Nat, i < L.length → L[i]? = some (g1 31 (i : Int))) ∧ runN g0 b L (stM g0 0) z ∧ runR (g1 23 2) (cut4 (g1 24)) (wM g0) (pnM g0) b L (stM g1 0) z ∧ yK g1 0 ∧ (g1 23 0 = 0 → leaN g0 b L) := by
  rcases h with ⟨h1, h2, rfl⟩ | ⟨h1, h2, -, g2, F, rfl⟩ | ⟨h1, F, L, h3, h4, h5⟩
  · obtain ⟨a, c⟩ := cN_yK (k := 1) o
    exact ⟨[], stM g0 0, by simp, h2, fun i hi => by simp at hi, rfl, c, a, fun q => by rw [qUp_s] at q; omega⟩
  · obtain ⟨a, c⟩ := fndF_yK F o
    obtain ⟨a2, c2⟩ := cN_yK (k := 2) a
    exact ⟨[], stM g0 0, by simp, h2, fun i hi => by simp at hi, rfl, c2.trans c, a2, fun q => by rw [qUp_s] at q; omega⟩
  · obtain ⟨a, c⟩ := fndF_yK F o
    obtain ⟨q1, q2, z, q3, q4⟩ := leaN_len o h3
    obtain ⟨e1, e2, -⟩ := fndF_w F
    exact ⟨L, z, q1, h4, h5, q3, by rw [e1, e2, c]; exact q3, a, fun _ => h3⟩
def abM (g : qHp) (w s : Int) : qHp := qUp (qUp (qUp (qUp (qUp (qUp g 25 (g 23 4) w) 26 (g 23 4) 1) 27 (g 23 4) 45) 30 (4 * s + g 29 s) (g 23 4)) 29 s (g 29 s + 1)) 23 4 (g 23 4 + 1)
def bkM (g : qHp) (b h l : Int) : qHp := qUp (qUp (qUp (qUp (qUp g 32 (g 23 13) b) 33 (g 23 13) h) 34 (g 23 13) l) 35 (g 23 13) 98) 23 13 (g 23 13 + 1)
theorem bkN_K {g g' : qHp} {b : Int} (h1 : g' 35 = g 35) (h2 : g' 32 = g 32) : bkN g' b = bkN g b := by
  unfold bkN
  rw [h1, h2]
set_option maxRecDepth 20000 in
theorem KX6_holdOf (g : qHp) (b : Int) (hb : -2147483648 ≤ b ∧ b < 2147483648)  : qC yX6_holdOf (.code yX6_holdOf cX6_holdOf 2 (some .char)) 2 0 (fun ad => [.ref (ad 23), .int (iI b)]) g (qPi (fun (r : Int) (g' : qHp) => ((0 ≤ b ∧ b < (c0 g) 23 4 ∧ (c0 g) 26 b = 1) ∧ r = (c0 g) 27 b ∧ g' = (c0 g)) ∨ (¬ (0 ≤ b ∧ b < (c0 g) 23 4 ∧ (c0 g) 26 b = 1) ∧ g' = qUp (c0 g) 23 0 1))) qNo := by
  refine q_meth (by decide +kernel) rfl (fun _ => (Nat.le_of_ble_eq_true rfl)) (fun X ω C => ?_)
  refine q_nm (fun hn => ?_)
  have r23_4 : 0 ≤ g 23 4 ∧ g 23 4 ≤ 20 := hn 23 4
  have k4 : c0 g 23 4 = g 23 4 := c0_j g (by decide)
  have k2 : c0 g 23 2 = g 23 2 := c0_j g (by decide)
  have k26 : c0 g 26 b = g 26 b := by rw [c0_k g (by decide)]
  have k0 := c0_0 g
  have kc := cN_c0 g
  have k27 : c0 g 27 b = g 27 b := by rw [c0_k g (by decide)]
  refine q_loc [(0, .ref (ω.1 23)), (1, .int (iI b))] ⟨rfl, rfl, trivial⟩ ?_
  refine q_aload_n C 0 dX6_holdOf_0 rfl rfl ?_
  refine q_aload_n C 0 dX6_holdOf_1 rfl rfl ?_
  refine q_iload_n C 1 dX6_holdOf_2 rfl rfl ?_
  refine q_Vf0 C (KX6_isBox _ _ (by omega)) mX6_isBox ml_X6_120 dX6_holdOf_3 (by decide) (by decide) rfl rfl rfl (Nat.le_of_ble_eq_true rfl) rfl (by decide) rfl rfl (fun v3 l3 u3 h3 => ?_)
  refine q_ifeq C 13 dX6_holdOf_6 (by decide) (by omega) (fun c6 => ?_) (fun c6 => ?_)
  · refine q_iconst C dX6_holdOf_13 ?_
    refine q_puti C (b := 23) 0 0 0 4 _ rfl (by decide) rfl in_X6 tyX6_ok nmX6 (by decide) fl_X6_48 rfl (by decide +kernel) rfl rfl rfl rfl (by omega) dX6_holdOf_14 ?_
    refine q_aload_n C 0 dX6_holdOf_17 rfl rfl ?_
    refine q_geti C (b := 23) 0 0 0 4 rfl (by decide) rfl in_X6 (by decide) fl_X6_48 rfl rfl rfl dX6_holdOf_18 (fun v18 e18 l18 u18 => ?_)
    rw [qUp_s] at e18
    refine q_ifle C 28 dX6_holdOf_21 (by decide) (by omega) (fun c21 => ?_) (fun c21 => ?_)
    · refine q_aload_n C 0 dX6_holdOf_28 rfl rfl ?_
      refine q_getr C (b := 23) 7 rfl (by decide) rfl in_X6 (by decide) fl_X6_20 rfl dX6_holdOf_29 ?_
      refine q_iload_n C 1 dX6_holdOf_32 rfl rfl ?_
      refine q_cald C (b := 27) (n := 20) 0 65535 rfl (by decide) (by decide) (by omega) (fun _ => rfl) dX6_holdOf_33 (fun v33 e33 l33 u33 => ?_)
      rw [qUp_k (by decide)] at e33
      first
        | exact q_iretC C dX6_holdOf_34 (by omega) (by decide) (Or.inl ⟨by omega, by omega, rfl⟩)
        | exact q_iretC C dX6_holdOf_34 (by omega) (by decide) (Or.inr ⟨by omega, kc⟩)
        | (exfalso; omega)
    · refine q_iconst C dX6_holdOf_24 ?_
      refine q_goto C 34 dX6_holdOf_25 (by decide) ?_
      first
        | exact q_iretC C dX6_holdOf_34 (by omega) (by decide) (Or.inl ⟨by omega, by omega, rfl⟩)
        | exact q_iretC C dX6_holdOf_34 (by omega) (by decide) (Or.inr ⟨by omega, kc⟩)
        | (exfalso; omega)
  · refine q_iconst C dX6_holdOf_9 ?_
    refine q_goto C 14 dX6_holdOf_10 (by decide) ?_
    refine q_puti C (b := 23) 0 0 0 4 _ rfl (by decide) rfl in_X6 tyX6_ok nmX6 (by decide) fl_X6_48 rfl (by decide +kernel) rfl rfl rfl rfl (by omega) dX6_holdOf_14 ?_
    refine q_aload_n C 0 dX6_holdOf_17 rfl rfl ?_
    refine q_geti C (b := 23) 0 0 0 4 rfl (by decide) rfl in_X6 (by decide) fl_X6_48 rfl rfl rfl dX6_holdOf_18 (fun v18 e18 l18 u18 => ?_)
    rw [qUp_s] at e18
    refine q_ifle C 28 dX6_holdOf_21 (by decide) (by omega) (fun c21 => ?_) (fun c21 => ?_)
    · refine q_aload_n C 0 dX6_holdOf_28 rfl rfl ?_
      refine q_getr C (b := 23) 7 rfl (by decide) rfl in_X6 (by decide) fl_X6_20 rfl dX6_holdOf_29 ?_
      refine q_iload_n C 1 dX6_holdOf_32 rfl rfl ?_
      refine q_cald C (b := 27) (n := 20) 0 65535 rfl (by decide) (by decide) (by omega) (fun _ => rfl) dX6_holdOf_33 (fun v33 e33 l33 u33 => ?_)
      rw [qUp_k (by decide)] at e33
      first
        | exact q_iretC C dX6_holdOf_34 (by omega) (by decide) (Or.inl ⟨by omega, by omega, rfl⟩)
        | exact q_iretC C dX6_holdOf_34 (by omega) (by decide) (Or.inr ⟨by omega, kc⟩)
        | (exfalso; omega)
    · refine q_iconst C dX6_holdOf_24 ?_
      refine q_goto C 34 dX6_holdOf_25 (by decide) ?_
      first
        | exact q_iretC C dX6_holdOf_34 (by omega) (by decide) (Or.inl ⟨by omega, by omega, rfl⟩)
        | exact q_iretC C dX6_holdOf_34 (by omega) (by decide) (Or.inr ⟨by omega, kc⟩)
        | (exfalso; omega)
set_option maxRecDepth 20000 in
theorem KX6_stateOf (g : qHp) (a : Int) (ha : -2147483648 ≤ a ∧ a < 2147483648)  : qC yX6_stateOf (.code yX6_stateOf cX6_stateOf 2 (some .char)) 2 0 (fun ad => [.ref (ad 23), .int (iI a)]) g (qPi (fun (r : Int) (g' : qHp) => ((0 ≤ a ∧ a < (c0 g) 23 13) ∧ r = (c0 g) 35 a ∧ g' = (c0 g)) ∨ (¬ (0 ≤ a ∧ a < (c0 g) 23 13) ∧ g' = qUp (c0 g) 23 0 1))) qNo := by
  refine q_meth (by decide +kernel) rfl (fun _ => (Nat.le_of_ble_eq_true rfl)) (fun X ω C => ?_)
  refine q_nm (fun hn => ?_)
  have r23_13 : 0 ≤ g 23 13 ∧ g 23 13 ≤ 30 := hn 23 13
  have k13 : c0 g 23 13 = g 23 13 := c0_j g (by decide)
  have kc := cN_c0 g
  have k35 : c0 g 35 a = g 35 a := by rw [c0_k g (by decide)]
  refine q_loc [(0, .ref (ω.1 23)), (1, .int (iI a))] ⟨rfl, rfl, trivial⟩ ?_
  refine q_aload_n C 0 dX6_stateOf_0 rfl rfl ?_
  refine q_iload_n C 1 dX6_stateOf_1 rfl rfl ?_
  refine q_iconst C dX6_stateOf_2 ?_
  refine q_aload_n C 0 dX6_stateOf_3 rfl rfl ?_
  refine q_geti C (b := 23) 13 13 0 30 rfl (by decide) rfl in_X6 (by decide) fl_X6_123 rfl rfl rfl dX6_stateOf_4 (fun v4 e4 l4 u4 => ?_)
  refine q_iconst C dX6_stateOf_7 ?_
  refine q_isub C dX6_stateOf_8 ?_
  refine q_Sf0 C (KX6_in _ _ (by omega) _ (by omega) _ (by omega)) mX6_in ml_X6_55 dX6_stateOf_9 (by decide) (by decide) rfl rfl rfl (Nat.le_of_ble_eq_true rfl) (fun v9 l9 u9 h9 => ?_)
  refine q_ifeq C 19 dX6_stateOf_12 (by decide) (by omega) (fun c12 => ?_) (fun c12 => ?_)
  · refine q_iconst C dX6_stateOf_19 ?_
    refine q_puti C (b := 23) 0 0 0 4 _ rfl (by decide) rfl in_X6 tyX6_ok nmX6 (by decide) fl_X6_48 rfl (by decide +kernel) rfl rfl rfl rfl (by omega) dX6_stateOf_20 ?_
    refine q_aload_n C 0 dX6_stateOf_23 rfl rfl ?_
    refine q_geti C (b := 23) 0 0 0 4 rfl (by decide) rfl in_X6 (by decide) fl_X6_48 rfl rfl rfl dX6_stateOf_24 (fun v24 e24 l24 u24 => ?_)
    rw [qUp_s] at e24
    refine q_ifle C 34 dX6_stateOf_27 (by decide) (by omega) (fun c27 => ?_) (fun c27 => ?_)
    · refine q_aload_n C 0 dX6_stateOf_34 rfl rfl ?_
      refine q_getr C (b := 23) 17 rfl (by decide) rfl in_X6 (by decide) fl_X6_45 rfl dX6_stateOf_35 ?_
      refine q_iload_n C 1 dX6_stateOf_38 rfl rfl ?_
      refine q_cald C (b := 35) (n := 30) 0 65535 rfl (by decide) (by decide) (by omega) (fun _ => rfl) dX6_stateOf_39 (fun v39 e39 l39 u39 => ?_)
      rw [qUp_k (by decide)] at e39
      first
        | exact q_iretC C dX6_stateOf_40 (by omega) (by decide) (Or.inl ⟨by omega, by omega, rfl⟩)
        | exact q_iretC C dX6_stateOf_40 (by omega) (by decide) (Or.inr ⟨by omega, kc⟩)
        | (exfalso; omega)
    · refine q_iconst C dX6_stateOf_30 ?_
      refine q_goto C 40 dX6_stateOf_31 (by decide) ?_
      first
        | exact q_iretC C dX6_stateOf_40 (by omega) (by decide) (Or.inl ⟨by omega, by omega, rfl⟩)
        | exact q_iretC C dX6_stateOf_40 (by omega) (by decide) (Or.inr ⟨by omega, kc⟩)
        | (exfalso; omega)
  · refine q_iconst C dX6_stateOf_15 ?_
    refine q_goto C 20 dX6_stateOf_16 (by decide) ?_
    refine q_puti C (b := 23) 0 0 0 4 _ rfl (by decide) rfl in_X6 tyX6_ok nmX6 (by decide) fl_X6_48 rfl (by decide +kernel) rfl rfl rfl rfl (by omega) dX6_stateOf_20 ?_
    refine q_aload_n C 0 dX6_stateOf_23 rfl rfl ?_
    refine q_geti C (b := 23) 0 0 0 4 rfl (by decide) rfl in_X6 (by decide) fl_X6_48 rfl rfl rfl dX6_stateOf_24 (fun v24 e24 l24 u24 => ?_)
    rw [qUp_s] at e24
    refine q_ifle C 34 dX6_stateOf_27 (by decide) (by omega) (fun c27 => ?_) (fun c27 => ?_)
    · refine q_aload_n C 0 dX6_stateOf_34 rfl rfl ?_
      refine q_getr C (b := 23) 17 rfl (by decide) rfl in_X6 (by decide) fl_X6_45 rfl dX6_stateOf_35 ?_
      refine q_iload_n C 1 dX6_stateOf_38 rfl rfl ?_
      refine q_cald C (b := 35) (n := 30) 0 65535 rfl (by decide) (by decide) (by omega) (fun _ => rfl) dX6_stateOf_39 (fun v39 e39 l39 u39 => ?_)
      rw [qUp_k (by decide)] at e39
      first
        | exact q_iretC C dX6_stateOf_40 (by omega) (by decide) (Or.inl ⟨by omega, by omega, rfl⟩)
        | exact q_iretC C dX6_stateOf_40 (by omega) (by decide) (Or.inr ⟨by omega, kc⟩)
        | (exfalso; omega)
    · refine q_iconst C dX6_stateOf_30 ?_
      refine q_goto C 40 dX6_stateOf_31 (by decide) ?_
      first
        | exact q_iretC C dX6_stateOf_40 (by omega) (by decide) (Or.inl ⟨by omega, by omega, rfl⟩)
        | exact q_iretC C dX6_stateOf_40 (by omega) (by decide) (Or.inr ⟨by omega, kc⟩)
        | (exfalso; omega)
set_option maxRecDepth 20000 in
theorem KX6_why (g : qHp) (b : Int) (hb : -2147483648 ≤ b ∧ b < 2147483648) (s : Int) (hs : -2147483648 ≤ s ∧ s < 2147483648) (o : yK (c0 g) 0) (hio : insN (c0 g) (stM (c0 g) 0)) : qC yX6_why (.code yX6_why cX6_why 4 (some .char)) 3 0 (fun ad => [.ref (ad 23), .int (iI b), .int (iI s)]) g (qPi (fun (r : Int) (g' : qHp) => (((0 ≤ b ∧ b < (c0 g) 23 4 ∧ (c0 g) 26 b = 1) ∧ (0 ≤ s ∧ s < (c0 g) 23 2)) ∧ whyM (c0 g) b s r ∧ g' = (c0 g)) ∨ (¬ ((0 ≤ b ∧ b < (c0 g) 23 4 ∧ (c0 g) 26 b = 1) ∧ (0 ≤ s ∧ s < (c0 g) 23 2)) ∧ g' = qUp (c0 g) 23 0 1))) qNo := by
  refine q_meth (by decide +kernel) rfl (fun _ => (Nat.le_of_ble_eq_true rfl)) (fun X ω C => ?_)
  refine q_nm (fun hn => ?_)
  have r23_4 : 0 ≤ g 23 4 ∧ g 23 4 ≤ 20 := hn 23 4
  have r23_2 : 0 ≤ g 23 2 ∧ g 23 2 ≤ 4 := hn 23 2
  have k4 : c0 g 23 4 = g 23 4 := c0_j g (by decide)
  have k2 : c0 g 23 2 = g 23 2 := c0_j g (by decide)
  have k26 : c0 g 26 b = g 26 b := by rw [c0_k g (by decide)]
  have k0 := c0_0 g
  have kc := cN_c0 g
  refine q_loc [(0, .ref (ω.1 23)), (1, .int (iI b)), (2, .int (iI s))] ⟨rfl, rfl, rfl, trivial⟩ ?_
  refine q_aload_n C 0 dX6_why_0 rfl rfl ?_
  refine q_aload_n C 0 dX6_why_1 rfl rfl ?_
  refine q_iload_n C 1 dX6_why_2 rfl rfl ?_
  refine q_Vf0 C (KX6_isBox _ _ (by omega)) mX6_isBox ml_X6_120 dX6_why_3 (by decide) (by decide) rfl rfl rfl (Nat.le_of_ble_eq_true rfl) rfl (by decide) rfl rfl (fun v3 l3 u3 h3 => ?_)
  refine q_ifeq C 21 dX6_why_6 (by decide) (by omega) (fun c6 => ?_) (fun c6 => ?_)
  · refine q_iconst C dX6_why_21 ?_
    refine q_puti C (b := 23) 0 0 0 4 _ rfl (by decide) rfl in_X6 tyX6_ok nmX6 (by decide) fl_X6_48 rfl (by decide +kernel) rfl rfl rfl rfl (by omega) dX6_why_22 ?_
    refine q_aload_n C 0 dX6_why_25 rfl rfl ?_
    refine q_geti C (b := 23) 0 0 0 4 rfl (by decide) rfl in_X6 (by decide) fl_X6_48 rfl rfl rfl dX6_why_26 (fun v26 e26 l26 u26 => ?_)
    rw [qUp_s] at e26
    refine q_ifle C 34 dX6_why_29 (by decide) (by omega) (fun c29 => ?_) (fun c29 => ?_)
    · exfalso; omega
    · refine q_iconst C dX6_why_32 ?_
      exact q_iretC C dX6_why_33 (by omega) (by decide) (Or.inr ⟨by omega, kc⟩)
  · refine q_aload_n C 0 dX6_why_9 rfl rfl ?_
    refine q_iload_n C 2 dX6_why_10 rfl rfl ?_
    refine q_Vf0 C (KX6_isStack _ _ (by omega)) mX6_isStack ml_X6_113 dX6_why_11 (by decide) (by decide) rfl rfl rfl (Nat.le_of_ble_eq_true rfl) rfl (by decide) rfl rfl (fun v11 l11 u11 h11 => ?_)
    refine q_ifeq C 21 dX6_why_14 (by decide) (by omega) (fun c14 => ?_) (fun c14 => ?_)
    · refine q_iconst C dX6_why_21 ?_
      refine q_puti C (b := 23) 0 0 0 4 _ rfl (by decide) rfl in_X6 tyX6_ok nmX6 (by decide) fl_X6_48 rfl (by decide +kernel) rfl rfl rfl rfl (by omega) dX6_why_22 ?_
      refine q_aload_n C 0 dX6_why_25 rfl rfl ?_
      refine q_geti C (b := 23) 0 0 0 4 rfl (by decide) rfl in_X6 (by decide) fl_X6_48 rfl rfl rfl dX6_why_26 (fun v26 e26 l26 u26 => ?_)
      rw [qUp_s] at e26
      refine q_ifle C 34 dX6_why_29 (by decide) (by omega) (fun c29 => ?_) (fun c29 => ?_)
      · exfalso; omega
      · refine q_iconst C dX6_why_32 ?_
        exact q_iretC C dX6_why_33 (by omega) (by decide) (Or.inr ⟨by omega, kc⟩)
    · refine q_iconst C dX6_why_17 ?_
      refine q_goto C 22 dX6_why_18 (by decide) ?_
      refine q_puti C (b := 23) 0 0 0 4 _ rfl (by decide) rfl in_X6 tyX6_ok nmX6 (by decide) fl_X6_48 rfl (by decide +kernel) rfl rfl rfl rfl (by omega) dX6_why_22 ?_
      refine q_aload_n C 0 dX6_why_25 rfl rfl ?_
      refine q_geti C (b := 23) 0 0 0 4 rfl (by decide) rfl in_X6 (by decide) fl_X6_48 rfl rfl rfl dX6_why_26 (fun v26 e26 l26 u26 => ?_)
      rw [qUp_s] at e26
      refine q_ifle C 34 dX6_why_29 (by decide) (by omega) (fun c29 => ?_) (fun c29 => ?_)
      · refine q_hp (g2 := c0 g) rfl ?_
        generalize c0 g = g0 at *
        refine q_nm (fun hn0 => ?_)
        have s23_4 : 0 ≤ g0 23 4 ∧ g0 23 4 ≤ 20 := hn0 23 4
        refine q_aload_n C 0 dX6_why_34 rfl rfl ?_
        refine q_getr C (b := 23) 9 rfl (by decide) rfl in_X6 (by decide) fl_X6_27 rfl dX6_why_35 ?_
        refine q_iload_n C 2 dX6_why_38 rfl rfl ?_
        refine q_iald C (b := 29) (n := 24) 0 4 rfl (by decide) (by decide) (by omega) (fun _ => rfl) dX6_why_39 (fun v39 e39 l39 u39 => ?_)
        refine q_aload_n C 0 dX6_why_40 rfl rfl ?_
        refine q_getr C (b := 23) 3 rfl (by decide) rfl in_X6 (by decide) fl_X6_7 rfl dX6_why_41 ?_
        refine q_iload_n C 2 dX6_why_44 rfl rfl ?_
        refine q_iald C (b := 24) (n := 4) 0 4 rfl (by decide) (by decide) (by omega) (fun _ => rfl) dX6_why_45 (fun v45 e45 l45 u45 => ?_)
        refine q_icmp_ne C 53 dX6_why_46 (by decide) (by omega) (by omega) (fun c46 => ?_) (fun c46 => ?_)
        · refine q_iconst C dX6_why_53 ?_
          refine q_istoreV_n C 3 dX6_why_54 rfl (by decide) (fun v54 e54 => ?_)
          refine q_aload_n C 0 dX6_why_55 rfl rfl ?_
          refine q_iconst C dX6_why_56 ?_
          refine q_iload_n C 1 dX6_why_57 rfl rfl ?_
          refine q_Vf0 C (KX6_isTop _ _ (by omega) _ (by omega) (by omega) _ o ((hio b).mpr (by omega))) mX6_isTop ml_X6_69 dX6_why_58 (by decide) (by decide) rfl rfl rfl (Nat.le_of_ble_eq_true rfl) rfl (by decide) rfl rfl (fun v58 l58 u58 h58 => ?_)
          refine q_ifne C 69 dX6_why_61 (by decide) (by omega) (fun c61 => ?_) (fun c61 => ?_)
          · refine q_aload_n C 0 dX6_why_69 rfl rfl ?_
            refine q_iload_n C 1 dX6_why_70 rfl rfl ?_
            refine q_Vf0 C (KX6_isPinned _ _ (by omega) (by omega)) mX6_isPinned ml_X6_73 dX6_why_71 (by decide) (by decide) rfl rfl rfl (Nat.le_of_ble_eq_true rfl) rfl (by decide) rfl rfl (fun v71 l71 u71 h71 => ?_)
            refine q_ifeq C 82 dX6_why_74 (by decide) (by omega) (fun c74 => ?_) (fun c74 => ?_)
            · refine q_aload_n C 0 dX6_why_82 rfl rfl ?_
              refine q_iconst C dX6_why_83 ?_
              refine q_iload_n C 1 dX6_why_84 rfl rfl ?_
              refine q_Vf0 C (KX6_placeOf _ _ (by omega) _ (by omega) (by omega) o.2.2.1) mX6_placeOf ml_X6_62 dX6_why_85 (by decide) (by decide) rfl rfl rfl (Nat.le_of_ble_eq_true rfl) rfl (by decide) rfl rfl (fun v85 l85 u85 h85 => ?_)
              refine q_iload_n C 2 dX6_why_88 rfl rfl ?_
              refine q_icmp_ne C 97 dX6_why_89 (by decide) (by omega) (by omega) (fun c89 => ?_) (fun c89 => ?_)
              · refine q_iload_n C 3 dX6_why_97 rfl rfl ?_
                refine q_ifeq C 106 dX6_why_98 (by decide) (by omega) (fun c98 => ?_) (fun c98 => ?_)
                · refine q_aload_n C 0 dX6_why_106 rfl rfl ?_
                  refine q_iconst C dX6_why_107 ?_
                  refine q_iload_n C 2 dX6_why_108 rfl rfl ?_
                  refine q_aload_n C 0 dX6_why_109 rfl rfl ?_
                  refine q_getr C (b := 23) 5 rfl (by decide) rfl in_X6 (by decide) fl_X6_13 rfl dX6_why_110 ?_
                  refine q_iload_n C 1 dX6_why_113 rfl rfl ?_
                  refine q_iald C (b := 25) (n := 20) 0 30 rfl (by decide) (by decide) (by omega) (fun _ => rfl) dX6_why_114 (fun v114 e114 l114 u114 => ?_)
                  refine q_Vf0 C (KX6_takes _ _ (by omega) _ (by omega) _ (by omega) (by omega) (by omega)) mX6_takes ml_X6_77 dX6_why_115 (by decide) (by decide) rfl rfl rfl (Nat.le_of_ble_eq_true rfl) rfl (by decide) rfl rfl (fun v115 l115 u115 h115 => ?_)
                  refine q_ifeq C 126 dX6_why_118 (by decide) (by omega) (fun c118 => ?_) (fun c118 => ?_)
                  · refine q_bipush C dX6_why_126 (by decide +kernel) ?_
                    refine q_iretC C dX6_why_128 (by omega) (by decide) (Or.inl ⟨⟨by omega, by omega⟩, ?_, rfl⟩)
                    unfold whyM
                    rcases h58 with ⟨z1, z2⟩ | ⟨z1, z2⟩
                    · first
                      | (exfalso; omega)
                      | exact Or.inr (Or.inl ⟨z1, by omega, rfl⟩)
                      | exact Or.inr (Or.inr ⟨z1, by omega, Or.inl ⟨by omega, rfl⟩⟩)
                      | exact Or.inr (Or.inr ⟨z1, by omega, Or.inr ⟨by omega, Or.inl ⟨by omega, rfl⟩⟩⟩)
                      | (rw [e114] at h115
                         rcases h115 with ⟨t1, t2⟩ | ⟨t1, t2⟩
                         · first
                           | (exfalso; omega)
                           | exact Or.inr (Or.inr ⟨z1, by omega, Or.inr ⟨by omega, Or.inr ⟨by omega, Or.inl ⟨t1, rfl⟩⟩⟩⟩)
                         · first
                           | (exfalso; omega)
                           | exact Or.inr (Or.inr ⟨z1, by omega, Or.inr ⟨by omega, Or.inr ⟨by omega, Or.inr ⟨t1, rfl⟩⟩⟩⟩))
                    · first
                      | (exfalso; omega)
                      | exact Or.inl ⟨z1, rfl⟩
                  · refine q_bipush C dX6_why_121 (by decide +kernel) ?_
                    refine q_goto C 128 dX6_why_123 (by decide) ?_
                    refine q_iretC C dX6_why_128 (by omega) (by decide) (Or.inl ⟨⟨by omega, by omega⟩, ?_, rfl⟩)
                    unfold whyM
                    rcases h58 with ⟨z1, z2⟩ | ⟨z1, z2⟩
                    · first
                      | (exfalso; omega)
                      | exact Or.inr (Or.inl ⟨z1, by omega, rfl⟩)
                      | exact Or.inr (Or.inr ⟨z1, by omega, Or.inl ⟨by omega, rfl⟩⟩)
                      | exact Or.inr (Or.inr ⟨z1, by omega, Or.inr ⟨by omega, Or.inl ⟨by omega, rfl⟩⟩⟩)
                      | (rw [e114] at h115
                         rcases h115 with ⟨t1, t2⟩ | ⟨t1, t2⟩
                         · first
                           | (exfalso; omega)
                           | exact Or.inr (Or.inr ⟨z1, by omega, Or.inr ⟨by omega, Or.inr ⟨by omega, Or.inl ⟨t1, rfl⟩⟩⟩⟩)
                         · first
                           | (exfalso; omega)
                           | exact Or.inr (Or.inr ⟨z1, by omega, Or.inr ⟨by omega, Or.inr ⟨by omega, Or.inr ⟨t1, rfl⟩⟩⟩⟩))
                    · first
                      | (exfalso; omega)
                      | exact Or.inl ⟨z1, rfl⟩
                · refine q_bipush C dX6_why_101 (by decide +kernel) ?_
                  refine q_goto C 128 dX6_why_103 (by decide) ?_
                  refine q_iretC C dX6_why_128 (by omega) (by decide) (Or.inl ⟨⟨by omega, by omega⟩, ?_, rfl⟩)
                  unfold whyM
                  rcases h58 with ⟨z1, z2⟩ | ⟨z1, z2⟩
                  · first
                    | (exfalso; omega)
                    | exact Or.inr (Or.inl ⟨z1, by omega, rfl⟩)
                    | exact Or.inr (Or.inr ⟨z1, by omega, Or.inl ⟨by omega, rfl⟩⟩)
                    | exact Or.inr (Or.inr ⟨z1, by omega, Or.inr ⟨by omega, Or.inl ⟨by omega, rfl⟩⟩⟩)
                    | (rw [e114] at h115
                       rcases h115 with ⟨t1, t2⟩ | ⟨t1, t2⟩
                       · first
                         | (exfalso; omega)
                         | exact Or.inr (Or.inr ⟨z1, by omega, Or.inr ⟨by omega, Or.inr ⟨by omega, Or.inl ⟨t1, rfl⟩⟩⟩⟩)
                       · first
                         | (exfalso; omega)
                         | exact Or.inr (Or.inr ⟨z1, by omega, Or.inr ⟨by omega, Or.inr ⟨by omega, Or.inr ⟨t1, rfl⟩⟩⟩⟩))
                  · first
                    | (exfalso; omega)
                    | exact Or.inl ⟨z1, rfl⟩
              · refine q_bipush C dX6_why_92 (by decide +kernel) ?_
                refine q_goto C 128 dX6_why_94 (by decide) ?_
                refine q_iretC C dX6_why_128 (by omega) (by decide) (Or.inl ⟨⟨by omega, by omega⟩, ?_, rfl⟩)
                unfold whyM
                rcases h58 with ⟨z1, z2⟩ | ⟨z1, z2⟩
                · first
                  | (exfalso; omega)
                  | exact Or.inr (Or.inl ⟨z1, by omega, rfl⟩)
                  | exact Or.inr (Or.inr ⟨z1, by omega, Or.inl ⟨by omega, rfl⟩⟩)
                  | exact Or.inr (Or.inr ⟨z1, by omega, Or.inr ⟨by omega, Or.inl ⟨by omega, rfl⟩⟩⟩)
                  | (rw [e114] at h115
                     rcases h115 with ⟨t1, t2⟩ | ⟨t1, t2⟩
                     · first
                       | (exfalso; omega)
                       | exact Or.inr (Or.inr ⟨z1, by omega, Or.inr ⟨by omega, Or.inr ⟨by omega, Or.inl ⟨t1, rfl⟩⟩⟩⟩)
                     · first
                       | (exfalso; omega)
                       | exact Or.inr (Or.inr ⟨z1, by omega, Or.inr ⟨by omega, Or.inr ⟨by omega, Or.inr ⟨t1, rfl⟩⟩⟩⟩))
                · first
                  | (exfalso; omega)
                  | exact Or.inl ⟨z1, rfl⟩
            · refine q_bipush C dX6_why_77 (by decide +kernel) ?_
              refine q_goto C 128 dX6_why_79 (by decide) ?_
              refine q_iretC C dX6_why_128 (by omega) (by decide) (Or.inl ⟨⟨by omega, by omega⟩, ?_, rfl⟩)
              unfold whyM
              rcases h58 with ⟨z1, z2⟩ | ⟨z1, z2⟩
              · first
                | (exfalso; omega)
                | exact Or.inr (Or.inl ⟨z1, by omega, rfl⟩)
                | exact Or.inr (Or.inr ⟨z1, by omega, Or.inl ⟨by omega, rfl⟩⟩)
                | exact Or.inr (Or.inr ⟨z1, by omega, Or.inr ⟨by omega, Or.inl ⟨by omega, rfl⟩⟩⟩)
                | (rw [e114] at h115
                   rcases h115 with ⟨t1, t2⟩ | ⟨t1, t2⟩
                   · first
                     | (exfalso; omega)
                     | exact Or.inr (Or.inr ⟨z1, by omega, Or.inr ⟨by omega, Or.inr ⟨by omega, Or.inl ⟨t1, rfl⟩⟩⟩⟩)
                   · first
                     | (exfalso; omega)
                     | exact Or.inr (Or.inr ⟨z1, by omega, Or.inr ⟨by omega, Or.inr ⟨by omega, Or.inr ⟨t1, rfl⟩⟩⟩⟩))
              · first
                | (exfalso; omega)
                | exact Or.inl ⟨z1, rfl⟩
          · refine q_bipush C dX6_why_64 (by decide +kernel) ?_
            refine q_goto C 128 dX6_why_66 (by decide) ?_
            refine q_iretC C dX6_why_128 (by omega) (by decide) (Or.inl ⟨⟨by omega, by omega⟩, ?_, rfl⟩)
            unfold whyM
            rcases h58 with ⟨z1, z2⟩ | ⟨z1, z2⟩
            · first
              | (exfalso; omega)
              | exact Or.inr (Or.inl ⟨z1, by omega, rfl⟩)
              | exact Or.inr (Or.inr ⟨z1, by omega, Or.inl ⟨by omega, rfl⟩⟩)
              | exact Or.inr (Or.inr ⟨z1, by omega, Or.inr ⟨by omega, Or.inl ⟨by omega, rfl⟩⟩⟩)
              | (rw [e114] at h115
                 rcases h115 with ⟨t1, t2⟩ | ⟨t1, t2⟩
                 · first
                   | (exfalso; omega)
                   | exact Or.inr (Or.inr ⟨z1, by omega, Or.inr ⟨by omega, Or.inr ⟨by omega, Or.inl ⟨t1, rfl⟩⟩⟩⟩)
                 · first
                   | (exfalso; omega)
                   | exact Or.inr (Or.inr ⟨z1, by omega, Or.inr ⟨by omega, Or.inr ⟨by omega, Or.inr ⟨t1, rfl⟩⟩⟩⟩))
            · first
              | (exfalso; omega)
              | exact Or.inl ⟨z1, rfl⟩
        · refine q_iconst C dX6_why_49 ?_
          refine q_goto C 54 dX6_why_50 (by decide) ?_
          refine q_istoreV_n C 3 dX6_why_54 rfl (by decide) (fun v54 e54 => ?_)
          refine q_aload_n C 0 dX6_why_55 rfl rfl ?_
          refine q_iconst C dX6_why_56 ?_
          refine q_iload_n C 1 dX6_why_57 rfl rfl ?_
          refine q_Vf0 C (KX6_isTop _ _ (by omega) _ (by omega) (by omega) _ o ((hio b).mpr (by omega))) mX6_isTop ml_X6_69 dX6_why_58 (by decide) (by decide) rfl rfl rfl (Nat.le_of_ble_eq_true rfl) rfl (by decide) rfl rfl (fun v58 l58 u58 h58 => ?_)
          refine q_ifne C 69 dX6_why_61 (by decide) (by omega) (fun c61 => ?_) (fun c61 => ?_)
          · refine q_aload_n C 0 dX6_why_69 rfl rfl ?_
            refine q_iload_n C 1 dX6_why_70 rfl rfl ?_
            refine q_Vf0 C (KX6_isPinned _ _ (by omega) (by omega)) mX6_isPinned ml_X6_73 dX6_why_71 (by decide) (by decide) rfl rfl rfl (Nat.le_of_ble_eq_true rfl) rfl (by decide) rfl rfl (fun v71 l71 u71 h71 => ?_)
            refine q_ifeq C 82 dX6_why_74 (by decide) (by omega) (fun c74 => ?_) (fun c74 => ?_)
            · refine q_aload_n C 0 dX6_why_82 rfl rfl ?_
              refine q_iconst C dX6_why_83 ?_
              refine q_iload_n C 1 dX6_why_84 rfl rfl ?_
              refine q_Vf0 C (KX6_placeOf _ _ (by omega) _ (by omega) (by omega) o.2.2.1) mX6_placeOf ml_X6_62 dX6_why_85 (by decide) (by decide) rfl rfl rfl (Nat.le_of_ble_eq_true rfl) rfl (by decide) rfl rfl (fun v85 l85 u85 h85 => ?_)
              refine q_iload_n C 2 dX6_why_88 rfl rfl ?_
              refine q_icmp_ne C 97 dX6_why_89 (by decide) (by omega) (by omega) (fun c89 => ?_) (fun c89 => ?_)
              · refine q_iload_n C 3 dX6_why_97 rfl rfl ?_
                refine q_ifeq C 106 dX6_why_98 (by decide) (by omega) (fun c98 => ?_) (fun c98 => ?_)
                · refine q_aload_n C 0 dX6_why_106 rfl rfl ?_
                  refine q_iconst C dX6_why_107 ?_
                  refine q_iload_n C 2 dX6_why_108 rfl rfl ?_
                  refine q_aload_n C 0 dX6_why_109 rfl rfl ?_
                  refine q_getr C (b := 23) 5 rfl (by decide) rfl in_X6 (by decide) fl_X6_13 rfl dX6_why_110 ?_
                  refine q_iload_n C 1 dX6_why_113 rfl rfl ?_
                  refine q_iald C (b := 25) (n := 20) 0 30 rfl (by decide) (by decide) (by omega) (fun _ => rfl) dX6_why_114 (fun v114 e114 l114 u114 => ?_)
                  refine q_Vf0 C (KX6_takes _ _ (by omega) _ (by omega) _ (by omega) (by omega) (by omega)) mX6_takes ml_X6_77 dX6_why_115 (by decide) (by decide) rfl rfl rfl (Nat.le_of_ble_eq_true rfl) rfl (by decide) rfl rfl (fun v115 l115 u115 h115 => ?_)
                  refine q_ifeq C 126 dX6_why_118 (by decide) (by omega) (fun c118 => ?_) (fun c118 => ?_)
                  · refine q_bipush C dX6_why_126 (by decide +kernel) ?_
                    refine q_iretC C dX6_why_128 (by omega) (by decide) (Or.inl ⟨⟨by omega, by omega⟩, ?_, rfl⟩)
                    unfold whyM
                    rcases h58 with ⟨z1, z2⟩ | ⟨z1, z2⟩
                    · first
                      | (exfalso; omega)
                      | exact Or.inr (Or.inl ⟨z1, by omega, rfl⟩)
                      | exact Or.inr (Or.inr ⟨z1, by omega, Or.inl ⟨by omega, rfl⟩⟩)
                      | exact Or.inr (Or.inr ⟨z1, by omega, Or.inr ⟨by omega, Or.inl ⟨by omega, rfl⟩⟩⟩)
                      | (rw [e114] at h115
                         rcases h115 with ⟨t1, t2⟩ | ⟨t1, t2⟩
                         · first
                           | (exfalso; omega)
                           | exact Or.inr (Or.inr ⟨z1, by omega, Or.inr ⟨by omega, Or.inr ⟨by omega, Or.inl ⟨t1, rfl⟩⟩⟩⟩)
                         · first
                           | (exfalso; omega)
                           | exact Or.inr (Or.inr ⟨z1, by omega, Or.inr ⟨by omega, Or.inr ⟨by omega, Or.inr ⟨t1, rfl⟩⟩⟩⟩))
                    · first
                      | (exfalso; omega)
                      | exact Or.inl ⟨z1, rfl⟩
                  · refine q_bipush C dX6_why_121 (by decide +kernel) ?_
                    refine q_goto C 128 dX6_why_123 (by decide) ?_
                    refine q_iretC C dX6_why_128 (by omega) (by decide) (Or.inl ⟨⟨by omega, by omega⟩, ?_, rfl⟩)
                    unfold whyM
                    rcases h58 with ⟨z1, z2⟩ | ⟨z1, z2⟩
                    · first
                      | (exfalso; omega)
                      | exact Or.inr (Or.inl ⟨z1, by omega, rfl⟩)
                      | exact Or.inr (Or.inr ⟨z1, by omega, Or.inl ⟨by omega, rfl⟩⟩)
                      | exact Or.inr (Or.inr ⟨z1, by omega, Or.inr ⟨by omega, Or.inl ⟨by omega, rfl⟩⟩⟩)
                      | (rw [e114] at h115
                         rcases h115 with ⟨t1, t2⟩ | ⟨t1, t2⟩
                         · first
                           | (exfalso; omega)
                           | exact Or.inr (Or.inr ⟨z1, by omega, Or.inr ⟨by omega, Or.inr ⟨by omega, Or.inl ⟨t1, rfl⟩⟩⟩⟩)
                         · first
                           | (exfalso; omega)
                           | exact Or.inr (Or.inr ⟨z1, by omega, Or.inr ⟨by omega, Or.inr ⟨by omega, Or.inr ⟨t1, rfl⟩⟩⟩⟩))
                    · first
                      | (exfalso; omega)
                      | exact Or.inl ⟨z1, rfl⟩
                · refine q_bipush C dX6_why_101 (by decide +kernel) ?_
                  refine q_goto C 128 dX6_why_103 (by decide) ?_
                  refine q_iretC C dX6_why_128 (by omega) (by decide) (Or.inl ⟨⟨by omega, by omega⟩, ?_, rfl⟩)
                  unfold whyM
                  rcases h58 with ⟨z1, z2⟩ | ⟨z1, z2⟩
                  · first
                    | (exfalso; omega)
                    | exact Or.inr (Or.inl ⟨z1, by omega, rfl⟩)
                    | exact Or.inr (Or.inr ⟨z1, by omega, Or.inl ⟨by omega, rfl⟩⟩)
                    | exact Or.inr (Or.inr ⟨z1, by omega, Or.inr ⟨by omega, Or.inl ⟨by omega, rfl⟩⟩⟩)
                    | (rw [e114] at h115
                       rcases h115 with ⟨t1, t2⟩ | ⟨t1, t2⟩
                       · first
                         | (exfalso; omega)
                         | exact Or.inr (Or.inr ⟨z1, by omega, Or.inr ⟨by omega, Or.inr ⟨by omega, Or.inl ⟨t1, rfl⟩⟩⟩⟩)
                       · first
                         | (exfalso; omega)
                         | exact Or.inr (Or.inr ⟨z1, by omega, Or.inr ⟨by omega, Or.inr ⟨by omega, Or.inr ⟨t1, rfl⟩⟩⟩⟩))
                  · first
                    | (exfalso; omega)
                    | exact Or.inl ⟨z1, rfl⟩
              · refine q_bipush C dX6_why_92 (by decide +kernel) ?_
                refine q_goto C 128 dX6_why_94 (by decide) ?_
                refine q_iretC C dX6_why_128 (by omega) (by decide) (Or.inl ⟨⟨by omega, by omega⟩, ?_, rfl⟩)
                unfold whyM
                rcases h58 with ⟨z1, z2⟩ | ⟨z1, z2⟩
                · first
                  | (exfalso; omega)
                  | exact Or.inr (Or.inl ⟨z1, by omega, rfl⟩)
                  | exact Or.inr (Or.inr ⟨z1, by omega, Or.inl ⟨by omega, rfl⟩⟩)
                  | exact Or.inr (Or.inr ⟨z1, by omega, Or.inr ⟨by omega, Or.inl ⟨by omega, rfl⟩⟩⟩)
                  | (rw [e114] at h115
                     rcases h115 with ⟨t1, t2⟩ | ⟨t1, t2⟩
                     · first
                       | (exfalso; omega)
                       | exact Or.inr (Or.inr ⟨z1, by omega, Or.inr ⟨by omega, Or.inr ⟨by omega, Or.inl ⟨t1, rfl⟩⟩⟩⟩)
                     · first
                       | (exfalso; omega)
                       | exact Or.inr (Or.inr ⟨z1, by omega, Or.inr ⟨by omega, Or.inr ⟨by omega, Or.inr ⟨t1, rfl⟩⟩⟩⟩))
                · first
                  | (exfalso; omega)
                  | exact Or.inl ⟨z1, rfl⟩
            · refine q_bipush C dX6_why_77 (by decide +kernel) ?_
              refine q_goto C 128 dX6_why_79 (by decide) ?_
              refine q_iretC C dX6_why_128 (by omega) (by decide) (Or.inl ⟨⟨by omega, by omega⟩, ?_, rfl⟩)
              unfold whyM
              rcases h58 with ⟨z1, z2⟩ | ⟨z1, z2⟩
              · first
                | (exfalso; omega)
                | exact Or.inr (Or.inl ⟨z1, by omega, rfl⟩)
                | exact Or.inr (Or.inr ⟨z1, by omega, Or.inl ⟨by omega, rfl⟩⟩)
                | exact Or.inr (Or.inr ⟨z1, by omega, Or.inr ⟨by omega, Or.inl ⟨by omega, rfl⟩⟩⟩)
                | (rw [e114] at h115
                   rcases h115 with ⟨t1, t2⟩ | ⟨t1, t2⟩
                   · first
                     | (exfalso; omega)
                     | exact Or.inr (Or.inr ⟨z1, by omega, Or.inr ⟨by omega, Or.inr ⟨by omega, Or.inl ⟨t1, rfl⟩⟩⟩⟩)
                   · first
                     | (exfalso; omega)
                     | exact Or.inr (Or.inr ⟨z1, by omega, Or.inr ⟨by omega, Or.inr ⟨by omega, Or.inr ⟨t1, rfl⟩⟩⟩⟩))
              · first
                | (exfalso; omega)
                | exact Or.inl ⟨z1, rfl⟩
          · refine q_bipush C dX6_why_64 (by decide +kernel) ?_
            refine q_goto C 128 dX6_why_66 (by decide) ?_
            refine q_iretC C dX6_why_128 (by omega) (by decide) (Or.inl ⟨⟨by omega, by omega⟩, ?_, rfl⟩)
            unfold whyM
            rcases h58 with ⟨z1, z2⟩ | ⟨z1, z2⟩
            · first
              | (exfalso; omega)
              | exact Or.inr (Or.inl ⟨z1, by omega, rfl⟩)
              | exact Or.inr (Or.inr ⟨z1, by omega, Or.inl ⟨by omega, rfl⟩⟩)
              | exact Or.inr (Or.inr ⟨z1, by omega, Or.inr ⟨by omega, Or.inl ⟨by omega, rfl⟩⟩⟩)
              | (rw [e114] at h115
                 rcases h115 with ⟨t1, t2⟩ | ⟨t1, t2⟩
                 · first
                   | (exfalso; omega)
                   | exact Or.inr (Or.inr ⟨z1, by omega, Or.inr ⟨by omega, Or.inr ⟨by omega, Or.inl ⟨t1, rfl⟩⟩⟩⟩)
                 · first
                   | (exfalso; omega)
                   | exact Or.inr (Or.inr ⟨z1, by omega, Or.inr ⟨by omega, Or.inr ⟨by omega, Or.inr ⟨t1, rfl⟩⟩⟩⟩))
            · first
              | (exfalso; omega)
              | exact Or.inl ⟨z1, rfl⟩
      · exfalso; omega
set_option maxRecDepth 20000 in
theorem KX6_weightLeft (g : qHp)  : qC yX6_weightLeft (.code yX6_weightLeft cX6_weightLeft 1 (some .long)) 0 0 (fun ad => [.ref (ad 23)]) g (qPl (fun (r : Int) (g' : qHp) => (r = (c0 g) 23 18) ∧ g' = (c0 g))) qNo := by
  refine q_meth (by decide +kernel) rfl (fun _ => (Nat.le_of_ble_eq_true rfl)) (fun X ω C => ?_)
  refine q_loc [(0, .ref (ω.1 23))] ⟨rfl, trivial⟩ ?_
  refine q_aload_n C 0 dX6_weightLeft_0 rfl rfl ?_
  refine q_iconst C dX6_weightLeft_1 ?_
  refine q_puti C (b := 23) 0 0 0 4 _ rfl (by decide) rfl in_X6 tyX6_ok nmX6 (by decide) fl_X6_48 rfl (by decide +kernel) rfl rfl rfl rfl (by omega) dX6_weightLeft_2 ?_
  refine q_hp (g2 := c0 g) rfl ?_
  generalize c0 g = g0 at *
  refine q_nm (fun hn => ?_)
  refine q_aload_n C 0 dX6_weightLeft_5 rfl rfl ?_
  refine q_getl C (b := 23) 18 18 (-9223372036854775808) 9223372036854775807 rfl (by decide) rfl in_X6 (by decide) fl_X6_155 rfl rfl rfl dX6_weightLeft_6 (fun v6 e6 l6 u6 => ?_)
  subst e6
  exact q_lretL C dX6_weightLeft_9 (by omega) (by decide) (⟨by omega, rfl⟩)
set_option maxRecDepth 20000 in
theorem KX6_doneShare (g : qHp)  : qC yX6_doneShare (.code yX6_doneShare cX6_doneShare 2 (some .float)) 2 0 (fun ad => [.ref (ad 23)]) g (qPf (fun (r : UInt32) (g' : qHp) => (cntI (stO (c0 g) 100) ((c0 g) 23 13).toNat + cntI (stO (c0 g) 109) ((c0 g) 23 13).toNat + cntI (stO (c0 g) 103) ((c0 g) 23 13).toNat ≠ 0 ∧ r = FP.fdiv (FP.i2f (iI (cntI (stO (c0 g) 100) ((c0 g) 23 13).toNat))) (FP.i2f (iI (cntI (stO (c0 g) 100) ((c0 g) 23 13).toNat + cntI (stO (c0 g) 109) ((c0 g) 23 13).toNat + cntI (stO (c0 g) 103) ((c0 g) 23 13).toNat))) ∧ g' = (c0 g)) ∨ (cntI (stO (c0 g) 100) ((c0 g) 23 13).toNat + cntI (stO (c0 g) 109) ((c0 g) 23 13).toNat + cntI (stO (c0 g) 103) ((c0 g) 23 13).toNat = 0 ∧ g' = qUp (c0 g) 23 0 1))) qNo := by
  refine q_meth (by decide +kernel) rfl (fun _ => (Nat.le_of_ble_eq_true rfl)) (fun X ω C => ?_)
  refine q_loc [(0, .ref (ω.1 23))] ⟨rfl, trivial⟩ ?_
  refine q_aload_n C 0 dX6_doneShare_0 rfl rfl ?_
  refine q_iconst C dX6_doneShare_1 ?_
  refine q_puti C (b := 23) 0 0 0 4 _ rfl (by decide) rfl in_X6 tyX6_ok nmX6 (by decide) fl_X6_48 rfl (by decide +kernel) rfl rfl rfl rfl (by omega) dX6_doneShare_2 ?_
  refine q_hp (g2 := c0 g) rfl ?_
  generalize c0 g = g0 at *
  refine q_nm (fun hn => ?_)
  have r23_13 : 0 ≤ g0 23 13 ∧ g0 23 13 ≤ 30 := hn 23 13
  have q1 := cntI_rng (stO g0 100) (g0 23 13).toNat
  have q2 := cntI_rng (stO g0 109) (g0 23 13).toNat
  have q3 := cntI_rng (stO g0 103) (g0 23 13).toNat
  refine q_aload_n C 0 dX6_doneShare_5 rfl rfl ?_
  refine q_bipush C dX6_doneShare_6 (by decide +kernel) ?_
  refine q_Vf0 C (KX6_counted _ _ (by omega)) mX6_counted ml_X6_151 dX6_doneShare_8 (by decide) (by decide) rfl rfl rfl (Nat.le_of_ble_eq_true rfl) rfl (by decide) rfl rfl (fun v8 l8 u8 h8 => ?_)
  refine q_aload_n C 0 dX6_doneShare_11 rfl rfl ?_
  refine q_bipush C dX6_doneShare_12 (by decide +kernel) ?_
  refine q_Vf0 C (KX6_counted _ _ (by omega)) mX6_counted ml_X6_151 dX6_doneShare_14 (by decide) (by decide) rfl rfl rfl (Nat.le_of_ble_eq_true rfl) rfl (by decide) rfl rfl (fun v14 l14 u14 h14 => ?_)
  refine q_iadd C dX6_doneShare_17 ?_
  refine q_aload_n C 0 dX6_doneShare_18 rfl rfl ?_
  refine q_bipush C dX6_doneShare_19 (by decide +kernel) ?_
  refine q_Vf0 C (KX6_counted _ _ (by omega)) mX6_counted ml_X6_151 dX6_doneShare_21 (by decide) (by decide) rfl rfl rfl (Nat.le_of_ble_eq_true rfl) rfl (by decide) rfl rfl (fun v21 l21 u21 h21 => ?_)
  refine q_iadd C dX6_doneShare_24 ?_
  refine q_istoreV_n C 1 dX6_doneShare_25 rfl (by decide) (fun v25 e25 => ?_)
  refine q_iload_n C 1 dX6_doneShare_26 rfl rfl ?_
  refine q_ifne C 37 dX6_doneShare_27 (by decide) (by omega) (fun c27 => ?_) (fun c27 => ?_)
  · refine q_aload_n C 0 dX6_doneShare_37 rfl rfl ?_
    refine q_bipush C dX6_doneShare_38 (by decide +kernel) ?_
    refine q_Vf0 C (KX6_counted _ _ (by omega)) mX6_counted ml_X6_151 dX6_doneShare_40 (by decide) (by decide) rfl rfl rfl (Nat.le_of_ble_eq_true rfl) rfl (by decide) rfl rfl (fun v40 l40 u40 h40 => ?_)
    refine q_i2f C dX6_doneShare_43 ?_
    refine q_iload_n C 1 dX6_doneShare_44 rfl rfl ?_
    refine q_i2f C dX6_doneShare_45 ?_
    refine q_fdiv C dX6_doneShare_46 (fl_ok (by omega) (by omega)) ?_
    have e2 : v25 = cntI (stO g0 100) (g0 23 13).toNat + cntI (stO g0 109) (g0 23 13).toNat + cntI (stO g0 103) (g0 23 13).toNat := by omega
    exact q_fretF C dX6_doneShare_47 (by decide) (Or.inl ⟨by omega, by rw [← e2, ← h40], rfl⟩)
  · refine q_aload_n C 0 dX6_doneShare_30 rfl rfl ?_
    refine q_iconst C dX6_doneShare_31 ?_
    refine q_puti C (b := 23) 0 0 0 4 _ rfl (by decide) rfl in_X6 tyX6_ok nmX6 (by decide) fl_X6_48 rfl (by decide +kernel) rfl rfl rfl rfl (by omega) dX6_doneShare_32 ?_
    refine q_fconst0 C dX6_doneShare_35 ?_
    exact q_fretF C dX6_doneShare_36 (by decide) (Or.inr ⟨by omega, rfl⟩)
set_option maxRecDepth 20000 in
theorem KX6_planned (g : qHp) (b : Int) (hb : -2147483648 ≤ b ∧ b < 2147483648) (o : yK (c0 g) 0) (hio : insN (c0 g) (stM (c0 g) 0)) : qC yX6_planned (.code yX6_planned cX6_planned 3 (some .int)) 6 0 (fun ad => [.ref (ad 23), .int (iI b)]) g (qPi (fun (r : Int) (g' : qHp) => planQ (c0 g) b r g')) qNo := by
  refine q_meth (by decide +kernel) rfl (fun _ => (Nat.le_of_ble_eq_true rfl)) (fun X ω C => ?_)
  refine q_nm (fun hn => ?_)
  have r23_4 : 0 ≤ g 23 4 ∧ g 23 4 ≤ 20 := hn 23 4
  have k4 : c0 g 23 4 = g 23 4 := c0_j g (by decide)
  have k2 : c0 g 23 2 = g 23 2 := c0_j g (by decide)
  have k26 : c0 g 26 b = g 26 b := by rw [c0_k g (by decide)]
  have k0 := c0_0 g
  have kc := cN_c0 g
  refine q_loc [(0, .ref (ω.1 23)), (1, .int (iI b))] ⟨rfl, rfl, trivial⟩ ?_
  refine q_aload_n C 0 dX6_planned_0 rfl rfl ?_
  refine q_aload_n C 0 dX6_planned_1 rfl rfl ?_
  refine q_iload_n C 1 dX6_planned_2 rfl rfl ?_
  refine q_Vf0 C (KX6_isBox _ _ (by omega)) mX6_isBox ml_X6_120 dX6_planned_3 (by decide) (by decide) rfl rfl rfl (Nat.le_of_ble_eq_true rfl) rfl (by decide) rfl rfl (fun v3 l3 u3 h3 => ?_)
  refine q_ifeq C 13 dX6_planned_6 (by decide) (by omega) (fun c6 => ?_) (fun c6 => ?_)
  · refine q_iconst C dX6_planned_13 ?_
    refine q_puti C (b := 23) 0 0 0 4 _ rfl (by decide) rfl in_X6 tyX6_ok nmX6 (by decide) fl_X6_48 rfl (by decide +kernel) rfl rfl rfl rfl (by omega) dX6_planned_14 ?_
    refine q_hp kc ?_
    refine q_aload_n C 0 dX6_planned_17 rfl rfl ?_
    refine q_geti C (b := 23) 0 0 0 4 rfl (by decide) rfl in_X6 (by decide) fl_X6_48 rfl rfl rfl dX6_planned_18 (fun v18 e18 l18 u18 => ?_)
    rw [qUp_s] at e18
    refine q_ifle C 28 dX6_planned_21 (by decide) (by omega) (fun c21 => ?_) (fun c21 => ?_)
    · exfalso; omega
    · refine q_iconst C dX6_planned_24 ?_
      refine q_goto C 33 dX6_planned_25 (by decide) ?_
      refine q_istoreV_n C 2 dX6_planned_33 rfl (by decide) (fun v33 e33 => ?_)
      refine q_iload_n C 2 dX6_planned_34 rfl rfl ?_
      refine q_iconst C dX6_planned_35 ?_
      refine q_icmp_ne C 44 dX6_planned_36 (by decide) (by omega) (by omega) (fun c36 => ?_) (fun c36 => ?_)
      · refine q_aload_n C 0 dX6_planned_44 rfl rfl ?_
        refine q_geti C (b := 23) 0 0 0 4 rfl (by decide) rfl in_X6 (by decide) fl_X6_48 rfl rfl rfl dX6_planned_45 (fun v45 e45 l45 u45 => ?_)
        rw [qUp_s] at e45
        refine q_ifle C 55 dX6_planned_48 (by decide) (by omega) (fun c48 => ?_) (fun c48 => ?_)
        · refine q_iload_n C 2 dX6_planned_55 rfl rfl ?_
          first
            | (exfalso; omega)
            | exact q_iretI C dX6_planned_56 (by omega) (by decide) (Or.inl ⟨by unfold isBM; omega, rfl, rfl⟩)
            | (obtain ⟨F, ⟨L, z1, z2, z3⟩ | ⟨z1, z2⟩⟩ := h30
               · first
                 | (exfalso; omega)
                 | exact q_iretI C dX6_planned_56 (by omega) (by decide) (Or.inr (Or.inr ⟨hB0, F, L, z1, by omega, z3⟩))
               · first
                 | (exfalso; omega)
                 | exact q_iretI C dX6_planned_56 (by omega) (by decide) (Or.inr (Or.inl ⟨hB0, by omega, z2, _, F, rfl⟩)))
        · refine q_iconst C dX6_planned_51 ?_
          refine q_goto C 56 dX6_planned_52 (by decide) ?_
          first
            | (exfalso; omega)
            | exact q_iretI C dX6_planned_56 (by omega) (by decide) (Or.inl ⟨by unfold isBM; omega, rfl, rfl⟩)
            | (obtain ⟨F, ⟨L, z1, z2, z3⟩ | ⟨z1, z2⟩⟩ := h30
               · first
                 | (exfalso; omega)
                 | exact q_iretI C dX6_planned_56 (by omega) (by decide) (Or.inr (Or.inr ⟨hB0, F, L, z1, by omega, z3⟩))
               · first
                 | (exfalso; omega)
                 | exact q_iretI C dX6_planned_56 (by omega) (by decide) (Or.inr (Or.inl ⟨hB0, by omega, z2, _, F, rfl⟩)))
      · exfalso; omega
  · refine q_iconst C dX6_planned_9 ?_
    refine q_goto C 14 dX6_planned_10 (by decide) ?_
    refine q_puti C (b := 23) 0 0 0 4 _ rfl (by decide) rfl in_X6 tyX6_ok nmX6 (by decide) fl_X6_48 rfl (by decide +kernel) rfl rfl rfl rfl (by omega) dX6_planned_14 ?_
    refine q_aload_n C 0 dX6_planned_17 rfl rfl ?_
    refine q_geti C (b := 23) 0 0 0 4 rfl (by decide) rfl in_X6 (by decide) fl_X6_48 rfl rfl rfl dX6_planned_18 (fun v18 e18 l18 u18 => ?_)
    rw [qUp_s] at e18
    refine q_ifle C 28 dX6_planned_21 (by decide) (by omega) (fun c21 => ?_) (fun c21 => ?_)
    · refine q_hp (g2 := c0 g) rfl ?_
      generalize c0 g = g0 at *
      refine q_nm (fun hn0 => ?_)
      have s23_4 : 0 ≤ g0 23 4 ∧ g0 23 4 ≤ 20 := hn0 23 4
      have hB0 : isBM g0 b := ⟨by omega, by omega, by omega⟩
      refine q_aload_n C 0 dX6_planned_28 rfl rfl ?_
      refine q_iload_n C 1 dX6_planned_29 rfl rfl ?_
      refine q_Vi0 C (KX6_plans _ _ (by omega) o hio ((hio b).mpr (by omega))) mX6_plans ml_X6_132 dX6_planned_30 (by decide) (by decide) rfl rfl rfl (Nat.le_of_ble_eq_true rfl) rfl (by decide) rfl rfl (fun v30 g30 l30 u30 h30 => ?_)
      refine q_istoreV_n C 2 dX6_planned_33 rfl (by decide) (fun v33 e33 => ?_)
      refine q_iload_n C 2 dX6_planned_34 rfl rfl ?_
      refine q_iconst C dX6_planned_35 ?_
      refine q_icmp_ne C 44 dX6_planned_36 (by decide) (by omega) (by omega) (fun c36 => ?_) (fun c36 => ?_)
      · refine q_aload_n C 0 dX6_planned_44 rfl rfl ?_
        refine q_geti C (b := 23) 0 0 0 4 rfl (by decide) rfl in_X6 (by decide) fl_X6_48 rfl rfl rfl dX6_planned_45 (fun v45 e45 l45 u45 => ?_)
        first
          | rw [qUp_s] at e45
          | rw [h30.1.2.2 23 (by decide) (by decide) (by decide), k0] at e45
        refine q_ifle C 55 dX6_planned_48 (by decide) (by omega) (fun c48 => ?_) (fun c48 => ?_)
        · refine q_iload_n C 2 dX6_planned_55 rfl rfl ?_
          first
            | (exfalso; omega)
            | exact q_iretI C dX6_planned_56 (by omega) (by decide) (Or.inl ⟨by unfold isBM; omega, rfl, rfl⟩)
            | (obtain ⟨F, ⟨L, z1, z2, z3⟩ | ⟨z1, z2⟩⟩ := h30
               · first
                 | (exfalso; omega)
                 | exact q_iretI C dX6_planned_56 (by omega) (by decide) (Or.inr (Or.inr ⟨hB0, F, L, z1, by omega, z3⟩))
               · first
                 | (exfalso; omega)
                 | exact q_iretI C dX6_planned_56 (by omega) (by decide) (Or.inr (Or.inl ⟨hB0, by omega, z2, _, F, rfl⟩)))
        · refine q_iconst C dX6_planned_51 ?_
          refine q_goto C 56 dX6_planned_52 (by decide) ?_
          first
            | (exfalso; omega)
            | exact q_iretI C dX6_planned_56 (by omega) (by decide) (Or.inl ⟨by unfold isBM; omega, rfl, rfl⟩)
            | (obtain ⟨F, ⟨L, z1, z2, z3⟩ | ⟨z1, z2⟩⟩ := h30
               · first
                 | (exfalso; omega)
                 | exact q_iretI C dX6_planned_56 (by omega) (by decide) (Or.inr (Or.inr ⟨hB0, F, L, z1, by omega, z3⟩))
               · first
                 | (exfalso; omega)
                 | exact q_iretI C dX6_planned_56 (by omega) (by decide) (Or.inr (Or.inl ⟨hB0, by omega, z2, _, F, rfl⟩)))
      · refine q_aload_n C 0 dX6_planned_39 rfl rfl ?_
        refine q_iconst C dX6_planned_40 ?_
        refine q_puti C (b := 23) 0 0 0 4 _ rfl (by decide) rfl in_X6 tyX6_ok nmX6 (by decide) fl_X6_48 rfl (by decide +kernel) rfl rfl rfl rfl (by omega) dX6_planned_41 ?_
        refine q_aload_n C 0 dX6_planned_44 rfl rfl ?_
        refine q_geti C (b := 23) 0 0 0 4 rfl (by decide) rfl in_X6 (by decide) fl_X6_48 rfl rfl rfl dX6_planned_45 (fun v45 e45 l45 u45 => ?_)
        first
          | rw [qUp_s] at e45
          | rw [h30.1.2.2 23 (by decide) (by decide) (by decide), k0] at e45
        refine q_ifle C 55 dX6_planned_48 (by decide) (by omega) (fun c48 => ?_) (fun c48 => ?_)
        · refine q_iload_n C 2 dX6_planned_55 rfl rfl ?_
          first
            | (exfalso; omega)
            | exact q_iretI C dX6_planned_56 (by omega) (by decide) (Or.inl ⟨by unfold isBM; omega, rfl, rfl⟩)
            | (obtain ⟨F, ⟨L, z1, z2, z3⟩ | ⟨z1, z2⟩⟩ := h30
               · first
                 | (exfalso; omega)
                 | exact q_iretI C dX6_planned_56 (by omega) (by decide) (Or.inr (Or.inr ⟨hB0, F, L, z1, by omega, z3⟩))
               · first
                 | (exfalso; omega)
                 | exact q_iretI C dX6_planned_56 (by omega) (by decide) (Or.inr (Or.inl ⟨hB0, by omega, z2, _, F, rfl⟩)))
        · refine q_iconst C dX6_planned_51 ?_
          refine q_goto C 56 dX6_planned_52 (by decide) ?_
          first
            | (exfalso; omega)
            | exact q_iretI C dX6_planned_56 (by omega) (by decide) (Or.inl ⟨by unfold isBM; omega, rfl, rfl⟩)
            | (obtain ⟨F, ⟨L, z1, z2, z3⟩ | ⟨z1, z2⟩⟩ := h30
               · first
                 | (exfalso; omega)
                 | exact q_iretI C dX6_planned_56 (by omega) (by decide) (Or.inr (Or.inr ⟨hB0, F, L, z1, by omega, z3⟩))
               · first
                 | (exfalso; omega)
                 | exact q_iretI C dX6_planned_56 (by omega) (by decide) (Or.inr (Or.inl ⟨hB0, by omega, z2, _, F, rfl⟩)))
    · exfalso; omega
set_option maxRecDepth 20000 in
theorem KX6_planLength (g : qHp) (b : Int) (hb : -2147483648 ≤ b ∧ b < 2147483648) (o : yK (c0 g) 0) (hio : insN (c0 g) (stM (c0 g) 0)) : qC yX6_planLength (.code yX6_planLength cX6_planLength 2 (some .int)) 7 0 (fun ad => [.ref (ad 23), .int (iI b)]) g (qPi (fun (r : Int) (g' : qHp) => planQ (c0 g) b r g')) qNo := by
  refine q_meth (by decide +kernel) rfl (fun _ => (Nat.le_of_ble_eq_true rfl)) (fun X ω C => ?_)
  refine q_loc [(0, .ref (ω.1 23)), (1, .int (iI b))] ⟨rfl, rfl, trivial⟩ ?_
  refine q_aload_n C 0 dX6_planLength_0 rfl rfl ?_
  refine q_iload_n C 1 dX6_planLength_1 rfl rfl ?_
  refine q_Vi0 C (KX6_planned _ _ (by omega) o hio) mX6_planned ml_X6_135 dX6_planLength_2 (by decide) (by decide) rfl rfl rfl (Nat.le_of_ble_eq_true rfl) rfl (by decide) rfl rfl (fun v2 g2 l2 u2 h2 => ?_)
  exact q_iretI C dX6_planLength_5 (by omega) (by decide) h2
set_option maxRecDepth 20000 in
theorem KX6_planByTrying (g : qHp) (b : Int) (hb : -2147483648 ≤ b ∧ b < 2147483648) (o : yK (c0 g) 0) (hio : insN (c0 g) (stM (c0 g) 0)) : qC yX6_planByTrying (.code yX6_planByTrying cX6_planByTrying 2 (some .int)) 7 0 (fun ad => [.ref (ad 23), .int (iI b)]) g (qPi (fun (r : Int) (g' : qHp) => planQ (c0 g) b r g')) qNo := by
  refine q_meth (by decide +kernel) rfl (fun _ => (Nat.le_of_ble_eq_true rfl)) (fun X ω C => ?_)
  refine q_loc [(0, .ref (ω.1 23)), (1, .int (iI b))] ⟨rfl, rfl, trivial⟩ ?_
  refine q_aload_n C 0 dX6_planByTrying_0 rfl rfl ?_
  refine q_iload_n C 1 dX6_planByTrying_1 rfl rfl ?_
  refine q_Vi0 C (KX6_planned _ _ (by omega) o hio) mX6_planned ml_X6_135 dX6_planByTrying_2 (by decide) (by decide) rfl rfl rfl (Nat.le_of_ble_eq_true rfl) rfl (by decide) rfl rfl (fun v2 g2 l2 u2 h2 => ?_)
  exact q_iretI C dX6_planByTrying_5 (by omega) (by decide) h2
set_option maxRecDepth 20000 in
theorem KX6_plannedAt (g : qHp) (b : Int) (hb : -2147483648 ≤ b ∧ b < 2147483648) (i : Int) (hi : -2147483648 ≤ i ∧ i < 2147483648) (o : yK (c0 g) 0) (hio : insN (c0 g) (stM (c0 g) 0)) : qC yX6_plannedAt (.code yX6_plannedAt cX6_plannedAt 4 (some .int)) 7 0 (fun ad => [.ref (ad 23), .int (iI b), .int (iI i)]) g (qPi (fun (r : Int) (g' : qHp) => plaQ (c0 g) b i r g')) qNo := by
  refine q_meth (by decide +kernel) rfl (fun _ => (Nat.le_of_ble_eq_true rfl)) (fun X ω C => ?_)
  refine q_loc [(0, .ref (ω.1 23)), (1, .int (iI b)), (2, .int (iI i))] ⟨rfl, rfl, rfl, trivial⟩ ?_
  refine q_aload_n C 0 dX6_plannedAt_0 rfl rfl ?_
  refine q_iload_n C 1 dX6_plannedAt_1 rfl rfl ?_
  refine q_Vi0 C (KX6_planned _ _ (by omega) o hio) mX6_planned ml_X6_135 dX6_plannedAt_2 (by decide) (by decide) rfl rfl rfl (Nat.le_of_ble_eq_true rfl) rfl (by decide) rfl rfl (fun v2 g2 l2 u2 h2 => ?_)
  refine q_istoreV_n C 3 dX6_plannedAt_5 rfl (by decide) (fun v5 e5 => ?_)
  have hp := plq_f o (c0_0 g) h2
  refine q_aload_n C 0 dX6_plannedAt_6 rfl rfl ?_
  refine q_geti C (b := 23) 0 0 0 4 rfl (by decide) rfl in_X6 (by decide) fl_X6_48 rfl rfl rfl dX6_plannedAt_7 (fun v7 e7 l7 u7 => ?_)
  refine q_ifne C 29 dX6_plannedAt_10 (by decide) (by omega) (fun c10 => ?_) (fun c10 => ?_)
  · refine q_aload_n C 0 dX6_plannedAt_29 rfl rfl ?_
    refine q_geti C (b := 23) 0 0 0 4 rfl (by decide) rfl in_X6 (by decide) fl_X6_48 rfl rfl rfl dX6_plannedAt_30 (fun v30 e30 l30 u30 => ?_)
    first
      | rw [qUp_s] at e30
      | skip
    refine q_ifle C 40 dX6_plannedAt_33 (by decide) (by omega) (fun c33 => ?_) (fun c33 => ?_)
    · refine q_aload_n C 0 dX6_plannedAt_40 rfl rfl ?_
      refine q_getr C (b := 23) 11 rfl (by decide) rfl in_X6 (by decide) fl_X6_33 rfl dX6_plannedAt_41 ?_
      refine q_iload_n C 2 dX6_plannedAt_44 rfl rfl ?_
      refine q_iald C (b := 31) (n := 6) 0 79 rfl (by decide) (by decide) (by omega) (fun _ => rfl) dX6_plannedAt_45 (fun v45 e45 l45 u45 => ?_)
      first
        | exact q_iretI C dX6_plannedAt_46 (by omega) (by decide) (pla_1 (c0_0 g) h2 (by omega))
        | exact q_iretI C dX6_plannedAt_46 (by omega) (by decide) (pla_2 o h2 (by omega) (by omega) (by assumption))
        | exact q_iretI C dX6_plannedAt_46 (by omega) (by decide) (pla_3 h2 (by omega) (by omega))
        | (exfalso; omega)
    · refine q_iconst C dX6_plannedAt_36 ?_
      refine q_goto C 46 dX6_plannedAt_37 (by decide) ?_
      first
        | exact q_iretI C dX6_plannedAt_46 (by omega) (by decide) (pla_1 (c0_0 g) h2 (by omega))
        | exact q_iretI C dX6_plannedAt_46 (by omega) (by decide) (pla_2 o h2 (by omega) (by omega) (by assumption))
        | exact q_iretI C dX6_plannedAt_46 (by omega) (by decide) (pla_3 h2 (by omega) (by omega))
        | (exfalso; omega)
  · refine q_iload_n C 2 dX6_plannedAt_13 rfl rfl ?_
    refine q_iconst C dX6_plannedAt_14 ?_
    refine q_iload_n C 3 dX6_plannedAt_15 rfl rfl ?_
    refine q_iconst C dX6_plannedAt_16 ?_
    refine q_isub C dX6_plannedAt_17 ?_
    refine q_Sf0 C (KX6_in _ _ (by omega) _ (by omega) _ (by omega)) mX6_in ml_X6_55 dX6_plannedAt_18 (by decide) (by decide) rfl rfl rfl (Nat.le_of_ble_eq_true rfl) (fun v18 l18 u18 h18 => ?_)
    refine q_ifne C 29 dX6_plannedAt_21 (by decide) (by omega) (fun c21 => ?_) (fun c21 => ?_)
    · refine q_aload_n C 0 dX6_plannedAt_29 rfl rfl ?_
      refine q_geti C (b := 23) 0 0 0 4 rfl (by decide) rfl in_X6 (by decide) fl_X6_48 rfl rfl rfl dX6_plannedAt_30 (fun v30 e30 l30 u30 => ?_)
      first
        | rw [qUp_s] at e30
        | skip
      refine q_ifle C 40 dX6_plannedAt_33 (by decide) (by omega) (fun c33 => ?_) (fun c33 => ?_)
      · refine q_aload_n C 0 dX6_plannedAt_40 rfl rfl ?_
        refine q_getr C (b := 23) 11 rfl (by decide) rfl in_X6 (by decide) fl_X6_33 rfl dX6_plannedAt_41 ?_
        refine q_iload_n C 2 dX6_plannedAt_44 rfl rfl ?_
        refine q_iald C (b := 31) (n := 6) 0 79 rfl (by decide) (by decide) (by omega) (fun _ => rfl) dX6_plannedAt_45 (fun v45 e45 l45 u45 => ?_)
        first
          | exact q_iretI C dX6_plannedAt_46 (by omega) (by decide) (pla_1 (c0_0 g) h2 (by omega))
          | exact q_iretI C dX6_plannedAt_46 (by omega) (by decide) (pla_2 o h2 (by omega) (by omega) (by assumption))
          | exact q_iretI C dX6_plannedAt_46 (by omega) (by decide) (pla_3 h2 (by omega) (by omega))
          | (exfalso; omega)
      · refine q_iconst C dX6_plannedAt_36 ?_
        refine q_goto C 46 dX6_plannedAt_37 (by decide) ?_
        first
          | exact q_iretI C dX6_plannedAt_46 (by omega) (by decide) (pla_1 (c0_0 g) h2 (by omega))
          | exact q_iretI C dX6_plannedAt_46 (by omega) (by decide) (pla_2 o h2 (by omega) (by omega) (by assumption))
          | exact q_iretI C dX6_plannedAt_46 (by omega) (by decide) (pla_3 h2 (by omega) (by omega))
          | (exfalso; omega)
    · refine q_aload_n C 0 dX6_plannedAt_24 rfl rfl ?_
      refine q_iconst C dX6_plannedAt_25 ?_
      refine q_puti C (b := 23) 0 0 0 4 _ rfl (by decide) rfl in_X6 tyX6_ok nmX6 (by decide) fl_X6_48 rfl (by decide +kernel) rfl rfl rfl rfl (by omega) dX6_plannedAt_26 ?_
      refine q_aload_n C 0 dX6_plannedAt_29 rfl rfl ?_
      refine q_geti C (b := 23) 0 0 0 4 rfl (by decide) rfl in_X6 (by decide) fl_X6_48 rfl rfl rfl dX6_plannedAt_30 (fun v30 e30 l30 u30 => ?_)
      first
        | rw [qUp_s] at e30
        | skip
      refine q_ifle C 40 dX6_plannedAt_33 (by decide) (by omega) (fun c33 => ?_) (fun c33 => ?_)
      · refine q_aload_n C 0 dX6_plannedAt_40 rfl rfl ?_
        refine q_getr C (b := 23) 11 rfl (by decide) rfl in_X6 (by decide) fl_X6_33 rfl dX6_plannedAt_41 ?_
        refine q_iload_n C 2 dX6_plannedAt_44 rfl rfl ?_
        refine q_iald C (b := 31) (n := 6) 0 79 rfl (by decide) (by decide) (by omega) (fun _ => rfl) dX6_plannedAt_45 (fun v45 e45 l45 u45 => ?_)
        first
          | exact q_iretI C dX6_plannedAt_46 (by omega) (by decide) (pla_1 (c0_0 g) h2 (by omega))
          | exact q_iretI C dX6_plannedAt_46 (by omega) (by decide) (pla_2 o h2 (by omega) (by omega) (by assumption))
          | exact q_iretI C dX6_plannedAt_46 (by omega) (by decide) (pla_3 h2 (by omega) (by omega))
          | (exfalso; omega)
      · refine q_iconst C dX6_plannedAt_36 ?_
        refine q_goto C 46 dX6_plannedAt_37 (by decide) ?_
        first
          | exact q_iretI C dX6_plannedAt_46 (by omega) (by decide) (pla_1 (c0_0 g) h2 (by omega))
          | exact q_iretI C dX6_plannedAt_46 (by omega) (by decide) (pla_2 o h2 (by omega) (by omega) (by assumption))
          | exact q_iretI C dX6_plannedAt_46 (by omega) (by decide) (pla_3 h2 (by omega) (by omega))
          | (exfalso; omega)
set_option maxRecDepth 20000 in
theorem KX6_planBox (g : qHp) (b : Int) (hb : -2147483648 ≤ b ∧ b < 2147483648) (i : Int) (hi : -2147483648 ≤ i ∧ i < 2147483648) (o : yK (c0 g) 0) (hio : insN (c0 g) (stM (c0 g) 0)) : qC yX6_planBox (.code yX6_planBox cX6_planBox 3 (some .int)) 8 0 (fun ad => [.ref (ad 23), .int (iI b), .int (iI i)]) g (qPi (fun (r : Int) (g' : qHp) => ∃ r0, plaQ (c0 g) b i r0 g' ∧ r = r0 / 4)) qNo := by
  refine q_meth (by decide +kernel) rfl (fun _ => (Nat.le_of_ble_eq_true rfl)) (fun X ω C => ?_)
  refine q_loc [(0, .ref (ω.1 23)), (1, .int (iI b)), (2, .int (iI i))] ⟨rfl, rfl, rfl, trivial⟩ ?_
  refine q_aload_n C 0 dX6_planBox_0 rfl rfl ?_
  refine q_iload_n C 1 dX6_planBox_1 rfl rfl ?_
  refine q_iload_n C 2 dX6_planBox_2 rfl rfl ?_
  refine q_Vi0 C (KX6_plannedAt _ _ (by omega) _ (by omega) o hio) mX6_plannedAt ml_X6_138 dX6_planBox_3 (by decide) (by decide) rfl rfl rfl (Nat.le_of_ble_eq_true rfl) rfl (by decide) rfl rfl (fun v3 g3 l3 u3 h3 => ?_)
  have h3r := h3.1
  refine q_iconst C dX6_planBox_6 ?_
  refine q_idiv C dX6_planBox_7 (by omega) (by omega) ?_
  exact q_iretI C dX6_planBox_8 (by omega) (by decide) ⟨v3, h3, rfl⟩
set_option maxRecDepth 20000 in
theorem KX6_planStack (g : qHp) (b : Int) (hb : -2147483648 ≤ b ∧ b < 2147483648) (i : Int) (hi : -2147483648 ≤ i ∧ i < 2147483648) (o : yK (c0 g) 0) (hio : insN (c0 g) (stM (c0 g) 0)) : qC yX6_planStack (.code yX6_planStack cX6_planStack 3 (some .int)) 8 0 (fun ad => [.ref (ad 23), .int (iI b), .int (iI i)]) g (qPi (fun (r : Int) (g' : qHp) => ∃ r0, plaQ (c0 g) b i r0 g' ∧ r = r0 % 4)) qNo := by
  refine q_meth (by decide +kernel) rfl (fun _ => (Nat.le_of_ble_eq_true rfl)) (fun X ω C => ?_)
  refine q_loc [(0, .ref (ω.1 23)), (1, .int (iI b)), (2, .int (iI i))] ⟨rfl, rfl, rfl, trivial⟩ ?_
  refine q_aload_n C 0 dX6_planStack_0 rfl rfl ?_
  refine q_iload_n C 1 dX6_planStack_1 rfl rfl ?_
  refine q_iload_n C 2 dX6_planStack_2 rfl rfl ?_
  refine q_Vi0 C (KX6_plannedAt _ _ (by omega) _ (by omega) o hio) mX6_plannedAt ml_X6_138 dX6_planStack_3 (by decide) (by decide) rfl rfl rfl (Nat.le_of_ble_eq_true rfl) rfl (by decide) rfl rfl (fun v3 g3 l3 u3 h3 => ?_)
  have h3r := h3.1
  refine q_iconst C dX6_planStack_6 ?_
  refine q_irem C dX6_planStack_7 (by omega) (by omega) ?_
  exact q_iretI C dX6_planStack_8 (by omega) (by decide) ⟨v3, h3, rfl⟩
set_option maxRecDepth 20000 in
theorem KX6_dig (g : qHp) (b : Int) (hb : -2147483648 ≤ b ∧ b < 2147483648) (o : yK (c0 g) 0) (hio : insN (c0 g) (stM (c0 g) 0)) : qC yX6_dig (.code yX6_dig cX6_dig 3 (some .int)) 7 0 (fun ad => [.ref (ad 23), .int (iI b)]) g (qPi (fun (r : Int) (g' : qHp) => digQ (c0 g) b r g')) qNo := by
  refine q_meth (by decide +kernel) rfl (fun _ => (Nat.le_of_ble_eq_true rfl)) (fun X ω C => ?_)
  refine q_loc [(0, .ref (ω.1 23)), (1, .int (iI b))] ⟨rfl, rfl, trivial⟩ ?_
  refine q_aload_n C 0 dX6_dig_0 rfl rfl ?_
  refine q_iload_n C 1 dX6_dig_1 rfl rfl ?_
  refine q_Vi0 C (KX6_planned _ _ (by omega) o hio) mX6_planned ml_X6_135 dX6_dig_2 (by decide) (by decide) rfl rfl rfl (Nat.le_of_ble_eq_true rfl) rfl (by decide) rfl rfl (fun v2 g2 l2 u2 h2 => ?_)
  refine q_istoreV_n C 2 dX6_dig_5 rfl (by decide) (fun v5 e5 => ?_)
  obtain ⟨L, zz, d1, d2, d3, d4, d5, d6, d7⟩ := dig_pre o h2
  rw [← e5] at d2
  refine q_aload_n C 0 dX6_dig_6 rfl rfl ?_
  refine q_iload_n C 2 dX6_dig_7 rfl rfl ?_
  refine q_Vw0 C (KX6_makes _ _ (by omega) d6 _ _ b L zz d1 d2 d3 d5) mX6_makes ml_X6_141 dX6_dig_8 (by decide) (by decide) rfl rfl rfl (Nat.le_of_ble_eq_true rfl) rfl (by decide) rfl rfl (fun g8 h8 => ?_)
  refine q_iload_n C 2 dX6_dig_11 rfl rfl ?_
  exact q_iretI C dX6_dig_12 (by omega) (by decide) ⟨_, L, zz, by rw [e5]; exact h2, d2, d4, h8, d7⟩
set_option maxRecDepth 20000 in
theorem KX6_addStack (g : qHp) (rc : Int) (hrc : -2147483648 ≤ rc ∧ rc < 2147483648)  : qC yX6_addStack (.code yX6_addStack cX6_addStack 2 (some .int)) 1 0 (fun ad => [.ref (ad 23), .int (iI rc)]) g (qPi (fun (r : Int) (g' : qHp) => (((1 ≤ rc ∧ rc ≤ 4) ∧ (c0 g) 23 2 ≠ 4) ∧ (r = (c0 g) 23 2) ∧ g' = (qUp (qUp (c0 g) 24 ((c0 g) 23 2) rc) 23 2 ((c0 g) 23 2 + 1))) ∨ ((¬ (1 ≤ rc ∧ rc ≤ 4)) ∧ g' = qUp (c0 g) 23 0 1) ∨ (((1 ≤ rc ∧ rc ≤ 4) ∧ (c0 g) 23 2 = 4) ∧ g' = qUp (c0 g) 23 0 2))) qNo := by
  refine q_meth (by decide +kernel) rfl (fun _ => (Nat.le_of_ble_eq_true rfl)) (fun X ω C => ?_)
  refine q_loc [(0, .ref (ω.1 23)), (1, .int (iI rc))] ⟨rfl, rfl, trivial⟩ ?_
  refine q_aload_n C 0 dX6_addStack_0 rfl rfl ?_
  refine q_iconst C dX6_addStack_1 ?_
  refine q_puti C (b := 23) 0 0 0 4 _ rfl (by decide) rfl in_X6 tyX6_ok nmX6 (by decide) fl_X6_48 rfl (by decide +kernel) rfl rfl rfl rfl (by omega) dX6_addStack_2 ?_
  refine q_hp (g2 := c0 g) rfl ?_
  generalize c0 g = g0 at *
  refine q_nm (fun hn => ?_)
  have r23_2 : 0 ≤ g0 23 2 ∧ g0 23 2 ≤ 4 := hn 23 2
  refine q_iload_n C 1 dX6_addStack_5 rfl rfl ?_
  refine q_iconst C dX6_addStack_6 ?_
  refine q_iconst C dX6_addStack_7 ?_
  refine q_Sf0 C (KX6_in _ _ (by omega) _ (by omega) _ (by omega)) mX6_in ml_X6_55 dX6_addStack_8 (by decide) (by decide) rfl rfl rfl (Nat.le_of_ble_eq_true rfl) (fun v8 l8 u8 h8 => ?_)
  refine q_ifne C 20 dX6_addStack_11 (by decide) (by omega) (fun c11 => ?_) (fun c11 => ?_)
  · refine q_aload_n C 0 dX6_addStack_20 rfl rfl ?_
    refine q_geti C (b := 23) 2 2 0 4 rfl (by decide) rfl in_X6 (by decide) fl_X6_59 rfl rfl rfl dX6_addStack_21 (fun v21 e21 l21 u21 => ?_)
    refine q_iconst C dX6_addStack_24 ?_
    refine q_icmp_ne C 34 dX6_addStack_25 (by decide) (by omega) (by omega) (fun c25 => ?_) (fun c25 => ?_)
    · refine q_aload_n C 0 dX6_addStack_34 rfl rfl ?_
      refine q_getr C (b := 23) 3 rfl (by decide) rfl in_X6 (by decide) fl_X6_7 rfl dX6_addStack_35 ?_
      refine q_aload_n C 0 dX6_addStack_38 rfl rfl ?_
      refine q_geti C (b := 23) 2 2 0 4 rfl (by decide) rfl in_X6 (by decide) fl_X6_59 rfl rfl rfl dX6_addStack_39 (fun v39 e39 l39 u39 => ?_)
      refine q_iload_n C 1 dX6_addStack_42 rfl rfl ?_
      refine q_iast C (b := 24) (n := 4) rfl (by decide) (by decide) (by omega)  (show 0 ≤ _ ∧ _ ≤ 4 from (by omega)) dX6_addStack_43 ?_
      subst e39
      refine q_aload_n C 0 dX6_addStack_44 rfl rfl ?_
      refine q_dup C dX6_addStack_45 rfl ?_
      refine q_geti C (b := 23) 2 2 0 4 rfl (by decide) rfl in_X6 (by decide) fl_X6_59 rfl rfl rfl dX6_addStack_46 (fun v46 e46 l46 u46 => ?_)
      refine q_iconst C dX6_addStack_49 ?_
      refine q_iadd C dX6_addStack_50 ?_
      rw [qUp_k (by decide)] at e46
      refine q_puti C (b := 23) 2 2 0 4 _ rfl (by decide) rfl in_X6 tyX6_ok nmX6 (by decide) fl_X6_59 rfl (by decide +kernel) rfl rfl rfl rfl (by omega) dX6_addStack_51 ?_
      refine q_aload_n C 0 dX6_addStack_54 rfl rfl ?_
      refine q_geti C (b := 23) 2 2 0 4 rfl (by decide) rfl in_X6 (by decide) fl_X6_59 rfl rfl rfl dX6_addStack_55 (fun v55 e55 l55 u55 => ?_)
      refine q_iconst C dX6_addStack_58 ?_
      refine q_isub C dX6_addStack_59 ?_
      rw [qUp_s] at e55
      exact q_iretI C dX6_addStack_60 (by omega) (by decide) (Or.inl ⟨⟨by omega, by omega⟩, by omega, by rw [e46]⟩)
    · refine q_aload_n C 0 dX6_addStack_28 rfl rfl ?_
      refine q_iconst C dX6_addStack_29 ?_
      refine q_Vi0 C (KX6_fails _ _ (by omega) (by omega)) mX6_fails ml_X6_110 dX6_addStack_30 (by decide) (by decide) rfl rfl rfl (Nat.le_of_ble_eq_true rfl) rfl (by decide) rfl rfl (fun v30 g30 l30 u30 h30 => ?_)
      obtain ⟨h30, rfl⟩ := h30
      first
        | exact q_iretI C dX6_addStack_33 (by omega) (by decide) (Or.inl (⟨by omega, by omega, rfl⟩))
        | exact q_iretI C dX6_addStack_33 (by omega) (by decide) (Or.inr (Or.inl (⟨by omega, rfl⟩)))
        | exact q_iretI C dX6_addStack_33 (by omega) (by decide) (Or.inr (Or.inr (⟨⟨by omega, by omega⟩, rfl⟩)))
  · refine q_aload_n C 0 dX6_addStack_14 rfl rfl ?_
    refine q_iconst C dX6_addStack_15 ?_
    refine q_Vi0 C (KX6_fails _ _ (by omega) (by omega)) mX6_fails ml_X6_110 dX6_addStack_16 (by decide) (by decide) rfl rfl rfl (Nat.le_of_ble_eq_true rfl) rfl (by decide) rfl rfl (fun v16 g16 l16 u16 h16 => ?_)
    obtain ⟨h16, rfl⟩ := h16
    first
      | exact q_iretI C dX6_addStack_19 (by omega) (by decide) (Or.inl (⟨by omega, by omega, rfl⟩))
      | exact q_iretI C dX6_addStack_19 (by omega) (by decide) (Or.inr (Or.inl (⟨by omega, rfl⟩)))
      | exact q_iretI C dX6_addStack_19 (by omega) (by decide) (Or.inr (Or.inr (⟨⟨by omega, by omega⟩, rfl⟩)))
set_option maxRecDepth 20000 in
theorem KX6_addBox (g : qHp) (w : Int) (hw : -2147483648 ≤ w ∧ w < 2147483648) (s : Int) (hs : -2147483648 ≤ s ∧ s < 2147483648)  : qC yX6_addBox (.code yX6_addBox cX6_addBox 3 (some .int)) 2 0 (fun ad => [.ref (ad 23), .int (iI w), .int (iI s)]) g (qPi (fun (r : Int) (g' : qHp) => (((0 ≤ s ∧ s < (c0 g) 23 2) ∧ (1 ≤ w ∧ w ≤ 30) ∧ (hM (c0 g) 0 s < (c0 g) 24 s ∧ ∀ x, (stM (c0 g) 0 s).head? = some x → w ≤ (c0 g) 25 x) ∧ (cntI (inO (c0 g)) ((c0 g) 23 4).toNat ≠ 8 ∧ (c0 g) 23 4 ≠ 20)) ∧ (r = (c0 g) 23 4) ∧ g' = abM (c0 g) w s) ∨ ((¬ (0 ≤ s ∧ s < (c0 g) 23 2)) ∧ g' = qUp (c0 g) 23 0 1) ∨ (((0 ≤ s ∧ s < (c0 g) 23 2) ∧ ¬ (1 ≤ w ∧ w ≤ 30)) ∧ g' = qUp (c0 g) 23 0 2) ∨ (((0 ≤ s ∧ s < (c0 g) 23 2) ∧ (1 ≤ w ∧ w ≤ 30) ∧ ¬ (hM (c0 g) 0 s < (c0 g) 24 s ∧ ∀ x, (stM (c0 g) 0 s).head? = some x → w ≤ (c0 g) 25 x)) ∧ g' = qUp (c0 g) 23 0 3) ∨ (((0 ≤ s ∧ s < (c0 g) 23 2) ∧ (1 ≤ w ∧ w ≤ 30) ∧ (hM (c0 g) 0 s < (c0 g) 24 s ∧ ∀ x, (stM (c0 g) 0 s).head? = some x → w ≤ (c0 g) 25 x) ∧ ¬ (cntI (inO (c0 g)) ((c0 g) 23 4).toNat ≠ 8 ∧ (c0 g) 23 4 ≠ 20)) ∧ g' = qUp (c0 g) 23 0 4))) qNo := by
  refine q_meth (by decide +kernel) rfl (fun _ => (Nat.le_of_ble_eq_true rfl)) (fun X ω C => ?_)
  refine q_loc [(0, .ref (ω.1 23)), (1, .int (iI w)), (2, .int (iI s))] ⟨rfl, rfl, rfl, trivial⟩ ?_
  refine q_aload_n C 0 dX6_addBox_0 rfl rfl ?_
  refine q_iconst C dX6_addBox_1 ?_
  refine q_puti C (b := 23) 0 0 0 4 _ rfl (by decide) rfl in_X6 tyX6_ok nmX6 (by decide) fl_X6_48 rfl (by decide +kernel) rfl rfl rfl rfl (by omega) dX6_addBox_2 ?_
  refine q_hp (g2 := c0 g) rfl ?_
  generalize c0 g = g0 at *
  refine q_nm (fun hn => ?_)
  have r23_4 : 0 ≤ g0 23 4 ∧ g0 23 4 ≤ 20 := hn 23 4
  have r23_2 : 0 ≤ g0 23 2 ∧ g0 23 2 ≤ 4 := hn 23 2
  refine q_aload_n C 0 dX6_addBox_5 rfl rfl ?_
  refine q_iload_n C 2 dX6_addBox_6 rfl rfl ?_
  refine q_Vf0 C (KX6_isStack _ _ (by omega)) mX6_isStack ml_X6_113 dX6_addBox_7 (by decide) (by decide) rfl rfl rfl (Nat.le_of_ble_eq_true rfl) rfl (by decide) rfl rfl (fun v7 l7 u7 h7 => ?_)
  refine q_ifne C 19 dX6_addBox_10 (by decide) (by omega) (fun c10 => ?_) (fun c10 => ?_)
  · refine q_iload_n C 1 dX6_addBox_19 rfl rfl ?_
    refine q_iconst C dX6_addBox_20 ?_
    refine q_bipush C dX6_addBox_21 (by decide +kernel) ?_
    refine q_Sf0 C (KX6_in _ _ (by omega) _ (by omega) _ (by omega)) mX6_in ml_X6_55 dX6_addBox_23 (by decide) (by decide) rfl rfl rfl (Nat.le_of_ble_eq_true rfl) (fun v23 l23 u23 h23 => ?_)
    refine q_ifne C 35 dX6_addBox_26 (by decide) (by omega) (fun c26 => ?_) (fun c26 => ?_)
    · refine q_aload_n C 0 dX6_addBox_35 rfl rfl ?_
      refine q_iconst C dX6_addBox_36 ?_
      refine q_iload_n C 2 dX6_addBox_37 rfl rfl ?_
      refine q_iload_n C 1 dX6_addBox_38 rfl rfl ?_
      refine q_Vf0 C (KX6_takes _ _ (by omega) _ (by omega) _ (by omega) (by omega) (by omega)) mX6_takes ml_X6_77 dX6_addBox_39 (by decide) (by decide) rfl rfl rfl (Nat.le_of_ble_eq_true rfl) rfl (by decide) rfl rfl (fun v39 l39 u39 h39 => ?_)
      refine q_ifne C 51 dX6_addBox_42 (by decide) (by omega) (fun c42 => ?_) (fun c42 => ?_)
      · refine q_aload_n C 0 dX6_addBox_51 rfl rfl ?_
        refine q_Vf0 C (KX6_insideNow _) mX6_insideNow ml_X6_116 dX6_addBox_52 (by decide) (by decide) rfl rfl rfl (Nat.le_of_ble_eq_true rfl) rfl (by decide) rfl rfl (fun v52 l52 u52 h52 => ?_)
        refine q_bipush C dX6_addBox_55 (by decide +kernel) ?_
        refine q_icmp_eq C 69 dX6_addBox_57 (by decide) (by omega) (by omega) (fun c57 => ?_) (fun c57 => ?_)
        · refine q_aload_n C 0 dX6_addBox_69 rfl rfl ?_
          refine q_iconst C dX6_addBox_70 ?_
          refine q_Vi0 C (KX6_fails _ _ (by omega) (by omega)) mX6_fails ml_X6_110 dX6_addBox_71 (by decide) (by decide) rfl rfl rfl (Nat.le_of_ble_eq_true rfl) rfl (by decide) rfl rfl (fun v71 g71 l71 u71 h71 => ?_)
          obtain ⟨h71, rfl⟩ := h71
          first
            | exact q_iretI C dX6_addBox_74 (by omega) (by decide) (Or.inl (⟨by omega, by omega, rfl⟩))
            | exact q_iretI C dX6_addBox_74 (by omega) (by decide) (Or.inr (Or.inl (⟨by omega, rfl⟩)))
            | exact q_iretI C dX6_addBox_74 (by omega) (by decide) (Or.inr (Or.inr (Or.inl (⟨⟨by omega, by omega⟩, rfl⟩))))
            | exact q_iretI C dX6_addBox_74 (by omega) (by decide) (Or.inr (Or.inr (Or.inr (Or.inl (⟨⟨by omega, by omega, by rcases h39 with ⟨z1, z2⟩ | ⟨z1, z2⟩; (· omega); (· exact z1)⟩, rfl⟩)))))
            | exact q_iretI C dX6_addBox_74 (by omega) (by decide) (Or.inr (Or.inr (Or.inr (Or.inr (⟨⟨by omega, by omega, by rcases h39 with ⟨z1, z2⟩ | ⟨z1, z2⟩; (· exact z1); (· omega), by omega⟩, rfl⟩)))))
        · refine q_aload_n C 0 dX6_addBox_60 rfl rfl ?_
          refine q_geti C (b := 23) 4 4 0 20 rfl (by decide) rfl in_X6 (by decide) fl_X6_52 rfl rfl rfl dX6_addBox_61 (fun v61 e61 l61 u61 => ?_)
          refine q_bipush C dX6_addBox_64 (by decide +kernel) ?_
          refine q_icmp_ne C 75 dX6_addBox_66 (by decide) (by omega) (by omega) (fun c66 => ?_) (fun c66 => ?_)
          · have hc3 : (hM g0 0 s < g0 24 s ∧ ∀ x, (stM g0 0 s).head? = some x → w ≤ g0 25 x) := by
              rcases h39 with ⟨z1, z2⟩ | ⟨z1, z2⟩
              · exact z1
              · omega
            refine q_aload_n C 0 dX6_addBox_75 rfl rfl ?_
            refine q_getr C (b := 23) 5 rfl (by decide) rfl in_X6 (by decide) fl_X6_13 rfl dX6_addBox_76 ?_
            refine q_aload_n C 0 dX6_addBox_79 rfl rfl ?_
            refine q_geti C (b := 23) 4 4 0 20 rfl (by decide) rfl in_X6 (by decide) fl_X6_52 rfl rfl rfl dX6_addBox_80 (fun v80 e80 l80 u80 => ?_)
            have q80 : v61 = v80 := by
              rw [e61, e80]
              repeat rw [qUp_k (by decide)]
            subst q80
            refine q_iload_n C 1 dX6_addBox_83 rfl rfl ?_
            refine q_iast C (b := 25) (n := 20) rfl (by decide) (by decide) (by omega)  (show 0 ≤ _ ∧ _ ≤ 30 from (by omega)) dX6_addBox_84 ?_
            refine q_aload_n C 0 dX6_addBox_85 rfl rfl ?_
            refine q_getr C (b := 23) 6 rfl (by decide) rfl in_X6 (by decide) fl_X6_16 rfl dX6_addBox_86 ?_
            refine q_aload_n C 0 dX6_addBox_89 rfl rfl ?_
            refine q_geti C (b := 23) 4 4 0 20 rfl (by decide) rfl in_X6 (by decide) fl_X6_52 rfl rfl rfl dX6_addBox_90 (fun v90 e90 l90 u90 => ?_)
            have q90 : v61 = v90 := by
              rw [e61, e90]
              repeat rw [qUp_k (by decide)]
            subst q90
            refine q_iconst C dX6_addBox_93 ?_
            refine q_zast C (b := 26) (n := 20) rfl (by decide) (by decide) (by omega) (by omega) (show 0 ≤ _ ∧ _ ≤ 1 from (by omega)) dX6_addBox_94 ?_
            refine q_aload_n C 0 dX6_addBox_95 rfl rfl ?_
            refine q_getr C (b := 23) 7 rfl (by decide) rfl in_X6 (by decide) fl_X6_20 rfl dX6_addBox_96 ?_
            refine q_aload_n C 0 dX6_addBox_99 rfl rfl ?_
            refine q_geti C (b := 23) 4 4 0 20 rfl (by decide) rfl in_X6 (by decide) fl_X6_52 rfl rfl rfl dX6_addBox_100 (fun v100 e100 l100 u100 => ?_)
            have q100 : v61 = v100 := by
              rw [e61, e100]
              repeat rw [qUp_k (by decide)]
            subst q100
            refine q_bipush C dX6_addBox_103 (by decide +kernel) ?_
            refine q_cast C (b := 27) (n := 20) rfl (by decide) (by decide) (by omega) (by omega) (show 0 ≤ _ ∧ _ ≤ 65535 from (by omega)) dX6_addBox_105 ?_
            have a1 : qUp (qUp (qUp g0 25 v61 w) 26 v61 1) 27 v61 45 29 (4 * 0 + s) = g0 29 s := by
              rw [qUp_k (by decide), qUp_k (by decide), qUp_k (by decide)]
              congr 1
              omega
            have hts : g0 29 s < 4 := by
              have q1 : g0 29 (4 * 0 + s) < g0 24 s := hc3.1
              have q2 : g0 24 s ≤ 4 := (hn 24 s).2
              have q3 : g0 29 (4 * 0 + s) = g0 29 s := by congr 1; omega
              omega
            have h29 : 0 ≤ g0 29 s := (hn 29 s).1
            refine q_aload_n C 0 dX6_addBox_106 rfl rfl ?_
            refine q_iconst C dX6_addBox_107 ?_
            refine q_iload_n C 2 dX6_addBox_108 rfl rfl ?_
            refine q_aload_n C 0 dX6_addBox_109 rfl rfl ?_
            refine q_geti C (b := 23) 4 4 0 20 rfl (by decide) rfl in_X6 (by decide) fl_X6_52 rfl rfl rfl dX6_addBox_110 (fun v110 e110 l110 u110 => ?_)
            have q110 : v61 = v110 := by
              rw [e61, e110]
              repeat rw [qUp_k (by decide)]
            subst q110
            refine q_Vv0 C (KX6_lays _ _ (by omega) _ (by omega) _ (by omega) (by omega) (by omega) (by omega) (by rw [a1]; omega)) mX6_lays ml_X6_80 dX6_addBox_113 (by decide) (by decide) rfl rfl rfl (Nat.le_of_ble_eq_true rfl) rfl (by decide) rfl rfl ?_
            refine q_aload_n C 0 dX6_addBox_116 rfl rfl ?_
            refine q_dup C dX6_addBox_117 rfl ?_
            refine q_geti C (b := 23) 4 4 0 20 rfl (by decide) rfl in_X6 (by decide) fl_X6_52 rfl rfl rfl dX6_addBox_118 (fun v118 e118 l118 u118 => ?_)
            have q118 : v61 = v118 := by
              rw [e61, e118]
              repeat rw [qUp_k (by decide)]
            subst q118
            refine q_iconst C dX6_addBox_121 ?_
            refine q_iadd C dX6_addBox_122 ?_
            refine q_puti C (b := 23) 4 4 0 20 _ rfl (by decide) rfl in_X6 tyX6_ok nmX6 (by decide) fl_X6_52 rfl (by decide +kernel) rfl rfl rfl rfl (by omega) dX6_addBox_123 ?_
            refine q_aload_n C 0 dX6_addBox_126 rfl rfl ?_
            refine q_geti C (b := 23) 4 4 0 20 rfl (by decide) rfl in_X6 (by decide) fl_X6_52 rfl rfl rfl dX6_addBox_127 (fun v127 e127 l127 u127 => ?_)
            refine q_iconst C dX6_addBox_130 ?_
            refine q_isub C dX6_addBox_131 ?_
            rw [qUp_s] at e127
            refine q_iretI C dX6_addBox_132 (by omega) (by decide) (Or.inl ⟨⟨by omega, by omega, hc3, by omega⟩, by omega, ?_⟩)
            unfold abM
            rw [← e61, a1, show 16 * 0 + 4 * s + g0 29 s = 4 * s + g0 29 s by omega, show 4 * 0 + s = s by omega]
          · refine q_aload_n C 0 dX6_addBox_69 rfl rfl ?_
            refine q_iconst C dX6_addBox_70 ?_
            refine q_Vi0 C (KX6_fails _ _ (by omega) (by omega)) mX6_fails ml_X6_110 dX6_addBox_71 (by decide) (by decide) rfl rfl rfl (Nat.le_of_ble_eq_true rfl) rfl (by decide) rfl rfl (fun v71 g71 l71 u71 h71 => ?_)
            obtain ⟨h71, rfl⟩ := h71
            first
              | exact q_iretI C dX6_addBox_74 (by omega) (by decide) (Or.inl (⟨by omega, by omega, rfl⟩))
              | exact q_iretI C dX6_addBox_74 (by omega) (by decide) (Or.inr (Or.inl (⟨by omega, rfl⟩)))
              | exact q_iretI C dX6_addBox_74 (by omega) (by decide) (Or.inr (Or.inr (Or.inl (⟨⟨by omega, by omega⟩, rfl⟩))))
              | exact q_iretI C dX6_addBox_74 (by omega) (by decide) (Or.inr (Or.inr (Or.inr (Or.inl (⟨⟨by omega, by omega, by rcases h39 with ⟨z1, z2⟩ | ⟨z1, z2⟩; (· omega); (· exact z1)⟩, rfl⟩)))))
              | exact q_iretI C dX6_addBox_74 (by omega) (by decide) (Or.inr (Or.inr (Or.inr (Or.inr (⟨⟨by omega, by omega, by rcases h39 with ⟨z1, z2⟩ | ⟨z1, z2⟩; (· exact z1); (· omega), by omega⟩, rfl⟩)))))
      · refine q_aload_n C 0 dX6_addBox_45 rfl rfl ?_
        refine q_iconst C dX6_addBox_46 ?_
        refine q_Vi0 C (KX6_fails _ _ (by omega) (by omega)) mX6_fails ml_X6_110 dX6_addBox_47 (by decide) (by decide) rfl rfl rfl (Nat.le_of_ble_eq_true rfl) rfl (by decide) rfl rfl (fun v47 g47 l47 u47 h47 => ?_)
        obtain ⟨h47, rfl⟩ := h47
        first
          | exact q_iretI C dX6_addBox_50 (by omega) (by decide) (Or.inl (⟨by omega, by omega, rfl⟩))
          | exact q_iretI C dX6_addBox_50 (by omega) (by decide) (Or.inr (Or.inl (⟨by omega, rfl⟩)))
          | exact q_iretI C dX6_addBox_50 (by omega) (by decide) (Or.inr (Or.inr (Or.inl (⟨⟨by omega, by omega⟩, rfl⟩))))
          | exact q_iretI C dX6_addBox_50 (by omega) (by decide) (Or.inr (Or.inr (Or.inr (Or.inl (⟨⟨by omega, by omega, by rcases h39 with ⟨z1, z2⟩ | ⟨z1, z2⟩; (· omega); (· exact z1)⟩, rfl⟩)))))
          | exact q_iretI C dX6_addBox_50 (by omega) (by decide) (Or.inr (Or.inr (Or.inr (Or.inr (⟨⟨by omega, by omega, by rcases h39 with ⟨z1, z2⟩ | ⟨z1, z2⟩; (· exact z1); (· omega), by omega⟩, rfl⟩)))))
    · refine q_aload_n C 0 dX6_addBox_29 rfl rfl ?_
      refine q_iconst C dX6_addBox_30 ?_
      refine q_Vi0 C (KX6_fails _ _ (by omega) (by omega)) mX6_fails ml_X6_110 dX6_addBox_31 (by decide) (by decide) rfl rfl rfl (Nat.le_of_ble_eq_true rfl) rfl (by decide) rfl rfl (fun v31 g31 l31 u31 h31 => ?_)
      obtain ⟨h31, rfl⟩ := h31
      first
        | exact q_iretI C dX6_addBox_34 (by omega) (by decide) (Or.inl (⟨by omega, by omega, rfl⟩))
        | exact q_iretI C dX6_addBox_34 (by omega) (by decide) (Or.inr (Or.inl (⟨by omega, rfl⟩)))
        | exact q_iretI C dX6_addBox_34 (by omega) (by decide) (Or.inr (Or.inr (Or.inl (⟨⟨by omega, by omega⟩, rfl⟩))))
        | exact q_iretI C dX6_addBox_34 (by omega) (by decide) (Or.inr (Or.inr (Or.inr (Or.inl (⟨⟨by omega, by omega, by rcases h39 with ⟨z1, z2⟩ | ⟨z1, z2⟩; (· omega); (· exact z1)⟩, rfl⟩)))))
        | exact q_iretI C dX6_addBox_34 (by omega) (by decide) (Or.inr (Or.inr (Or.inr (Or.inr (⟨⟨by omega, by omega, by rcases h39 with ⟨z1, z2⟩ | ⟨z1, z2⟩; (· exact z1); (· omega), by omega⟩, rfl⟩)))))
  · refine q_aload_n C 0 dX6_addBox_13 rfl rfl ?_
    refine q_iconst C dX6_addBox_14 ?_
    refine q_Vi0 C (KX6_fails _ _ (by omega) (by omega)) mX6_fails ml_X6_110 dX6_addBox_15 (by decide) (by decide) rfl rfl rfl (Nat.le_of_ble_eq_true rfl) rfl (by decide) rfl rfl (fun v15 g15 l15 u15 h15 => ?_)
    obtain ⟨h15, rfl⟩ := h15
    first
      | exact q_iretI C dX6_addBox_18 (by omega) (by decide) (Or.inl (⟨by omega, by omega, rfl⟩))
      | exact q_iretI C dX6_addBox_18 (by omega) (by decide) (Or.inr (Or.inl (⟨by omega, rfl⟩)))
      | exact q_iretI C dX6_addBox_18 (by omega) (by decide) (Or.inr (Or.inr (Or.inl (⟨⟨by omega, by omega⟩, rfl⟩))))
      | exact q_iretI C dX6_addBox_18 (by omega) (by decide) (Or.inr (Or.inr (Or.inr (Or.inl (⟨⟨by omega, by omega, by rcases h39 with ⟨z1, z2⟩ | ⟨z1, z2⟩; (· omega); (· exact z1)⟩, rfl⟩)))))
      | exact q_iretI C dX6_addBox_18 (by omega) (by decide) (Or.inr (Or.inr (Or.inr (Or.inr (⟨⟨by omega, by omega, by rcases h39 with ⟨z1, z2⟩ | ⟨z1, z2⟩; (· exact z1); (· omega), by omega⟩, rfl⟩)))))
set_option maxRecDepth 20000 in
theorem KX6_hold (g : qHp) (b : Int) (hb : -2147483648 ≤ b ∧ b < 2147483648) (kd : Int) (hkd : -2147483648 ≤ kd ∧ kd < 2147483648) (ut : Int) (hut : -2147483648 ≤ ut ∧ ut < 2147483648) (hk2 : 0 ≤ kd ∧ kd < 65536) : qC yX6_hold (.code yX6_hold cX6_hold 5 (some .int)) 2 0 (fun ad => [.ref (ad 23), .int (iI b), .int (iI kd), .int (iI ut)]) g (qPi (fun (r : Int) (g' : qHp) => (((0 ≤ b ∧ b < (c0 g) 23 4 ∧ (c0 g) 26 b = 1) ∧ ((kd = 112 ∨ kd = 108) ∧ ((c0 g) 23 1 < ut ∧ ut ≤ 1000)) ∧ (fstB (bkN (c0 g) b) ((c0 g) 23 13) = -1 ∨ ut ≤ (c0 g) 33 (fstB (bkN (c0 g) b) ((c0 g) 23 13)))) ∧ r = 0 ∧ g' = (qUp (qUp (c0 g) 27 b kd) 28 b ut)) ∨ (((0 ≤ b ∧ b < (c0 g) 23 4 ∧ (c0 g) 26 b = 1) ∧ ((kd = 112 ∨ kd = 108) ∧ ((c0 g) 23 1 < ut ∧ ut ≤ 1000)) ∧ fstB (bkN (c0 g) b) ((c0 g) 23 13) ≠ -1 ∧ (c0 g) 33 (fstB (bkN (c0 g) b) ((c0 g) 23 13)) < ut) ∧ r = 1 ∧ g' = qUp (qUp (qUp (c0 g) 27 b kd) 28 b ut) 35 (fstB (bkN (c0 g) b) ((c0 g) 23 13)) 103) ∨ (¬ (0 ≤ b ∧ b < (c0 g) 23 4 ∧ (c0 g) 26 b = 1) ∧ g' = qUp (c0 g) 23 0 1) ∨ (((0 ≤ b ∧ b < (c0 g) 23 4 ∧ (c0 g) 26 b = 1) ∧ ¬ ((kd = 112 ∨ kd = 108) ∧ ((c0 g) 23 1 < ut ∧ ut ≤ 1000))) ∧ g' = qUp (c0 g) 23 0 2))) qNo := by
  refine q_meth (by decide +kernel) rfl (fun _ => (Nat.le_of_ble_eq_true rfl)) (fun X ω C => ?_)
  refine q_loc [(0, .ref (ω.1 23)), (1, .int (iI b)), (2, .int (iI kd)), (3, .int (iI ut))] ⟨rfl, rfl, rfl, rfl, trivial⟩ ?_
  refine q_aload_n C 0 dX6_hold_0 rfl rfl ?_
  refine q_iconst C dX6_hold_1 ?_
  refine q_puti C (b := 23) 0 0 0 4 _ rfl (by decide) rfl in_X6 tyX6_ok nmX6 (by decide) fl_X6_48 rfl (by decide +kernel) rfl rfl rfl rfl (by omega) dX6_hold_2 ?_
  refine q_hp (g2 := c0 g) rfl ?_
  generalize c0 g = g0 at *
  refine q_nm (fun hn => ?_)
  have r23_4 : 0 ≤ g0 23 4 ∧ g0 23 4 ≤ 20 := hn 23 4
  have r23_1 : 0 ≤ g0 23 1 ∧ g0 23 1 ≤ 999 := hn 23 1
  have r23_13 : 0 ≤ g0 23 13 ∧ g0 23 13 ≤ 30 := hn 23 13
  refine q_aload_n C 0 dX6_hold_5 rfl rfl ?_
  refine q_iload_n C 1 dX6_hold_6 rfl rfl ?_
  refine q_Vf0 C (KX6_isBox _ _ (by omega)) mX6_isBox ml_X6_120 dX6_hold_7 (by decide) (by decide) rfl rfl rfl (Nat.le_of_ble_eq_true rfl) rfl (by decide) rfl rfl (fun v7 l7 u7 h7 => ?_)
  refine q_ifne C 19 dX6_hold_10 (by decide) (by omega) (fun c10 => ?_) (fun c10 => ?_)
  · refine q_iload_n C 2 dX6_hold_19 rfl rfl ?_
    refine q_bipush C dX6_hold_20 (by decide +kernel) ?_
    refine q_icmp_eq C 31 dX6_hold_22 (by decide) (by omega) (by omega) (fun c22 => ?_) (fun c22 => ?_)
    · refine q_iload_n C 3 dX6_hold_31 rfl rfl ?_
      refine q_aload_n C 0 dX6_hold_32 rfl rfl ?_
      refine q_geti C (b := 23) 1 1 0 999 rfl (by decide) rfl in_X6 (by decide) fl_X6_126 rfl rfl rfl dX6_hold_33 (fun v33 e33 l33 u33 => ?_)
      refine q_iconst C dX6_hold_36 ?_
      refine q_iadd C dX6_hold_37 ?_
      refine q_sipush C dX6_hold_38 (by decide +kernel) ?_
      refine q_Sf0 C (KX6_in _ _ (by omega) _ (by omega) _ (by omega)) mX6_in ml_X6_55 dX6_hold_41 (by decide) (by decide) rfl rfl rfl (Nat.le_of_ble_eq_true rfl) (fun v41 l41 u41 h41 => ?_)
      refine q_ifne C 53 dX6_hold_44 (by decide) (by omega) (fun c44 => ?_) (fun c44 => ?_)
      · refine q_aload_n C 0 dX6_hold_53 rfl rfl ?_
        refine q_getr C (b := 23) 7 rfl (by decide) rfl in_X6 (by decide) fl_X6_20 rfl dX6_hold_54 ?_
        refine q_iload_n C 1 dX6_hold_57 rfl rfl ?_
        refine q_iload_n C 2 dX6_hold_58 rfl rfl ?_
        refine q_cast C (b := 27) (n := 20) rfl (by decide) (by decide) (by omega) (by omega) (show 0 ≤ _ ∧ _ ≤ 65535 from (by omega)) dX6_hold_59 ?_
        refine q_aload_n C 0 dX6_hold_60 rfl rfl ?_
        refine q_getr C (b := 23) 8 rfl (by decide) rfl in_X6 (by decide) fl_X6_24 rfl dX6_hold_61 ?_
        refine q_iload_n C 1 dX6_hold_64 rfl rfl ?_
        refine q_iload_n C 3 dX6_hold_65 rfl rfl ?_
        refine q_iast C (b := 28) (n := 20) rfl (by decide) (by decide) (by omega)  (show 0 ≤ _ ∧ _ ≤ 1000 from (by omega)) dX6_hold_66 ?_
        refine q_aload_n C 0 dX6_hold_67 rfl rfl ?_
        refine q_iload_n C 1 dX6_hold_68 rfl rfl ?_
        refine q_Vf0 C (KX6_appointmentIn _ _ (by omega)) mX6_appointmentIn ml_X6_129 dX6_hold_69 (by decide) (by decide) rfl rfl rfl (Nat.le_of_ble_eq_true rfl) rfl (by decide) rfl rfl (fun v69 l69 u69 h69 => ?_)
        have b1 : fstB (bkN (qUp (qUp g0 27 b kd) 28 b ut) b) ((qUp (qUp g0 27 b kd) 28 b ut) 23 13) = fstB (bkN g0 b) (g0 23 13) := by rw [bkN_K (by rw [qUp_row (by decide), qUp_row (by decide)]) (by rw [qUp_row (by decide), qUp_row (by decide)]), qUp_k (by decide), qUp_k (by decide)]
        rw [b1] at h69
        have hbr := fstB_rng (bkN g0 b) (g0 23 13)
        refine q_istoreV C dX6_hold_72 (by decide) (fun v72 e72 => ?_)
        refine q_iload C dX6_hold_74 rfl ?_
        refine q_iconst C dX6_hold_76 ?_
        refine q_icmp_eq C 91 dX6_hold_77 (by decide) (by omega) (by omega) (fun c77 => ?_) (fun c77 => ?_)
        · refine q_iconst C dX6_hold_91 ?_
          exact q_iretI C dX6_hold_92 (by omega) (by decide) (Or.inl ⟨⟨by omega, by omega, by omega⟩, rfl, rfl⟩)
        · refine q_aload_n C 0 dX6_hold_80 rfl rfl ?_
          refine q_getr C (b := 23) 15 rfl (by decide) rfl in_X6 (by decide) fl_X6_39 rfl dX6_hold_81 ?_
          refine q_iload C dX6_hold_84 rfl ?_
          refine q_iald C (b := 33) (n := 30) 0 999 rfl (by decide) (by decide) (by omega) (fun _ => rfl) dX6_hold_86 (fun v86 e86 l86 u86 => ?_)
          rw [qUp_k (by decide), qUp_k (by decide)] at e86
          have q72 : v72 = fstB (bkN g0 b) (g0 23 13) := by omega
          rw [q72] at e86
          refine q_iload_n C 3 dX6_hold_87 rfl rfl ?_
          refine q_icmp_lt C 93 dX6_hold_88 (by decide) (by omega) (by omega) (fun c88 => ?_) (fun c88 => ?_)
          · rw [q72]
            refine q_aload_n C 0 dX6_hold_93 rfl rfl ?_
            refine q_getr C (b := 23) 17 rfl (by decide) rfl in_X6 (by decide) fl_X6_45 rfl dX6_hold_94 ?_
            refine q_iload C dX6_hold_97 rfl ?_
            refine q_bipush C dX6_hold_99 (by decide +kernel) ?_
            refine q_cast C (b := 35) (n := 30) rfl (by decide) (by decide) (by omega) (by omega) (show 0 ≤ _ ∧ _ ≤ 65535 from (by omega)) dX6_hold_101 ?_
            refine q_iconst C dX6_hold_102 ?_
            exact q_iretI C dX6_hold_103 (by omega) (by decide) (Or.inr (Or.inl ⟨⟨by omega, by omega, by omega, by omega⟩, rfl, rfl⟩))
          · refine q_iconst C dX6_hold_91 ?_
            exact q_iretI C dX6_hold_92 (by omega) (by decide) (Or.inl ⟨⟨by omega, by omega, by omega⟩, rfl, rfl⟩)
      · refine q_aload_n C 0 dX6_hold_47 rfl rfl ?_
        refine q_iconst C dX6_hold_48 ?_
        refine q_Vi0 C (KX6_fails _ _ (by omega) (by omega)) mX6_fails ml_X6_110 dX6_hold_49 (by decide) (by decide) rfl rfl rfl (Nat.le_of_ble_eq_true rfl) rfl (by decide) rfl rfl (fun v49 g49 l49 u49 h49 => ?_)
        obtain ⟨h49, rfl⟩ := h49
        exact q_iretI C dX6_hold_52 (by omega) (by decide) (Or.inr (Or.inr (Or.inr ⟨⟨by omega, by omega⟩, rfl⟩)))
    · refine q_iload_n C 2 dX6_hold_25 rfl rfl ?_
      refine q_bipush C dX6_hold_26 (by decide +kernel) ?_
      refine q_icmp_ne C 47 dX6_hold_28 (by decide) (by omega) (by omega) (fun c28 => ?_) (fun c28 => ?_)
      · refine q_aload_n C 0 dX6_hold_47 rfl rfl ?_
        refine q_iconst C dX6_hold_48 ?_
        refine q_Vi0 C (KX6_fails _ _ (by omega) (by omega)) mX6_fails ml_X6_110 dX6_hold_49 (by decide) (by decide) rfl rfl rfl (Nat.le_of_ble_eq_true rfl) rfl (by decide) rfl rfl (fun v49 g49 l49 u49 h49 => ?_)
        obtain ⟨h49, rfl⟩ := h49
        exact q_iretI C dX6_hold_52 (by omega) (by decide) (Or.inr (Or.inr (Or.inr ⟨⟨by omega, by omega⟩, rfl⟩)))
      · refine q_iload_n C 3 dX6_hold_31 rfl rfl ?_
        refine q_aload_n C 0 dX6_hold_32 rfl rfl ?_
        refine q_geti C (b := 23) 1 1 0 999 rfl (by decide) rfl in_X6 (by decide) fl_X6_126 rfl rfl rfl dX6_hold_33 (fun v33 e33 l33 u33 => ?_)
        refine q_iconst C dX6_hold_36 ?_
        refine q_iadd C dX6_hold_37 ?_
        refine q_sipush C dX6_hold_38 (by decide +kernel) ?_
        refine q_Sf0 C (KX6_in _ _ (by omega) _ (by omega) _ (by omega)) mX6_in ml_X6_55 dX6_hold_41 (by decide) (by decide) rfl rfl rfl (Nat.le_of_ble_eq_true rfl) (fun v41 l41 u41 h41 => ?_)
        refine q_ifne C 53 dX6_hold_44 (by decide) (by omega) (fun c44 => ?_) (fun c44 => ?_)
        · refine q_aload_n C 0 dX6_hold_53 rfl rfl ?_
          refine q_getr C (b := 23) 7 rfl (by decide) rfl in_X6 (by decide) fl_X6_20 rfl dX6_hold_54 ?_
          refine q_iload_n C 1 dX6_hold_57 rfl rfl ?_
          refine q_iload_n C 2 dX6_hold_58 rfl rfl ?_
          refine q_cast C (b := 27) (n := 20) rfl (by decide) (by decide) (by omega) (by omega) (show 0 ≤ _ ∧ _ ≤ 65535 from (by omega)) dX6_hold_59 ?_
          refine q_aload_n C 0 dX6_hold_60 rfl rfl ?_
          refine q_getr C (b := 23) 8 rfl (by decide) rfl in_X6 (by decide) fl_X6_24 rfl dX6_hold_61 ?_
          refine q_iload_n C 1 dX6_hold_64 rfl rfl ?_
          refine q_iload_n C 3 dX6_hold_65 rfl rfl ?_
          refine q_iast C (b := 28) (n := 20) rfl (by decide) (by decide) (by omega)  (show 0 ≤ _ ∧ _ ≤ 1000 from (by omega)) dX6_hold_66 ?_
          refine q_aload_n C 0 dX6_hold_67 rfl rfl ?_
          refine q_iload_n C 1 dX6_hold_68 rfl rfl ?_
          refine q_Vf0 C (KX6_appointmentIn _ _ (by omega)) mX6_appointmentIn ml_X6_129 dX6_hold_69 (by decide) (by decide) rfl rfl rfl (Nat.le_of_ble_eq_true rfl) rfl (by decide) rfl rfl (fun v69 l69 u69 h69 => ?_)
          have b1 : fstB (bkN (qUp (qUp g0 27 b kd) 28 b ut) b) ((qUp (qUp g0 27 b kd) 28 b ut) 23 13) = fstB (bkN g0 b) (g0 23 13) := by rw [bkN_K (by rw [qUp_row (by decide), qUp_row (by decide)]) (by rw [qUp_row (by decide), qUp_row (by decide)]), qUp_k (by decide), qUp_k (by decide)]
          rw [b1] at h69
          have hbr := fstB_rng (bkN g0 b) (g0 23 13)
          refine q_istoreV C dX6_hold_72 (by decide) (fun v72 e72 => ?_)
          refine q_iload C dX6_hold_74 rfl ?_
          refine q_iconst C dX6_hold_76 ?_
          refine q_icmp_eq C 91 dX6_hold_77 (by decide) (by omega) (by omega) (fun c77 => ?_) (fun c77 => ?_)
          · refine q_iconst C dX6_hold_91 ?_
            exact q_iretI C dX6_hold_92 (by omega) (by decide) (Or.inl ⟨⟨by omega, by omega, by omega⟩, rfl, rfl⟩)
          · refine q_aload_n C 0 dX6_hold_80 rfl rfl ?_
            refine q_getr C (b := 23) 15 rfl (by decide) rfl in_X6 (by decide) fl_X6_39 rfl dX6_hold_81 ?_
            refine q_iload C dX6_hold_84 rfl ?_
            refine q_iald C (b := 33) (n := 30) 0 999 rfl (by decide) (by decide) (by omega) (fun _ => rfl) dX6_hold_86 (fun v86 e86 l86 u86 => ?_)
            rw [qUp_k (by decide), qUp_k (by decide)] at e86
            have q72 : v72 = fstB (bkN g0 b) (g0 23 13) := by omega
            rw [q72] at e86
            refine q_iload_n C 3 dX6_hold_87 rfl rfl ?_
            refine q_icmp_lt C 93 dX6_hold_88 (by decide) (by omega) (by omega) (fun c88 => ?_) (fun c88 => ?_)
            · rw [q72]
              refine q_aload_n C 0 dX6_hold_93 rfl rfl ?_
              refine q_getr C (b := 23) 17 rfl (by decide) rfl in_X6 (by decide) fl_X6_45 rfl dX6_hold_94 ?_
              refine q_iload C dX6_hold_97 rfl ?_
              refine q_bipush C dX6_hold_99 (by decide +kernel) ?_
              refine q_cast C (b := 35) (n := 30) rfl (by decide) (by decide) (by omega) (by omega) (show 0 ≤ _ ∧ _ ≤ 65535 from (by omega)) dX6_hold_101 ?_
              refine q_iconst C dX6_hold_102 ?_
              exact q_iretI C dX6_hold_103 (by omega) (by decide) (Or.inr (Or.inl ⟨⟨by omega, by omega, by omega, by omega⟩, rfl, rfl⟩))
            · refine q_iconst C dX6_hold_91 ?_
              exact q_iretI C dX6_hold_92 (by omega) (by decide) (Or.inl ⟨⟨by omega, by omega, by omega⟩, rfl, rfl⟩)
        · refine q_aload_n C 0 dX6_hold_47 rfl rfl ?_
          refine q_iconst C dX6_hold_48 ?_
          refine q_Vi0 C (KX6_fails _ _ (by omega) (by omega)) mX6_fails ml_X6_110 dX6_hold_49 (by decide) (by decide) rfl rfl rfl (Nat.le_of_ble_eq_true rfl) rfl (by decide) rfl rfl (fun v49 g49 l49 u49 h49 => ?_)
          obtain ⟨h49, rfl⟩ := h49
          exact q_iretI C dX6_hold_52 (by omega) (by decide) (Or.inr (Or.inr (Or.inr ⟨⟨by omega, by omega⟩, rfl⟩)))
  · refine q_aload_n C 0 dX6_hold_13 rfl rfl ?_
    refine q_iconst C dX6_hold_14 ?_
    refine q_Vi0 C (KX6_fails _ _ (by omega) (by omega)) mX6_fails ml_X6_110 dX6_hold_15 (by decide) (by decide) rfl rfl rfl (Nat.le_of_ble_eq_true rfl) rfl (by decide) rfl rfl (fun v15 g15 l15 u15 h15 => ?_)
    obtain ⟨h15, rfl⟩ := h15
    exact q_iretI C dX6_hold_18 (by omega) (by decide) (Or.inr (Or.inr (Or.inl ⟨by omega, rfl⟩)))
set_option maxRecDepth 20000 in
theorem KX6_release (g : qHp) (b : Int) (hb : -2147483648 ≤ b ∧ b < 2147483648)  : qC yX6_release (.code yX6_release cX6_release 2 (some .int)) 2 0 (fun ad => [.ref (ad 23), .int (iI b)]) g (qPi (fun (r : Int) (g' : qHp) => (((0 ≤ b ∧ b < (c0 g) 23 4 ∧ (c0 g) 26 b = 1) ∧ (c0 g) 27 b ≠ 45) ∧ (r = (c0 g) 28 b) ∧ g' = qUp (c0 g) 27 b 45) ∨ ((¬ (0 ≤ b ∧ b < (c0 g) 23 4 ∧ (c0 g) 26 b = 1)) ∧ g' = qUp (c0 g) 23 0 1) ∨ (((0 ≤ b ∧ b < (c0 g) 23 4 ∧ (c0 g) 26 b = 1) ∧ (c0 g) 27 b = 45) ∧ g' = qUp (c0 g) 23 0 2))) qNo := by
  refine q_meth (by decide +kernel) rfl (fun _ => (Nat.le_of_ble_eq_true rfl)) (fun X ω C => ?_)
  refine q_loc [(0, .ref (ω.1 23)), (1, .int (iI b))] ⟨rfl, rfl, trivial⟩ ?_
  refine q_aload_n C 0 dX6_release_0 rfl rfl ?_
  refine q_iconst C dX6_release_1 ?_
  refine q_puti C (b := 23) 0 0 0 4 _ rfl (by decide) rfl in_X6 tyX6_ok nmX6 (by decide) fl_X6_48 rfl (by decide +kernel) rfl rfl rfl rfl (by omega) dX6_release_2 ?_
  refine q_hp (g2 := c0 g) rfl ?_
  generalize c0 g = g0 at *
  refine q_nm (fun hn => ?_)
  have r23_4 : 0 ≤ g0 23 4 ∧ g0 23 4 ≤ 20 := hn 23 4
  refine q_aload_n C 0 dX6_release_5 rfl rfl ?_
  refine q_iload_n C 1 dX6_release_6 rfl rfl ?_
  refine q_Vf0 C (KX6_isBox _ _ (by omega)) mX6_isBox ml_X6_120 dX6_release_7 (by decide) (by decide) rfl rfl rfl (Nat.le_of_ble_eq_true rfl) rfl (by decide) rfl rfl (fun v7 l7 u7 h7 => ?_)
  refine q_ifne C 19 dX6_release_10 (by decide) (by omega) (fun c10 => ?_) (fun c10 => ?_)
  · refine q_aload_n C 0 dX6_release_19 rfl rfl ?_
    refine q_getr C (b := 23) 7 rfl (by decide) rfl in_X6 (by decide) fl_X6_20 rfl dX6_release_20 ?_
    refine q_iload_n C 1 dX6_release_23 rfl rfl ?_
    refine q_cald C (b := 27) (n := 20) 0 65535 rfl (by decide) (by decide) (by omega) (fun _ => rfl) dX6_release_24 (fun v24 e24 l24 u24 => ?_)
    refine q_bipush C dX6_release_25 (by decide +kernel) ?_
    refine q_icmp_ne C 36 dX6_release_27 (by decide) (by omega) (by omega) (fun c27 => ?_) (fun c27 => ?_)
    · refine q_aload_n C 0 dX6_release_36 rfl rfl ?_
      refine q_getr C (b := 23) 7 rfl (by decide) rfl in_X6 (by decide) fl_X6_20 rfl dX6_release_37 ?_
      refine q_iload_n C 1 dX6_release_40 rfl rfl ?_
      refine q_bipush C dX6_release_41 (by decide +kernel) ?_
      refine q_cast C (b := 27) (n := 20) rfl (by decide) (by decide) (by omega) (by omega) (show 0 ≤ _ ∧ _ ≤ 65535 from (by omega)) dX6_release_43 ?_
      refine q_aload_n C 0 dX6_release_44 rfl rfl ?_
      refine q_getr C (b := 23) 8 rfl (by decide) rfl in_X6 (by decide) fl_X6_24 rfl dX6_release_45 ?_
      refine q_iload_n C 1 dX6_release_48 rfl rfl ?_
      refine q_iald C (b := 28) (n := 20) 0 1000 rfl (by decide) (by decide) (by omega) (fun _ => rfl) dX6_release_49 (fun v49 e49 l49 u49 => ?_)
      rw [qUp_k (by decide)] at e49
      exact q_iretI C dX6_release_50 (by omega) (by decide) (Or.inl ⟨⟨by omega, by omega⟩, by omega, rfl⟩)
    · refine q_aload_n C 0 dX6_release_30 rfl rfl ?_
      refine q_iconst C dX6_release_31 ?_
      refine q_Vi0 C (KX6_fails _ _ (by omega) (by omega)) mX6_fails ml_X6_110 dX6_release_32 (by decide) (by decide) rfl rfl rfl (Nat.le_of_ble_eq_true rfl) rfl (by decide) rfl rfl (fun v32 g32 l32 u32 h32 => ?_)
      obtain ⟨h32, rfl⟩ := h32
      first
        | exact q_iretI C dX6_release_35 (by omega) (by decide) (Or.inl (⟨by omega, by omega, rfl⟩))
        | exact q_iretI C dX6_release_35 (by omega) (by decide) (Or.inr (Or.inl (⟨by omega, rfl⟩)))
        | exact q_iretI C dX6_release_35 (by omega) (by decide) (Or.inr (Or.inr (⟨⟨by omega, by omega⟩, rfl⟩)))
  · refine q_aload_n C 0 dX6_release_13 rfl rfl ?_
    refine q_iconst C dX6_release_14 ?_
    refine q_Vi0 C (KX6_fails _ _ (by omega) (by omega)) mX6_fails ml_X6_110 dX6_release_15 (by decide) (by decide) rfl rfl rfl (Nat.le_of_ble_eq_true rfl) rfl (by decide) rfl rfl (fun v15 g15 l15 u15 h15 => ?_)
    obtain ⟨h15, rfl⟩ := h15
    first
      | exact q_iretI C dX6_release_18 (by omega) (by decide) (Or.inl (⟨by omega, by omega, rfl⟩))
      | exact q_iretI C dX6_release_18 (by omega) (by decide) (Or.inr (Or.inl (⟨by omega, rfl⟩)))
      | exact q_iretI C dX6_release_18 (by omega) (by decide) (Or.inr (Or.inr (⟨⟨by omega, by omega⟩, rfl⟩)))
set_option maxRecDepth 20000 in
theorem KX6_move (g : qHp) (b : Int) (hb : -2147483648 ≤ b ∧ b < 2147483648) (s : Int) (hs : -2147483648 ≤ s ∧ s < 2147483648) (o : yK (c0 g) 0) (hio : insN (c0 g) (stM (c0 g) 0)) : qC yX6_move (.code yX6_move cX6_move 3 (some .int)) 3 0 (fun ad => [.ref (ad 23), .int (iI b), .int (iI s)]) g (qPi (fun (r : Int) (g' : qHp) => ((((0 ≤ b ∧ b < (c0 g) 23 4 ∧ (c0 g) 26 b = 1) ∧ (0 ≤ s ∧ s < (c0 g) 23 2)) ∧ okN (c0 g) (stM (c0 g) 0) (soS (stM (c0 g) 0) b) s b) ∧ (r = w32 ((mvM (c0 g) 0 (soS (stM (c0 g) 0) b) s b) 23 12 + 1)) ∧ g' = (qUp (mvM (c0 g) 0 (soS (stM (c0 g) 0) b) s b) 23 12 (w32 ((mvM (c0 g) 0 (soS (stM (c0 g) 0) b) s b) 23 12 + 1)))) ∨ ((¬ ((0 ≤ b ∧ b < (c0 g) 23 4 ∧ (c0 g) 26 b = 1) ∧ (0 ≤ s ∧ s < (c0 g) 23 2))) ∧ g' = qUp (c0 g) 23 0 1) ∨ ((((0 ≤ b ∧ b < (c0 g) 23 4 ∧ (c0 g) 26 b = 1) ∧ (0 ≤ s ∧ s < (c0 g) 23 2)) ∧ ¬ okN (c0 g) (stM (c0 g) 0) (soS (stM (c0 g) 0) b) s b) ∧ g' = qUp (c0 g) 23 0 2))) qNo := by
  refine q_meth (by decide +kernel) rfl (fun _ => (Nat.le_of_ble_eq_true rfl)) (fun X ω C => ?_)
  refine q_loc [(0, .ref (ω.1 23)), (1, .int (iI b)), (2, .int (iI s))] ⟨rfl, rfl, rfl, trivial⟩ ?_
  refine q_aload_n C 0 dX6_move_0 rfl rfl ?_
  refine q_iconst C dX6_move_1 ?_
  refine q_puti C (b := 23) 0 0 0 4 _ rfl (by decide) rfl in_X6 tyX6_ok nmX6 (by decide) fl_X6_48 rfl (by decide +kernel) rfl rfl rfl rfl (by omega) dX6_move_2 ?_
  refine q_hp (g2 := c0 g) rfl ?_
  generalize c0 g = g0 at *
  refine q_nm (fun hn => ?_)
  have r23_4 : 0 ≤ g0 23 4 ∧ g0 23 4 ≤ 20 := hn 23 4
  have r23_2 : 0 ≤ g0 23 2 ∧ g0 23 2 ≤ 4 := hn 23 2
  refine q_aload_n C 0 dX6_move_5 rfl rfl ?_
  refine q_iload_n C 1 dX6_move_6 rfl rfl ?_
  refine q_Vf0 C (KX6_isBox _ _ (by omega)) mX6_isBox ml_X6_120 dX6_move_7 (by decide) (by decide) rfl rfl rfl (Nat.le_of_ble_eq_true rfl) rfl (by decide) rfl rfl (fun v7 l7 u7 h7 => ?_)
  refine q_ifeq C 21 dX6_move_10 (by decide) (by omega) (fun c10 => ?_) (fun c10 => ?_)
  · refine q_aload_n C 0 dX6_move_21 rfl rfl ?_
    refine q_iconst C dX6_move_22 ?_
    refine q_Vi0 C (KX6_fails _ _ (by omega) (by omega)) mX6_fails ml_X6_110 dX6_move_23 (by decide) (by decide) rfl rfl rfl (Nat.le_of_ble_eq_true rfl) rfl (by decide) rfl rfl (fun v23 g23 l23 u23 h23 => ?_)
    obtain ⟨h23, rfl⟩ := h23
    first
      | exact q_iretI C dX6_move_26 (by omega) (by decide) (Or.inl (⟨by omega, by omega, rfl⟩))
      | exact q_iretI C dX6_move_26 (by omega) (by decide) (Or.inr (Or.inl (⟨by omega, rfl⟩)))
      | exact q_iretI C dX6_move_26 (by omega) (by decide) (Or.inr (Or.inr (⟨⟨by omega, by rcases h31 with ⟨z1, z2⟩ | ⟨z1, z2⟩; (· omega); (· exact z1)⟩, rfl⟩)))
  · refine q_aload_n C 0 dX6_move_13 rfl rfl ?_
    refine q_iload_n C 2 dX6_move_14 rfl rfl ?_
    refine q_Vf0 C (KX6_isStack _ _ (by omega)) mX6_isStack ml_X6_113 dX6_move_15 (by decide) (by decide) rfl rfl rfl (Nat.le_of_ble_eq_true rfl) rfl (by decide) rfl rfl (fun v15 l15 u15 h15 => ?_)
    refine q_ifne C 27 dX6_move_18 (by decide) (by omega) (fun c18 => ?_) (fun c18 => ?_)
    · refine q_aload_n C 0 dX6_move_27 rfl rfl ?_
      refine q_iconst C dX6_move_28 ?_
      refine q_iload_n C 1 dX6_move_29 rfl rfl ?_
      refine q_iload_n C 2 dX6_move_30 rfl rfl ?_
      refine q_Vf0 C (KX6_canMove _ _ (by omega) _ (by omega) _ (by omega) (by omega) o (by omega) ((hio _).mpr (by omega)) (fun x hx => ((hio x).mp hx).2.1)) mX6_canMove ml_X6_84 dX6_move_31 (by decide) (by decide) rfl rfl rfl (Nat.le_of_ble_eq_true rfl) rfl (by decide) rfl rfl (fun v31 l31 u31 h31 => ?_)
      refine q_ifne C 43 dX6_move_34 (by decide) (by omega) (fun c34 => ?_) (fun c34 => ?_)
      · have ok1 : okN g0 (stM g0 0) (soS (stM g0 0) b) s b := by
          rcases h31 with ⟨z1, z2⟩ | ⟨z1, z2⟩
          · exact z1
          · omega
        refine q_aload_n C 0 dX6_move_43 rfl rfl ?_
        refine q_iconst C dX6_move_44 ?_
        refine q_iload_n C 1 dX6_move_45 rfl rfl ?_
        refine q_iload_n C 2 dX6_move_46 rfl rfl ?_
        refine q_Vv0 C (KX6_moves _ _ (by omega) _ (by omega) _ (by omega) (by omega) o _ _ ok1) mX6_moves ml_X6_95 dX6_move_47 (by decide) (by decide) rfl rfl rfl (Nat.le_of_ble_eq_true rfl) rfl (by decide) rfl rfl ?_
        refine q_aload_n C 0 dX6_move_50 rfl rfl ?_
        refine q_dup C dX6_move_51 rfl ?_
        refine q_geti C (b := 23) 12 12 (-2147483648) 2147483647 rfl (by decide) rfl in_X6 (by decide) fl_X6_108 rfl rfl rfl dX6_move_52 (fun v52 e52 l52 u52 => ?_)
        refine q_iconst C dX6_move_55 ?_
        refine q_iadd C dX6_move_56 ?_
        refine q_puti C (b := 23) 12 12 (-2147483648) 2147483647 (w32 ((mvM g0 0 (soS (stM g0 0) b) s b) 23 12 + 1)) rfl (by decide) rfl in_X6 tyX6_ok nmX6 (by decide) fl_X6_108 rfl (by decide +kernel) rfl rfl rfl (by rw [e52]; exact w32_iI _) (w32_rng _) dX6_move_57 ?_
        refine q_aload_n C 0 dX6_move_60 rfl rfl ?_
        refine q_geti C (b := 23) 12 12 (-2147483648) 2147483647 rfl (by decide) rfl in_X6 (by decide) fl_X6_108 rfl rfl rfl dX6_move_61 (fun v61 e61 l61 u61 => ?_)
        rw [qUp_s] at e61
        exact q_iretI C dX6_move_64 (by omega) (by decide) (Or.inl ⟨⟨⟨by omega, by omega⟩, ok1⟩, e61, rfl⟩)
      · refine q_aload_n C 0 dX6_move_37 rfl rfl ?_
        refine q_iconst C dX6_move_38 ?_
        refine q_Vi0 C (KX6_fails _ _ (by omega) (by omega)) mX6_fails ml_X6_110 dX6_move_39 (by decide) (by decide) rfl rfl rfl (Nat.le_of_ble_eq_true rfl) rfl (by decide) rfl rfl (fun v39 g39 l39 u39 h39 => ?_)
        obtain ⟨h39, rfl⟩ := h39
        first
          | exact q_iretI C dX6_move_42 (by omega) (by decide) (Or.inl (⟨by omega, by omega, rfl⟩))
          | exact q_iretI C dX6_move_42 (by omega) (by decide) (Or.inr (Or.inl (⟨by omega, rfl⟩)))
          | exact q_iretI C dX6_move_42 (by omega) (by decide) (Or.inr (Or.inr (⟨⟨by omega, by rcases h31 with ⟨z1, z2⟩ | ⟨z1, z2⟩; (· omega); (· exact z1)⟩, rfl⟩)))
    · refine q_aload_n C 0 dX6_move_21 rfl rfl ?_
      refine q_iconst C dX6_move_22 ?_
      refine q_Vi0 C (KX6_fails _ _ (by omega) (by omega)) mX6_fails ml_X6_110 dX6_move_23 (by decide) (by decide) rfl rfl rfl (Nat.le_of_ble_eq_true rfl) rfl (by decide) rfl rfl (fun v23 g23 l23 u23 h23 => ?_)
      obtain ⟨h23, rfl⟩ := h23
      first
        | exact q_iretI C dX6_move_26 (by omega) (by decide) (Or.inl (⟨by omega, by omega, rfl⟩))
        | exact q_iretI C dX6_move_26 (by omega) (by decide) (Or.inr (Or.inl (⟨by omega, rfl⟩)))
        | exact q_iretI C dX6_move_26 (by omega) (by decide) (Or.inr (Or.inr (⟨⟨by omega, by rcases h31 with ⟨z1, z2⟩ | ⟨z1, z2⟩; (· omega); (· exact z1)⟩, rfl⟩)))
set_option maxRecDepth 20000 in
theorem KX6_book (g : qHp) (b : Int) (hb : -2147483648 ≤ b ∧ b < 2147483648) (h : Int) (hh : -2147483648 ≤ h ∧ h < 2147483648) (l : Int) (hl : -2147483648 ≤ l ∧ l < 2147483648)  : qC yX6_book (.code yX6_book cX6_book 4 (some .int)) 2 0 (fun ad => [.ref (ad 23), .int (iI b), .int (iI h), .int (iI l)]) g (qPi (fun (r : Int) (g' : qHp) => ((((0 ≤ b ∧ b < (c0 g) 23 4 ∧ (c0 g) 26 b = 1) ∧ (0 ≤ l ∧ l ≤ 2)) ∧ ((c0 g) 23 1 < h ∧ h ≤ 999) ∧ ¬ hl2 (c0 g) b h ∧ (fstB (bkN (c0 g) b) ((c0 g) 23 13) = -1 ∧ fstB (bkO (c0 g) l h) ((c0 g) 23 13) = -1 ∧ (c0 g) 23 13 ≠ 30)) ∧ (r = (c0 g) 23 13) ∧ g' = bkM (c0 g) b h l) ∨ ((¬ ((0 ≤ b ∧ b < (c0 g) 23 4 ∧ (c0 g) 26 b = 1) ∧ (0 ≤ l ∧ l ≤ 2))) ∧ g' = qUp (c0 g) 23 0 1) ∨ ((((0 ≤ b ∧ b < (c0 g) 23 4 ∧ (c0 g) 26 b = 1) ∧ (0 ≤ l ∧ l ≤ 2)) ∧ ¬ ((c0 g) 23 1 < h ∧ h ≤ 999)) ∧ g' = qUp (c0 g) 23 0 2) ∨ ((((0 ≤ b ∧ b < (c0 g) 23 4 ∧ (c0 g) 26 b = 1) ∧ (0 ≤ l ∧ l ≤ 2)) ∧ ((c0 g) 23 1 < h ∧ h ≤ 999) ∧ hl2 (c0 g) b h) ∧ g' = qUp (c0 g) 23 0 3) ∨ ((((0 ≤ b ∧ b < (c0 g) 23 4 ∧ (c0 g) 26 b = 1) ∧ (0 ≤ l ∧ l ≤ 2)) ∧ ((c0 g) 23 1 < h ∧ h ≤ 999) ∧ ¬ hl2 (c0 g) b h ∧ ¬ (fstB (bkN (c0 g) b) ((c0 g) 23 13) = -1 ∧ fstB (bkO (c0 g) l h) ((c0 g) 23 13) = -1 ∧ (c0 g) 23 13 ≠ 30)) ∧ g' = qUp (c0 g) 23 0 4))) qNo := by
  refine q_meth (by decide +kernel) rfl (fun _ => (Nat.le_of_ble_eq_true rfl)) (fun X ω C => ?_)
  refine q_loc [(0, .ref (ω.1 23)), (1, .int (iI b)), (2, .int (iI h)), (3, .int (iI l))] ⟨rfl, rfl, rfl, rfl, trivial⟩ ?_
  refine q_aload_n C 0 dX6_book_0 rfl rfl ?_
  refine q_iconst C dX6_book_1 ?_
  refine q_puti C (b := 23) 0 0 0 4 _ rfl (by decide) rfl in_X6 tyX6_ok nmX6 (by decide) fl_X6_48 rfl (by decide +kernel) rfl rfl rfl rfl (by omega) dX6_book_2 ?_
  refine q_hp (g2 := c0 g) rfl ?_
  generalize c0 g = g0 at *
  refine q_nm (fun hn => ?_)
  have r23_4 : 0 ≤ g0 23 4 ∧ g0 23 4 ≤ 20 := hn 23 4
  have r23_1 : 0 ≤ g0 23 1 ∧ g0 23 1 ≤ 999 := hn 23 1
  have r23_13 : 0 ≤ g0 23 13 ∧ g0 23 13 ≤ 30 := hn 23 13
  refine q_aload_n C 0 dX6_book_5 rfl rfl ?_
  refine q_iload_n C 1 dX6_book_6 rfl rfl ?_
  refine q_Vf0 C (KX6_isBox _ _ (by omega)) mX6_isBox ml_X6_120 dX6_book_7 (by decide) (by decide) rfl rfl rfl (Nat.le_of_ble_eq_true rfl) rfl (by decide) rfl rfl (fun v7 l7 u7 h7 => ?_)
  refine q_ifeq C 22 dX6_book_10 (by decide) (by omega) (fun c10 => ?_) (fun c10 => ?_)
  · refine q_aload_n C 0 dX6_book_22 rfl rfl ?_
    refine q_iconst C dX6_book_23 ?_
    refine q_Vi0 C (KX6_fails _ _ (by omega) (by omega)) mX6_fails ml_X6_110 dX6_book_24 (by decide) (by decide) rfl rfl rfl (Nat.le_of_ble_eq_true rfl) rfl (by decide) rfl rfl (fun v24 g24 l24 u24 h24 => ?_)
    obtain ⟨h24, rfl⟩ := h24
    first
      | exact q_iretI C dX6_book_27 (by omega) (by decide) (Or.inl (⟨by omega, by omega, rfl⟩))
      | exact q_iretI C dX6_book_27 (by omega) (by decide) (Or.inr (Or.inl (⟨by omega, rfl⟩)))
      | exact q_iretI C dX6_book_27 (by omega) (by decide) (Or.inr (Or.inr (Or.inl (⟨⟨by omega, by omega⟩, rfl⟩))))
      | exact q_iretI C dX6_book_27 (by omega) (by decide) (Or.inr (Or.inr (Or.inr (Or.inl (⟨⟨by omega, by omega, by omega⟩, rfl⟩)))))
      | exact q_iretI C dX6_book_27 (by omega) (by decide) (Or.inr (Or.inr (Or.inr (Or.inr (⟨⟨by omega, by omega, by omega, by omega⟩, rfl⟩)))))
  · refine q_iload_n C 3 dX6_book_13 rfl rfl ?_
    refine q_iconst C dX6_book_14 ?_
    refine q_iconst C dX6_book_15 ?_
    refine q_Sf0 C (KX6_in _ _ (by omega) _ (by omega) _ (by omega)) mX6_in ml_X6_55 dX6_book_16 (by decide) (by decide) rfl rfl rfl (Nat.le_of_ble_eq_true rfl) (fun v16 l16 u16 h16 => ?_)
    refine q_ifne C 28 dX6_book_19 (by decide) (by omega) (fun c19 => ?_) (fun c19 => ?_)
    · refine q_iload_n C 2 dX6_book_28 rfl rfl ?_
      refine q_aload_n C 0 dX6_book_29 rfl rfl ?_
      refine q_geti C (b := 23) 1 1 0 999 rfl (by decide) rfl in_X6 (by decide) fl_X6_126 rfl rfl rfl dX6_book_30 (fun v30 e30 l30 u30 => ?_)
      refine q_iconst C dX6_book_33 ?_
      refine q_iadd C dX6_book_34 ?_
      refine q_sipush C dX6_book_35 (by decide +kernel) ?_
      refine q_Sf0 C (KX6_in _ _ (by omega) _ (by omega) _ (by omega)) mX6_in ml_X6_55 dX6_book_38 (by decide) (by decide) rfl rfl rfl (Nat.le_of_ble_eq_true rfl) (fun v38 l38 u38 h38 => ?_)
      refine q_ifne C 50 dX6_book_41 (by decide) (by omega) (fun c41 => ?_) (fun c41 => ?_)
      · refine q_aload_n C 0 dX6_book_50 rfl rfl ?_
        refine q_iload_n C 1 dX6_book_51 rfl rfl ?_
        refine q_iload_n C 2 dX6_book_52 rfl rfl ?_
        refine q_Vf0 C (KX6_isHeldIn _ _ (by omega) _ (by omega) (by omega)) mX6_isHeldIn ml_X6_145 dX6_book_53 (by decide) (by decide) rfl rfl rfl (Nat.le_of_ble_eq_true rfl) rfl (by decide) rfl rfl (fun v53 l53 u53 h53 => ?_)
        refine q_ifeq C 65 dX6_book_56 (by decide) (by omega) (fun c56 => ?_) (fun c56 => ?_)
        · refine q_aload_n C 0 dX6_book_65 rfl rfl ?_
          refine q_iload_n C 1 dX6_book_66 rfl rfl ?_
          refine q_Vf0 C (KX6_appointmentIn _ _ (by omega)) mX6_appointmentIn ml_X6_129 dX6_book_67 (by decide) (by decide) rfl rfl rfl (Nat.le_of_ble_eq_true rfl) rfl (by decide) rfl rfl (fun v67 l67 u67 h67 => ?_)
          refine q_iconst C dX6_book_70 ?_
          refine q_icmp_ne C 93 dX6_book_71 (by decide) (by omega) (by omega) (fun c71 => ?_) (fun c71 => ?_)
          · refine q_aload_n C 0 dX6_book_93 rfl rfl ?_
            refine q_iconst C dX6_book_94 ?_
            refine q_Vi0 C (KX6_fails _ _ (by omega) (by omega)) mX6_fails ml_X6_110 dX6_book_95 (by decide) (by decide) rfl rfl rfl (Nat.le_of_ble_eq_true rfl) rfl (by decide) rfl rfl (fun v95 g95 l95 u95 h95 => ?_)
            obtain ⟨h95, rfl⟩ := h95
            first
              | exact q_iretI C dX6_book_98 (by omega) (by decide) (Or.inl (⟨by omega, by omega, rfl⟩))
              | exact q_iretI C dX6_book_98 (by omega) (by decide) (Or.inr (Or.inl (⟨by omega, rfl⟩)))
              | exact q_iretI C dX6_book_98 (by omega) (by decide) (Or.inr (Or.inr (Or.inl (⟨⟨by omega, by omega⟩, rfl⟩))))
              | exact q_iretI C dX6_book_98 (by omega) (by decide) (Or.inr (Or.inr (Or.inr (Or.inl (⟨⟨by omega, by omega, by omega⟩, rfl⟩)))))
              | exact q_iretI C dX6_book_98 (by omega) (by decide) (Or.inr (Or.inr (Or.inr (Or.inr (⟨⟨by omega, by omega, by omega, by omega⟩, rfl⟩)))))
          · refine q_aload_n C 0 dX6_book_74 rfl rfl ?_
            refine q_iload_n C 3 dX6_book_75 rfl rfl ?_
            refine q_iload_n C 2 dX6_book_76 rfl rfl ?_
            refine q_Vf0 C (KX6_bookedIn _ _ (by omega) _ (by omega)) mX6_bookedIn ml_X6_148 dX6_book_77 (by decide) (by decide) rfl rfl rfl (Nat.le_of_ble_eq_true rfl) rfl (by decide) rfl rfl (fun v77 l77 u77 h77 => ?_)
            refine q_iconst C dX6_book_80 ?_
            refine q_icmp_ne C 93 dX6_book_81 (by decide) (by omega) (by omega) (fun c81 => ?_) (fun c81 => ?_)
            · refine q_aload_n C 0 dX6_book_93 rfl rfl ?_
              refine q_iconst C dX6_book_94 ?_
              refine q_Vi0 C (KX6_fails _ _ (by omega) (by omega)) mX6_fails ml_X6_110 dX6_book_95 (by decide) (by decide) rfl rfl rfl (Nat.le_of_ble_eq_true rfl) rfl (by decide) rfl rfl (fun v95 g95 l95 u95 h95 => ?_)
              obtain ⟨h95, rfl⟩ := h95
              first
                | exact q_iretI C dX6_book_98 (by omega) (by decide) (Or.inl (⟨by omega, by omega, rfl⟩))
                | exact q_iretI C dX6_book_98 (by omega) (by decide) (Or.inr (Or.inl (⟨by omega, rfl⟩)))
                | exact q_iretI C dX6_book_98 (by omega) (by decide) (Or.inr (Or.inr (Or.inl (⟨⟨by omega, by omega⟩, rfl⟩))))
                | exact q_iretI C dX6_book_98 (by omega) (by decide) (Or.inr (Or.inr (Or.inr (Or.inl (⟨⟨by omega, by omega, by omega⟩, rfl⟩)))))
                | exact q_iretI C dX6_book_98 (by omega) (by decide) (Or.inr (Or.inr (Or.inr (Or.inr (⟨⟨by omega, by omega, by omega, by omega⟩, rfl⟩)))))
            · refine q_aload_n C 0 dX6_book_84 rfl rfl ?_
              refine q_geti C (b := 23) 13 13 0 30 rfl (by decide) rfl in_X6 (by decide) fl_X6_123 rfl rfl rfl dX6_book_85 (fun v85 e85 l85 u85 => ?_)
              refine q_bipush C dX6_book_88 (by decide +kernel) ?_
              refine q_icmp_ne C 99 dX6_book_90 (by decide) (by omega) (by omega) (fun c90 => ?_) (fun c90 => ?_)
              · refine q_aload_n C 0 dX6_book_99 rfl rfl ?_
                refine q_getr C (b := 23) 14 rfl (by decide) rfl in_X6 (by decide) fl_X6_36 rfl dX6_book_100 ?_
                refine q_aload_n C 0 dX6_book_103 rfl rfl ?_
                refine q_geti C (b := 23) 13 13 0 30 rfl (by decide) rfl in_X6 (by decide) fl_X6_123 rfl rfl rfl dX6_book_104 (fun v104 e104 l104 u104 => ?_)
                have q104 : v85 = v104 := by
                  rw [e85, e104]
                  repeat rw [qUp_k (by decide)]
                subst q104
                refine q_iload_n C 1 dX6_book_107 rfl rfl ?_
                refine q_iast C (b := 32) (n := 30) rfl (by decide) (by decide) (by omega)  (show 0 ≤ _ ∧ _ ≤ 19 from (by omega)) dX6_book_108 ?_
                refine q_aload_n C 0 dX6_book_109 rfl rfl ?_
                refine q_getr C (b := 23) 15 rfl (by decide) rfl in_X6 (by decide) fl_X6_39 rfl dX6_book_110 ?_
                refine q_aload_n C 0 dX6_book_113 rfl rfl ?_
                refine q_geti C (b := 23) 13 13 0 30 rfl (by decide) rfl in_X6 (by decide) fl_X6_123 rfl rfl rfl dX6_book_114 (fun v114 e114 l114 u114 => ?_)
                have q114 : v85 = v114 := by
                  rw [e85, e114]
                  repeat rw [qUp_k (by decide)]
                subst q114
                refine q_iload_n C 2 dX6_book_117 rfl rfl ?_
                refine q_iast C (b := 33) (n := 30) rfl (by decide) (by decide) (by omega)  (show 0 ≤ _ ∧ _ ≤ 999 from (by omega)) dX6_book_118 ?_
                refine q_aload_n C 0 dX6_book_119 rfl rfl ?_
                refine q_getr C (b := 23) 16 rfl (by decide) rfl in_X6 (by decide) fl_X6_42 rfl dX6_book_120 ?_
                refine q_aload_n C 0 dX6_book_123 rfl rfl ?_
                refine q_geti C (b := 23) 13 13 0 30 rfl (by decide) rfl in_X6 (by decide) fl_X6_123 rfl rfl rfl dX6_book_124 (fun v124 e124 l124 u124 => ?_)
                have q124 : v85 = v124 := by
                  rw [e85, e124]
                  repeat rw [qUp_k (by decide)]
                subst q124
                refine q_iload_n C 3 dX6_book_127 rfl rfl ?_
                refine q_iast C (b := 34) (n := 30) rfl (by decide) (by decide) (by omega)  (show 0 ≤ _ ∧ _ ≤ 2 from (by omega)) dX6_book_128 ?_
                refine q_aload_n C 0 dX6_book_129 rfl rfl ?_
                refine q_getr C (b := 23) 17 rfl (by decide) rfl in_X6 (by decide) fl_X6_45 rfl dX6_book_130 ?_
                refine q_aload_n C 0 dX6_book_133 rfl rfl ?_
                refine q_geti C (b := 23) 13 13 0 30 rfl (by decide) rfl in_X6 (by decide) fl_X6_123 rfl rfl rfl dX6_book_134 (fun v134 e134 l134 u134 => ?_)
                have q134 : v85 = v134 := by
                  rw [e85, e134]
                  repeat rw [qUp_k (by decide)]
                subst q134
                refine q_bipush C dX6_book_137 (by decide +kernel) ?_
                refine q_cast C (b := 35) (n := 30) rfl (by decide) (by decide) (by omega) (by omega) (show 0 ≤ _ ∧ _ ≤ 65535 from (by omega)) dX6_book_139 ?_
                refine q_aload_n C 0 dX6_book_140 rfl rfl ?_
                refine q_dup C dX6_book_141 rfl ?_
                refine q_geti C (b := 23) 13 13 0 30 rfl (by decide) rfl in_X6 (by decide) fl_X6_123 rfl rfl rfl dX6_book_142 (fun v142 e142 l142 u142 => ?_)
                have q142 : v85 = v142 := by
                  rw [e85, e142]
                  repeat rw [qUp_k (by decide)]
                subst q142
                refine q_iconst C dX6_book_145 ?_
                refine q_iadd C dX6_book_146 ?_
                refine q_puti C (b := 23) 13 13 0 30 _ rfl (by decide) rfl in_X6 tyX6_ok nmX6 (by decide) fl_X6_123 rfl (by decide +kernel) rfl rfl rfl rfl (by omega) dX6_book_147 ?_
                refine q_aload_n C 0 dX6_book_150 rfl rfl ?_
                refine q_geti C (b := 23) 13 13 0 30 rfl (by decide) rfl in_X6 (by decide) fl_X6_123 rfl rfl rfl dX6_book_151 (fun v151 e151 l151 u151 => ?_)
                refine q_iconst C dX6_book_154 ?_
                refine q_isub C dX6_book_155 ?_
                rw [qUp_s] at e151
                refine q_iretI C dX6_book_156 (by omega) (by decide) (Or.inl ⟨⟨by omega, by omega, by omega, by omega⟩, by omega, ?_⟩)
                unfold bkM
                rw [← e85]
              · refine q_aload_n C 0 dX6_book_93 rfl rfl ?_
                refine q_iconst C dX6_book_94 ?_
                refine q_Vi0 C (KX6_fails _ _ (by omega) (by omega)) mX6_fails ml_X6_110 dX6_book_95 (by decide) (by decide) rfl rfl rfl (Nat.le_of_ble_eq_true rfl) rfl (by decide) rfl rfl (fun v95 g95 l95 u95 h95 => ?_)
                obtain ⟨h95, rfl⟩ := h95
                first
                  | exact q_iretI C dX6_book_98 (by omega) (by decide) (Or.inl (⟨by omega, by omega, rfl⟩))
                  | exact q_iretI C dX6_book_98 (by omega) (by decide) (Or.inr (Or.inl (⟨by omega, rfl⟩)))
                  | exact q_iretI C dX6_book_98 (by omega) (by decide) (Or.inr (Or.inr (Or.inl (⟨⟨by omega, by omega⟩, rfl⟩))))
                  | exact q_iretI C dX6_book_98 (by omega) (by decide) (Or.inr (Or.inr (Or.inr (Or.inl (⟨⟨by omega, by omega, by omega⟩, rfl⟩)))))
                  | exact q_iretI C dX6_book_98 (by omega) (by decide) (Or.inr (Or.inr (Or.inr (Or.inr (⟨⟨by omega, by omega, by omega, by omega⟩, rfl⟩)))))
        · refine q_aload_n C 0 dX6_book_59 rfl rfl ?_
          refine q_iconst C dX6_book_60 ?_
          refine q_Vi0 C (KX6_fails _ _ (by omega) (by omega)) mX6_fails ml_X6_110 dX6_book_61 (by decide) (by decide) rfl rfl rfl (Nat.le_of_ble_eq_true rfl) rfl (by decide) rfl rfl (fun v61 g61 l61 u61 h61 => ?_)
          obtain ⟨h61, rfl⟩ := h61
          first
            | exact q_iretI C dX6_book_64 (by omega) (by decide) (Or.inl (⟨by omega, by omega, rfl⟩))
            | exact q_iretI C dX6_book_64 (by omega) (by decide) (Or.inr (Or.inl (⟨by omega, rfl⟩)))
            | exact q_iretI C dX6_book_64 (by omega) (by decide) (Or.inr (Or.inr (Or.inl (⟨⟨by omega, by omega⟩, rfl⟩))))
            | exact q_iretI C dX6_book_64 (by omega) (by decide) (Or.inr (Or.inr (Or.inr (Or.inl (⟨⟨by omega, by omega, by omega⟩, rfl⟩)))))
            | exact q_iretI C dX6_book_64 (by omega) (by decide) (Or.inr (Or.inr (Or.inr (Or.inr (⟨⟨by omega, by omega, by omega, by omega⟩, rfl⟩)))))
      · refine q_aload_n C 0 dX6_book_44 rfl rfl ?_
        refine q_iconst C dX6_book_45 ?_
        refine q_Vi0 C (KX6_fails _ _ (by omega) (by omega)) mX6_fails ml_X6_110 dX6_book_46 (by decide) (by decide) rfl rfl rfl (Nat.le_of_ble_eq_true rfl) rfl (by decide) rfl rfl (fun v46 g46 l46 u46 h46 => ?_)
        obtain ⟨h46, rfl⟩ := h46
        first
          | exact q_iretI C dX6_book_49 (by omega) (by decide) (Or.inl (⟨by omega, by omega, rfl⟩))
          | exact q_iretI C dX6_book_49 (by omega) (by decide) (Or.inr (Or.inl (⟨by omega, rfl⟩)))
          | exact q_iretI C dX6_book_49 (by omega) (by decide) (Or.inr (Or.inr (Or.inl (⟨⟨by omega, by omega⟩, rfl⟩))))
          | exact q_iretI C dX6_book_49 (by omega) (by decide) (Or.inr (Or.inr (Or.inr (Or.inl (⟨⟨by omega, by omega, by omega⟩, rfl⟩)))))
          | exact q_iretI C dX6_book_49 (by omega) (by decide) (Or.inr (Or.inr (Or.inr (Or.inr (⟨⟨by omega, by omega, by omega, by omega⟩, rfl⟩)))))
    · refine q_aload_n C 0 dX6_book_22 rfl rfl ?_
      refine q_iconst C dX6_book_23 ?_
      refine q_Vi0 C (KX6_fails _ _ (by omega) (by omega)) mX6_fails ml_X6_110 dX6_book_24 (by decide) (by decide) rfl rfl rfl (Nat.le_of_ble_eq_true rfl) rfl (by decide) rfl rfl (fun v24 g24 l24 u24 h24 => ?_)
      obtain ⟨h24, rfl⟩ := h24
      first
        | exact q_iretI C dX6_book_27 (by omega) (by decide) (Or.inl (⟨by omega, by omega, rfl⟩))
        | exact q_iretI C dX6_book_27 (by omega) (by decide) (Or.inr (Or.inl (⟨by omega, rfl⟩)))
        | exact q_iretI C dX6_book_27 (by omega) (by decide) (Or.inr (Or.inr (Or.inl (⟨⟨by omega, by omega⟩, rfl⟩))))
        | exact q_iretI C dX6_book_27 (by omega) (by decide) (Or.inr (Or.inr (Or.inr (Or.inl (⟨⟨by omega, by omega, by omega⟩, rfl⟩)))))
        | exact q_iretI C dX6_book_27 (by omega) (by decide) (Or.inr (Or.inr (Or.inr (Or.inr (⟨⟨by omega, by omega, by omega, by omega⟩, rfl⟩)))))
set_option maxRecDepth 20000 in
theorem KX6_cancel (g : qHp) (a : Int) (ha : -2147483648 ≤ a ∧ a < 2147483648)  : qC yX6_cancel (.code yX6_cancel cX6_cancel 2 (some .int)) 1 0 (fun ad => [.ref (ad 23), .int (iI a)]) g (qPi (fun (r : Int) (g' : qHp) => (((0 ≤ a ∧ a < (c0 g) 23 13) ∧ (c0 g) 35 a = 98) ∧ (r = cntI (stO (qUp (c0 g) 35 a 99) 98) ((c0 g) 23 13).toNat) ∧ g' = qUp (c0 g) 35 a 99) ∨ ((¬ (0 ≤ a ∧ a < (c0 g) 23 13)) ∧ g' = qUp (c0 g) 23 0 1) ∨ (((0 ≤ a ∧ a < (c0 g) 23 13) ∧ (c0 g) 35 a ≠ 98) ∧ g' = qUp (c0 g) 23 0 2))) qNo := by
  refine q_meth (by decide +kernel) rfl (fun _ => (Nat.le_of_ble_eq_true rfl)) (fun X ω C => ?_)
  refine q_loc [(0, .ref (ω.1 23)), (1, .int (iI a))] ⟨rfl, rfl, trivial⟩ ?_
  refine q_aload_n C 0 dX6_cancel_0 rfl rfl ?_
  refine q_iconst C dX6_cancel_1 ?_
  refine q_puti C (b := 23) 0 0 0 4 _ rfl (by decide) rfl in_X6 tyX6_ok nmX6 (by decide) fl_X6_48 rfl (by decide +kernel) rfl rfl rfl rfl (by omega) dX6_cancel_2 ?_
  refine q_hp (g2 := c0 g) rfl ?_
  generalize c0 g = g0 at *
  refine q_nm (fun hn => ?_)
  have r23_13 : 0 ≤ g0 23 13 ∧ g0 23 13 ≤ 30 := hn 23 13
  refine q_iload_n C 1 dX6_cancel_5 rfl rfl ?_
  refine q_iconst C dX6_cancel_6 ?_
  refine q_aload_n C 0 dX6_cancel_7 rfl rfl ?_
  refine q_geti C (b := 23) 13 13 0 30 rfl (by decide) rfl in_X6 (by decide) fl_X6_123 rfl rfl rfl dX6_cancel_8 (fun v8 e8 l8 u8 => ?_)
  refine q_iconst C dX6_cancel_11 ?_
  refine q_isub C dX6_cancel_12 ?_
  refine q_Sf0 C (KX6_in _ _ (by omega) _ (by omega) _ (by omega)) mX6_in ml_X6_55 dX6_cancel_13 (by decide) (by decide) rfl rfl rfl (Nat.le_of_ble_eq_true rfl) (fun v13 l13 u13 h13 => ?_)
  refine q_ifne C 25 dX6_cancel_16 (by decide) (by omega) (fun c16 => ?_) (fun c16 => ?_)
  · refine q_aload_n C 0 dX6_cancel_25 rfl rfl ?_
    refine q_getr C (b := 23) 17 rfl (by decide) rfl in_X6 (by decide) fl_X6_45 rfl dX6_cancel_26 ?_
    refine q_iload_n C 1 dX6_cancel_29 rfl rfl ?_
    refine q_cald C (b := 35) (n := 30) 0 65535 rfl (by decide) (by decide) (by omega) (fun _ => rfl) dX6_cancel_30 (fun v30 e30 l30 u30 => ?_)
    refine q_bipush C dX6_cancel_31 (by decide +kernel) ?_
    refine q_icmp_eq C 42 dX6_cancel_33 (by decide) (by omega) (by omega) (fun c33 => ?_) (fun c33 => ?_)
    · refine q_aload_n C 0 dX6_cancel_42 rfl rfl ?_
      refine q_getr C (b := 23) 17 rfl (by decide) rfl in_X6 (by decide) fl_X6_45 rfl dX6_cancel_43 ?_
      refine q_iload_n C 1 dX6_cancel_46 rfl rfl ?_
      refine q_bipush C dX6_cancel_47 (by decide +kernel) ?_
      refine q_cast C (b := 35) (n := 30) rfl (by decide) (by decide) (by omega) (by omega) (show 0 ≤ _ ∧ _ ≤ 65535 from (by omega)) dX6_cancel_49 ?_
      refine q_aload_n C 0 dX6_cancel_50 rfl rfl ?_
      refine q_bipush C dX6_cancel_51 (by decide +kernel) ?_
      refine q_Vf0 C (KX6_counted _ _ (by omega)) mX6_counted ml_X6_151 dX6_cancel_53 (by decide) (by decide) rfl rfl rfl (Nat.le_of_ble_eq_true rfl) rfl (by decide) rfl rfl (fun v53 l53 u53 h53 => ?_)
      rw [qUp_k (by decide)] at h53
      exact q_iretI C dX6_cancel_56 (by omega) (by decide) (Or.inl ⟨⟨by omega, by omega⟩, h53, rfl⟩)
    · refine q_aload_n C 0 dX6_cancel_36 rfl rfl ?_
      refine q_iconst C dX6_cancel_37 ?_
      refine q_Vi0 C (KX6_fails _ _ (by omega) (by omega)) mX6_fails ml_X6_110 dX6_cancel_38 (by decide) (by decide) rfl rfl rfl (Nat.le_of_ble_eq_true rfl) rfl (by decide) rfl rfl (fun v38 g38 l38 u38 h38 => ?_)
      obtain ⟨h38, rfl⟩ := h38
      first
        | exact q_iretI C dX6_cancel_41 (by omega) (by decide) (Or.inl (⟨by omega, by omega, rfl⟩))
        | exact q_iretI C dX6_cancel_41 (by omega) (by decide) (Or.inr (Or.inl (⟨by omega, rfl⟩)))
        | exact q_iretI C dX6_cancel_41 (by omega) (by decide) (Or.inr (Or.inr (⟨⟨by omega, by omega⟩, rfl⟩)))
  · refine q_aload_n C 0 dX6_cancel_19 rfl rfl ?_
    refine q_iconst C dX6_cancel_20 ?_
    refine q_Vi0 C (KX6_fails _ _ (by omega) (by omega)) mX6_fails ml_X6_110 dX6_cancel_21 (by decide) (by decide) rfl rfl rfl (Nat.le_of_ble_eq_true rfl) rfl (by decide) rfl rfl (fun v21 g21 l21 u21 h21 => ?_)
    obtain ⟨h21, rfl⟩ := h21
    first
      | exact q_iretI C dX6_cancel_24 (by omega) (by decide) (Or.inl (⟨by omega, by omega, rfl⟩))
      | exact q_iretI C dX6_cancel_24 (by omega) (by decide) (Or.inr (Or.inl (⟨by omega, rfl⟩)))
      | exact q_iretI C dX6_cancel_24 (by omega) (by decide) (Or.inr (Or.inr (⟨⟨by omega, by omega⟩, rfl⟩)))
