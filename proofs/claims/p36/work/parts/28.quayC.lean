/-! Quaylock: plans -/
abbrev lmY (g : qHp) (b : Int) : Int := yOvr (g 5 5) (g 7) (g 8) (g 9) b + 1
abbrev frK (g g' : qHp) : Prop := ∀ k, k < 10 ∨ 18 ≤ k → g' k = g k
def plQ (g g' : qHp) (b : Int) : Prop := inY g b ∧ frK g g' ∧ ∃ L, leaG g b (lmY g b) L ∧ g' 15 3 = keyN L.length L
def plX (g g' : qHp) (b : Int) (E : String) : Prop := (E = xIO ∧ ¬ inY g b ∧ g' = g) ∨ (E = xNS ∧ inY g b ∧ frK g g' ∧ ∀ L, plnG g b L → ¬ (L.length : Int) ≤ lmY g b)
theorem lea_fs {g : qHp} {b : Int} {L : List Int} (o : yOK (g 5 5) (g 6) (g 7) (g 8) (g 9)) (hin : inY g b) (h : leaG g b (lmY g b) L) : digs L ∧ L.length ≤ 4 ∧ keyN L.length L % 8 = L.length ∧ (0 ≤ keyN L.length L ∧ keyN L.length L ≤ 1099511627775) ∧ 1 ≤ lmY g b ∧ lmY g b ≤ 4 := by
  obtain ⟨hb, e⟩ := ySt_in hin
  have P := fndP_of o hb (by rw [← e]; exact hin)
  obtain ⟨-, -, n, -, p2, p3⟩ := P
  have p2 : lmY g b = n + 1 := p2
  obtain ⟨⟨z, h1, h2⟩, h3, h4⟩ := h
  have hd := run_dig o.1.2 (yOK_cut o) o.2.2.2.2.1 h1
  have hl : L.length ≤ 4 := by omega
  exact ⟨hd, hl, (key_need hd hl).2, key_big hd hl (by omega), by omega, by omega⟩
/-- the moves of a plan that have been made -/
def mvQ (g g' : qHp) (n : Int) (z : St) : Prop := (∀ k, k ≠ 0 → k ≠ 5 → k ≠ 7 → k ≠ 8 → k ≠ 9 → g' k = g k) ∧ (∀ j, j ≠ 5 → g' 0 j = g 0 j) ∧ g' 0 5 = w32 (g 0 5 + n) ∧ g' 5 5 = g 5 5 ∧ g' 5 6 = g 5 6 ∧ yOK (g' 5 5) (g' 6) (g' 7) (g' 8) (g' 9) ∧ stOf (g' 7) (g' 8) = z
theorem w32_id {a : Int} (h : -2147483648 ≤ a ∧ a ≤ 2147483647) : w32 a = a := by
  unfold w32
  omega
theorem w32_ad (a b : Int) : w32 (w32 a + b) = w32 (a + b) := by
  unfold w32
  omega
theorem mvQ_0 {g : qHp} (hn : -2147483648 ≤ g 0 5 ∧ g 0 5 ≤ 2147483647) (o : yOK (g 5 5) (g 6) (g 7) (g 8) (g 9)) : mvQ g g 0 (stOf (g 7) (g 8)) := ⟨fun _ _ _ _ _ _ => rfl, fun _ _ => rfl, by rw [Int.add_zero, w32_id hn], rfl, rfl, o, rfl⟩
theorem mvQ_s {g g1 : qHp} {n : Int} {y : St} {w : Int → Int} {pn : Int → Bool} {s t x : Int} (hn : -2147483648 ≤ g 5 6 ∧ g 5 6 ≤ 2147483647) (Q : mvQ g g1 n y) (k : okM (g 5 5) (cut4 (g 6)) w pn y s t x) : (0 ≤ s ∧ s < g1 5 5 ∧ g1 7 s ≠ 0 ∧ s ≠ t) ∧ (0 ≤ t ∧ t < g1 5 5 ∧ g1 7 t < g1 6 t) ∧ g1 9 x = s ∧ (0 ≤ x ∧ x < 20) ∧ mvQ g (mv5 g1 s t) (n + 1) (doM y s t x) := by
  obtain ⟨a1, a2, a3, a4, a5, a6, a7⟩ := Q
  have e6 : g1 6 = g 6 := a1 6 (by decide) (by decide) (by decide) (by decide) (by decide)
  rw [← a4, ← e6, ← a7] at k
  obtain ⟨m1, m2, m3, m4, m5, m6, -⟩ := mv5_ok a6 k
  obtain ⟨r1, r2, r3, r4, r5, r6, r7, r8, r9⟩ := mv5_rows g1 s t
  refine ⟨m1, m2, m3, m4, fun k h0 h5 h7 h8 h9 => by rw [r7 k h0 h5 h7 h8 h9, a1 k h0 h5 h7 h8 h9], fun j hj => by rw [r9 j hj, a2 j hj], by rw [r8, a3, w32_ad, Int.add_assoc], by rw [r1, a4], by rw [r2, a5, w32_pm hn], m5, by rw [m6, a7]⟩
set_option maxRecDepth 20000 in
theorem KX5_requirePlan (g : qHp) (b : Int) (hb : -2147483648 ≤ b ∧ b < 2147483648) (hyo : yOK (g 5 5) (g 6) (g 7) (g 8) (g 9)) : qC yX5_requirePlan (.code yX5_requirePlan cX5_requirePlan 2 none) 7 2 (fun ad => [.ref (ad 0), .int (iI b)]) g (qPv (fun g' : qHp => plQ g g' b)) (fun (E : String) (g' : qHp) => plX g g' b E) := by
  refine q_meth (by decide +kernel) rfl (fun _ => (Nat.le_of_ble_eq_true rfl)) (fun X ω C => ?_)
  refine q_loc [(0, .ref (ω.1 0)), (1, .int (iI b))] ⟨rfl, rfl, trivial⟩ ?_
  refine q_aload_n C 0 dX5_requirePlan_0 rfl rfl ?_
  refine q_iload_n C 1 dX5_requirePlan_1 rfl rfl ?_
  refine q_VvX C (KX5_requireBox _ _ (by omega)) mX5_requireBox ml_X5_98 dX5_requirePlan_2 (by decide) (by decide) rfl rfl rfl (Nat.le_of_ble_eq_true rfl) rfl (by decide) rfl rfl (fun E g' h => Or.inl ⟨h.1.1, h.1.2, h.2⟩) (fun h2 => ?_)
  refine q_aload_n C 0 dX5_requirePlan_5 rfl rfl ?_
  have hb := ySt_in h2
  refine q_getr C (b := 0) 2 rfl (by decide) rfl in_X5 (by decide) fl_X5_30 rfl dX5_requirePlan_6 ?_
  refine q_iload_n C 1 dX5_requirePlan_9 rfl rfl ?_
  refine q_Vi0 C (KX3_find _ _ (by omega) hyo hb.1 (by rw [← hb.2]; exact h2) _ rfl) mX3_find ml_X5_269 dX5_requirePlan_10 (by decide) (by decide) rfl rfl rfl (Nat.le_of_ble_eq_true rfl) rfl (by decide) rfl rfl (fun v10 g10 l10 u10 h10 => ?_)
  refine q_ifne C 26 dX5_requirePlan_13 (by decide) (by omega) (fun c13 => ?_) (fun c13 => ?_)
  · exact q_retV C dX5_requirePlan_26 (by decide) ⟨h2, h10.1, by rcases h10.2 with ⟨z, z2⟩ | ⟨z, z2⟩; (· exact z2); (· omega)⟩
  · exact q_throwN C "there is no plan" rfl (by decide +kernel) dX5_requirePlan_16 dX5_requirePlan_19 dX5_requirePlan_20 dX5_requirePlan_22 dX5_requirePlan_25 (by decide) (Nat.le_of_ble_eq_true rfl) (by decide) (Or.inr ⟨rfl, h2, h10.1, by rcases h10.2 with ⟨z, z2⟩ | ⟨z, z2⟩; (· omega); (· exact z2)⟩)
set_option maxRecDepth 20000 in
theorem KX5_requirePlannedMove (g : qHp) (i : Int) (hi : -2147483648 ≤ i ∧ i < 2147483648)  : qC yX5_requirePlannedMove (.code yX5_requirePlannedMove cX5_requirePlannedMove 2 none) 6 1 (fun ad => [.ref (ad 0), .int (iI i)]) g (qPv (fun g' : qHp => ((0 ≤ i ∧ i < g 15 3 % 8)) ∧ g' = g)) (fun (E : String) (g' : qHp) => (E = xNS ∧ ¬ (0 ≤ i ∧ i < g 15 3 % 8)) ∧ g' = g) := by
  refine q_meth (by decide +kernel) rfl (fun _ => (Nat.le_of_ble_eq_true rfl)) (fun X ω C => ?_)
  refine q_loc [(0, .ref (ω.1 0)), (1, .int (iI i))] ⟨rfl, rfl, trivial⟩ ?_
  refine q_iload_n C 1 dX5_requirePlannedMove_0 rfl rfl ?_
  refine q_iflt C 15 dX5_requirePlannedMove_1 (by decide) (by omega) (fun c1 => ?_) (fun c1 => ?_)
  · exact q_throwNW C "the plan has no such move" rfl (by decide +kernel) dX5_requirePlannedMove_15 dX5_requirePlannedMove_18 dX5_requirePlannedMove_19 dX5_requirePlannedMove_22 dX5_requirePlannedMove_25 (by decide) (Nat.le_of_ble_eq_true rfl) (by decide) ⟨⟨rfl, by omega⟩, rfl⟩
  · refine q_iload_n C 1 dX5_requirePlannedMove_4 rfl rfl ?_
    refine q_aload_n C 0 dX5_requirePlannedMove_5 rfl rfl ?_
    refine q_getr C (b := 0) 2 rfl (by decide) rfl in_X5 (by decide) fl_X5_30 rfl dX5_requirePlannedMove_6 ?_
    refine q_Vf0 C (KX3_length _) mX3_length ml_X5_170 dX5_requirePlannedMove_9 (by decide) (by decide) rfl rfl rfl (Nat.le_of_ble_eq_true rfl) rfl (by decide) rfl rfl (fun v9 l9 u9 h9 => ?_)
    refine q_icmp_lt C 26 dX5_requirePlannedMove_12 (by decide) (by omega) (by omega) (fun c12 => ?_) (fun c12 => ?_)
    · exact q_retV C dX5_requirePlannedMove_26 (by decide) (⟨by omega, rfl⟩)
    · exact q_throwNW C "the plan has no such move" rfl (by decide +kernel) dX5_requirePlannedMove_15 dX5_requirePlannedMove_18 dX5_requirePlannedMove_19 dX5_requirePlannedMove_22 dX5_requirePlannedMove_25 (by decide) (Nat.le_of_ble_eq_true rfl) (by decide) ⟨⟨rfl, by omega⟩, rfl⟩
set_option maxRecDepth 20000 in
theorem KX5_planLength (g : qHp) (b : Int) (hb : -2147483648 ≤ b ∧ b < 2147483648) (hyo : yOK (g 5 5) (g 6) (g 7) (g 8) (g 9)) : qC yX5_planLength (.code yX5_planLength cX5_planLength 2 (some .int)) 8 2 (fun ad => [.ref (ad 0), .int (iI b)]) g (qPi (fun (r : Int) (g' : qHp) => inY g b ∧ frK g g' ∧ ∃ L, leaG g b (lmY g b) L ∧ r = L.length)) (fun (E : String) (g' : qHp) => plX g g' b E) := by
  refine q_meth (by decide +kernel) rfl (fun _ => (Nat.le_of_ble_eq_true rfl)) (fun X ω C => ?_)
  refine q_loc [(0, .ref (ω.1 0)), (1, .int (iI b))] ⟨rfl, rfl, trivial⟩ ?_
  refine q_aload_n C 0 dX5_planLength_0 rfl rfl ?_
  refine q_iload_n C 1 dX5_planLength_1 rfl rfl ?_
  refine q_VwX C (KX5_requirePlan _ _ (by omega) hyo) mX5_requirePlan ml_X5_167 dX5_planLength_2 (by decide) (by decide) rfl rfl rfl (Nat.le_of_ble_eq_true rfl) rfl (by decide) rfl rfl (fun E g' h => h) (fun g2 h2 => ?_)
  refine q_aload_n C 0 dX5_planLength_5 rfl rfl ?_
  refine q_getr C (b := 0) 2 rfl (by decide) rfl in_X5 (by decide) fl_X5_30 rfl dX5_planLength_6 ?_
  refine q_Vf0 C (KX3_length _) mX3_length ml_X5_170 dX5_planLength_9 (by decide) (by decide) rfl rfl rfl (Nat.le_of_ble_eq_true rfl) rfl (by decide) rfl rfl (fun v9 l9 u9 h9 => ?_)
  obtain ⟨p1, p2, L, p3, p4⟩ := h2
  have F := lea_fs hyo p1 p3
  exact q_iretI C dX5_planLength_12 (by omega) (by decide) ⟨p1, p2, L, p3, by rw [h9, p4]; exact F.2.2.1⟩
set_option maxRecDepth 20000 in
theorem KX5_planByTrying (g : qHp) (b : Int) (hb : -2147483648 ≤ b ∧ b < 2147483648) (hyo : yOK (g 5 5) (g 6) (g 7) (g 8) (g 9)) : qC yX5_planByTrying (.code yX5_planByTrying cX5_planByTrying 3 (some .int)) 10 2 (fun ad => [.ref (ad 0), .int (iI b)]) g (qPi (fun (r : Int) (g' : qHp) => inY g b ∧ frK g g' ∧ r ≤ lmY g b ∧ (∃ L, plnG g b L ∧ (L.length : Int) = r) ∧ ∀ L, plnG g b L → r ≤ L.length)) (fun (E : String) (g' : qHp) => plX g g' b E) := by
  refine q_meth (by decide +kernel) rfl (fun _ => (Nat.le_of_ble_eq_true rfl)) (fun X ω C => ?_)
  refine q_loc [(0, .ref (ω.1 0)), (1, .int (iI b))] ⟨rfl, rfl, trivial⟩ ?_
  refine q_aload_n C 0 dX5_planByTrying_0 rfl rfl ?_
  refine q_iload_n C 1 dX5_planByTrying_1 rfl rfl ?_
  refine q_VvX C (KX5_requireBox _ _ (by omega)) mX5_requireBox ml_X5_98 dX5_planByTrying_2 (by decide) (by decide) rfl rfl rfl (Nat.le_of_ble_eq_true rfl) rfl (by decide) rfl rfl (fun E g' h => Or.inl ⟨h.1.1, h.1.2, h.2⟩) (fun h2 => ?_)
  refine q_aload_n C 0 dX5_planByTrying_5 rfl rfl ?_
  have hb := ySt_in h2
  refine q_getr C (b := 0) 2 rfl (by decide) rfl in_X5 (by decide) fl_X5_30 rfl dX5_planByTrying_6 ?_
  refine q_iload_n C 1 dX5_planByTrying_9 rfl rfl ?_
  refine q_Vi0 C (KX3_lengthByTrying _ _ (by omega) hyo hb.1 (by rw [← hb.2]; exact h2) _ rfl) mX3_lengthByTrying ml_X5_173 dX5_planByTrying_10 (by decide) (by decide) rfl rfl rfl (Nat.le_of_ble_eq_true rfl) rfl (by decide) rfl rfl (fun v10 g10 l10 u10 h10 => ?_)
  refine q_istoreV_n C 2 dX5_planByTrying_13 rfl (by decide) (fun v13 e13 => ?_)
  refine q_iload_n C 2 dX5_planByTrying_14 rfl rfl ?_
  refine q_iconst C dX5_planByTrying_15 ?_
  refine q_icmp_ne C 29 dX5_planByTrying_16 (by decide) (by omega) (by omega) (fun c16 => ?_) (fun c16 => ?_)
  · refine q_iload_n C 2 dX5_planByTrying_29 rfl rfl ?_
    rcases h10.1 with ⟨z, z2⟩ | ⟨z, z2, z3, z4⟩
    · omega
    · subst e13
      exact q_iretI C dX5_planByTrying_30 (by omega) (by decide) ⟨h2, fun k hk => h10.2 k (by omega), z2, z3, z4⟩
  · exact q_throwN C "there is no plan" rfl (by decide +kernel) dX5_planByTrying_19 dX5_planByTrying_22 dX5_planByTrying_23 dX5_planByTrying_25 dX5_planByTrying_28 (by decide) (Nat.le_of_ble_eq_true rfl) (by decide) (Or.inr ⟨rfl, h2, fun k hk => h10.2 k (by omega), by rcases h10.1 with ⟨z, z2⟩ | ⟨z, z2⟩; (· exact fun L hL hl => by have := z2 L hL; have hl : (L.length : Int) ≤ yOvr (g 5 5) (g 7) (g 8) (g 9) b + 1 := hl; omega); (· omega)⟩)
set_option maxRecDepth 20000 in
theorem KX5_planBox (g : qHp) (b : Int) (hb : -2147483648 ≤ b ∧ b < 2147483648) (i : Int) (hi : -2147483648 ≤ i ∧ i < 2147483648) (hyo : yOK (g 5 5) (g 6) (g 7) (g 8) (g 9)) : qC yX5_planBox (.code yX5_planBox cX5_planBox 3 (some .int)) 8 3 (fun ad => [.ref (ad 0), .int (iI b), .int (iI i)]) g (qPi (fun (r : Int) (g' : qHp) => inY g b ∧ frK g g' ∧ ∃ L m, leaG g b (lmY g b) L ∧ 0 ≤ i ∧ L[i.toNat]? = some m ∧ r = m / 4)) (fun (E : String) (g' : qHp) => plX g g' b E ∨ (E = xNS ∧ inY g b ∧ frK g g' ∧ ∃ L, leaG g b (lmY g b) L ∧ ¬ (0 ≤ i ∧ i < L.length))) := by
  refine q_meth (by decide +kernel) rfl (fun _ => (Nat.le_of_ble_eq_true rfl)) (fun X ω C => ?_)
  refine q_loc [(0, .ref (ω.1 0)), (1, .int (iI b)), (2, .int (iI i))] ⟨rfl, rfl, rfl, trivial⟩ ?_
  refine q_aload_n C 0 dX5_planBox_0 rfl rfl ?_
  refine q_iload_n C 1 dX5_planBox_1 rfl rfl ?_
  refine q_VwX C (KX5_requirePlan _ _ (by omega) hyo) mX5_requirePlan ml_X5_167 dX5_planBox_2 (by decide) (by decide) rfl rfl rfl (Nat.le_of_ble_eq_true rfl) rfl (by decide) rfl rfl (fun E g' h => Or.inl h) (fun g2 h2 => ?_)
  obtain ⟨p1, p2, L, p3, p4⟩ := h2
  have F := lea_fs hyo p1 p3
  refine q_aload_n C 0 dX5_planBox_5 rfl rfl ?_
  refine q_iload_n C 2 dX5_planBox_6 rfl rfl ?_
  refine q_VvX C (KX5_requirePlannedMove _ _ (by omega)) mX5_requirePlannedMove ml_X5_178 dX5_planBox_7 (by decide) (by decide) rfl rfl rfl (Nat.le_of_ble_eq_true rfl) rfl (by decide) rfl rfl (fun E g' h => Or.inr ⟨h.1.1, p1, by rw [h.2]; exact p2, L, p3, by rw [← F.2.2.1, ← p4]; exact h.1.2⟩) (fun h7 => ?_)
  rw [p4, F.2.2.1] at h7
  have hlt : i.toNat < L.length := by omega
  have hat : L[i.toNat]? = some (L[i.toNat]'hlt) := List.getElem?_eq_getElem hlt
  have hm := key_move (nd := L.length) F.1 F.2.1 (by omega) hat
  rw [← p4, show ((i.toNat : Nat) : Int) = i by omega] at hm
  have hF2 := F.2.1
  refine q_aload_n C 0 dX5_planBox_10 rfl rfl ?_
  refine q_getr C (b := 0) 2 rfl (by decide) rfl in_X5 (by decide) fl_X5_30 rfl dX5_planBox_11 ?_
  refine q_iload_n C 2 dX5_planBox_14 rfl rfl ?_
  refine q_Vf0 C (KX3_boxMoved _ _ (by omega) (by omega)) mX3_boxMoved ml_X5_181 dX5_planBox_15 (by decide) (by decide) rfl rfl rfl (Nat.le_of_ble_eq_true rfl) rfl (by decide) rfl rfl (fun v15 l15 u15 h15 => ?_)
  exact q_iretI C dX5_planBox_18 (by omega) (by decide) ⟨p1, p2, L, _, p3, h7.1, hat, by rw [h15.1, hm]⟩
set_option maxRecDepth 20000 in
theorem KX5_planStack (g : qHp) (b : Int) (hb : -2147483648 ≤ b ∧ b < 2147483648) (i : Int) (hi : -2147483648 ≤ i ∧ i < 2147483648) (hyo : yOK (g 5 5) (g 6) (g 7) (g 8) (g 9)) : qC yX5_planStack (.code yX5_planStack cX5_planStack 3 (some .int)) 8 3 (fun ad => [.ref (ad 0), .int (iI b), .int (iI i)]) g (qPi (fun (r : Int) (g' : qHp) => inY g b ∧ frK g g' ∧ ∃ L m, leaG g b (lmY g b) L ∧ 0 ≤ i ∧ L[i.toNat]? = some m ∧ r = m % 4)) (fun (E : String) (g' : qHp) => plX g g' b E ∨ (E = xNS ∧ inY g b ∧ frK g g' ∧ ∃ L, leaG g b (lmY g b) L ∧ ¬ (0 ≤ i ∧ i < L.length))) := by
  refine q_meth (by decide +kernel) rfl (fun _ => (Nat.le_of_ble_eq_true rfl)) (fun X ω C => ?_)
  refine q_loc [(0, .ref (ω.1 0)), (1, .int (iI b)), (2, .int (iI i))] ⟨rfl, rfl, rfl, trivial⟩ ?_
  refine q_aload_n C 0 dX5_planStack_0 rfl rfl ?_
  refine q_iload_n C 1 dX5_planStack_1 rfl rfl ?_
  refine q_VwX C (KX5_requirePlan _ _ (by omega) hyo) mX5_requirePlan ml_X5_167 dX5_planStack_2 (by decide) (by decide) rfl rfl rfl (Nat.le_of_ble_eq_true rfl) rfl (by decide) rfl rfl (fun E g' h => Or.inl h) (fun g2 h2 => ?_)
  obtain ⟨p1, p2, L, p3, p4⟩ := h2
  have F := lea_fs hyo p1 p3
  refine q_aload_n C 0 dX5_planStack_5 rfl rfl ?_
  refine q_iload_n C 2 dX5_planStack_6 rfl rfl ?_
  refine q_VvX C (KX5_requirePlannedMove _ _ (by omega)) mX5_requirePlannedMove ml_X5_178 dX5_planStack_7 (by decide) (by decide) rfl rfl rfl (Nat.le_of_ble_eq_true rfl) rfl (by decide) rfl rfl (fun E g' h => Or.inr ⟨h.1.1, p1, by rw [h.2]; exact p2, L, p3, by rw [← F.2.2.1, ← p4]; exact h.1.2⟩) (fun h7 => ?_)
  rw [p4, F.2.2.1] at h7
  have hlt : i.toNat < L.length := by omega
  have hat : L[i.toNat]? = some (L[i.toNat]'hlt) := List.getElem?_eq_getElem hlt
  have hm := key_move (nd := L.length) F.1 F.2.1 (by omega) hat
  rw [← p4, show ((i.toNat : Nat) : Int) = i by omega] at hm
  have hF2 := F.2.1
  refine q_aload_n C 0 dX5_planStack_10 rfl rfl ?_
  refine q_getr C (b := 0) 2 rfl (by decide) rfl in_X5 (by decide) fl_X5_30 rfl dX5_planStack_11 ?_
  refine q_iload_n C 2 dX5_planStack_14 rfl rfl ?_
  refine q_Vf0 C (KX3_stackReached _ _ (by omega) (by omega)) mX3_stackReached ml_X5_184 dX5_planStack_15 (by decide) (by decide) rfl rfl rfl (Nat.le_of_ble_eq_true rfl) rfl (by decide) rfl rfl (fun v15 l15 u15 h15 => ?_)
  exact q_iretI C dX5_planStack_18 (by omega) (by decide) ⟨p1, p2, L, _, p3, h7.1, hat, by rw [h15.1, hm]⟩
set_option maxRecDepth 20000 in
theorem KX5_makePlannedMoves (g : qHp) (hyo : yOK (g 5 5) (g 6) (g 7) (g 8) (g 9)) (w : Int → Int) (pn : Int → Bool) (b : Int) (L : List Int) (z : St) (hd : digs L) (hl : L.length ≤ 4) (hk : g 15 3 = keyN L.length L) (hrun : runR (g 5 5) (cut4 (g 6)) w pn b L (stOf (g 7) (g 8)) z) : qC yX5_makePlannedMoves (.code yX5_makePlannedMoves cX5_makePlannedMoves 2 none) 4 0 (fun ad => [.ref (ad 0)]) g (qPv (fun g' : qHp => mvQ g g' L.length z)) qNo := by
  refine q_meth (by decide +kernel) rfl (fun _ => (Nat.le_of_ble_eq_true rfl)) (fun X ω C => ?_)
  refine q_nm (fun hn => ?_)
  have r0_5 : (-2147483648) ≤ g 0 5 ∧ g 0 5 ≤ 2147483647 := hn 0 5
  have r5_6 : (-2147483648) ≤ g 5 6 ∧ g 5 6 ≤ 2147483647 := hn 5 6
  refine q_loc [(0, .ref (ω.1 0))] ⟨rfl, trivial⟩ ?_
  refine q_iconst C dX5_makePlannedMoves_0 ?_
  refine q_istoreV_n C 1 dX5_makePlannedMoves_1 rfl (by decide) (fun v1 e1 => ?_)
  have loop : ∀ (n : Nat) (i : Int) (g1 : qHp) (PP : List Int) (RR : List Int) (y : St), (((L.length : Int) - i) < (n : Int)) → (0 ≤ i ∧ i = PP.length ∧ PP.length ≤ L.length) → (L = PP ++ RR ∧ runR (g 5 5) (cut4 (g 6)) w pn b RR y z ∧ mvQ g g1 PP.length y) → qT X ω 2 0 (qEnd X ω (qPv (fun g' : qHp => mvQ g g' L.length z)) qNo 0) g1 2 [(0, .ref (ω.1 0)), (1, .int (iI i))] [] := by
    intro n
    induction n with
    | zero => intro i g1 PP RR y hm hi hI; exfalso; omega
    | succ n ih =>
      intro i g1 PP RR y hm hi hI
      have e15 : g1 15 3 = keyN L.length L := by rw [hI.2.2.1 15 (by decide) (by decide) (by decide) (by decide) (by decide)]; exact hk
      have hkn := (key_need (nd := L.length) hd hl).2
      refine q_iload_n C 1 dX5_makePlannedMoves_2 rfl rfl ?_
      refine q_aload_n C 0 dX5_makePlannedMoves_3 rfl rfl ?_
      refine q_getr C (b := 0) 2 rfl (by decide) rfl in_X5 (by decide) fl_X5_30 rfl dX5_makePlannedMoves_4 ?_
      refine q_Vf0 C (KX3_length _) mX3_length ml_X5_170 dX5_makePlannedMoves_7 (by decide) (by decide) rfl rfl rfl (Nat.le_of_ble_eq_true rfl) rfl (by decide) rfl rfl (fun v7 l7 u7 h7 => ?_)
      rw [e15, hkn] at h7
      refine q_icmp_ge C 39 dX5_makePlannedMoves_10 (by decide) (by omega) (by omega) (fun c10 => ?_) (fun c10 => ?_)
      · obtain ⟨hL, hr1, T⟩ := hI
        have hz : RR = [] := by
          have e := congrArg List.length hL
          rw [List.length_append] at e
          exact List.length_eq_zero_iff.mp (by omega)
        subst hz
        have hr1 : y = z := hr1
        subst hr1
        rw [List.append_nil] at hL
        subst hL
        exact q_retV C dX5_makePlannedMoves_39 (by decide) T
      · obtain ⟨hL, hr1, Q⟩ := hI
        obtain ⟨mm, R2, hR, hat, hL2⟩ := cons_at hL (by omega)
        subst hR
        obtain ⟨a', ⟨s, t, x, hmv, hxb, o, rfl⟩, hr2⟩ := hr1
        have hkm := key_move (nd := L.length) hd hl (by omega) hat
        rw [← e15, ← hi.2.1] at hkm
        have S := mvQ_s r5_6 Q o
        obtain ⟨o1, o2, o3, o4, -⟩ := id o
        have hc4 := hyo.1
        refine q_aload_n C 0 dX5_makePlannedMoves_13 rfl rfl ?_
        refine q_aload_n C 0 dX5_makePlannedMoves_14 rfl rfl ?_
        refine q_getr C (b := 0) 2 rfl (by decide) rfl in_X5 (by decide) fl_X5_30 rfl dX5_makePlannedMoves_15 ?_
        refine q_iload_n C 1 dX5_makePlannedMoves_18 rfl rfl ?_
        refine q_Vf0 C (KX3_boxMoved _ _ (by omega) (by omega)) mX3_boxMoved ml_X5_181 dX5_makePlannedMoves_19 (by decide) (by decide) rfl rfl rfl (Nat.le_of_ble_eq_true rfl) rfl (by decide) rfl rfl (fun v19 l19 u19 h19 => ?_)
        refine q_aload_n C 0 dX5_makePlannedMoves_22 rfl rfl ?_
        refine q_getr C (b := 0) 2 rfl (by decide) rfl in_X5 (by decide) fl_X5_30 rfl dX5_makePlannedMoves_23 ?_
        refine q_iload_n C 1 dX5_makePlannedMoves_26 rfl rfl ?_
        refine q_Vf0 C (KX3_stackReached _ _ (by omega) (by omega)) mX3_stackReached ml_X5_184 dX5_makePlannedMoves_27 (by decide) (by decide) rfl rfl rfl (Nat.le_of_ble_eq_true rfl) rfl (by decide) rfl rfl (fun v27 l27 u27 h27 => ?_)
        have hx4 : v19 = x := by rw [h19.1, hkm, hmv]; omega
        have ht4 : v27 = t := by rw [h27.1, hkm, hmv]; omega
        refine q_Vv0 C (KX5_makeMove _ _ (by omega) _ (by omega) (by rw [hx4]; exact S.2.2.2.1) (by rw [hx4, ht4, S.2.2.1]; exact S.1) (by rw [ht4]; exact S.2.1)) mX5_makeMove ml_X5_161 dX5_makePlannedMoves_30 (by decide) (by decide) rfl rfl rfl (Nat.le_of_ble_eq_true rfl) rfl (by decide) rfl rfl ?_
        refine q_iinc C dX5_makePlannedMoves_33 rfl (by decide) (fun v33 e33 => ?_)
        refine q_goto C 2 dX5_makePlannedMoves_36 (by decide) ?_
        refine q_loc [(0, .ref (ω.1 0)), (1, .int (iI v33))] ⟨rfl, rfl, trivial⟩ ?_
        exact ih v33 _ (PP ++ [mm]) R2 _ (by omega) (by have e := congrArg List.length hL2; rw [List.length_append] at e; rw [List.length_append] at e ⊢; simp only [List.length_cons, List.length_nil] at e ⊢; omega) ⟨hL2, hr2, by rw [hx4, ht4, S.2.2.1, List.length_append]; push_cast; exact S.2.2.2.2⟩
  refine q_loc [(0, .ref (ω.1 0)), (1, .int (iI v1))] ⟨rfl, rfl, trivial⟩ ?_
  exact loop (((L.length : Int) - v1).toNat + 1) v1 _ [] L _ (by omega) (by simp; omega) ⟨rfl, hrun, mvQ_0 r0_5 hyo⟩
set_option maxRecDepth 20000 in
theorem KX5_dig (g : qHp) (b : Int) (hb : -2147483648 ≤ b ∧ b < 2147483648) (hyo : yOK (g 5 5) (g 6) (g 7) (g 8) (g 9)) : qC yX5_dig (.code yX5_dig cX5_dig 2 (some .int)) 8 2 (fun ad => [.ref (ad 0), .int (iI b)]) g (qPi (fun (r : Int) (g' : qHp) => inY g b ∧ ∃ L z g1, frK g g1 ∧ leaG g b (lmY g b) L ∧ runR (g 5 5) (cut4 (g 6)) (cGet (g 1 3) (g 2) 0) (pinB g) b L (stOf (g 7) (g 8)) z ∧ mvQ g1 g' L.length z ∧ r = L.length)) (fun (E : String) (g' : qHp) => plX g g' b E) := by
  refine q_meth (by decide +kernel) rfl (fun _ => (Nat.le_of_ble_eq_true rfl)) (fun X ω C => ?_)
  refine q_loc [(0, .ref (ω.1 0)), (1, .int (iI b))] ⟨rfl, rfl, trivial⟩ ?_
  refine q_aload_n C 0 dX5_dig_0 rfl rfl ?_
  refine q_iload_n C 1 dX5_dig_1 rfl rfl ?_
  refine q_VwX C (KX5_requirePlan _ _ (by omega) hyo) mX5_requirePlan ml_X5_167 dX5_dig_2 (by decide) (by decide) rfl rfl rfl (Nat.le_of_ble_eq_true rfl) rfl (by decide) rfl rfl (fun E g' h => h) (fun g2 h2 => ?_)
  obtain ⟨p1, p2, L, p3, p4⟩ := h2
  have F := lea_fs hyo p1 p3
  have p3' := p3
  obtain ⟨⟨z, q1, q2⟩, -⟩ := p3'
  have e5 := p2 5 (by omega)
  have e6 := p2 6 (by omega)
  have e7 := p2 7 (by omega)
  have e8 := p2 8 (by omega)
  have e9 := p2 9 (by omega)
  have hyo2 : yOK (g2 5 5) (g2 6) (g2 7) (g2 8) (g2 9) := by
    rw [e5, e6, e7, e8, e9]
    exact hyo
  have hrun2 : runR (g2 5 5) (cut4 (g2 6)) (cGet (g 1 3) (g 2) 0) (pinB g) b L (stOf (g2 7) (g2 8)) z := by
    rw [e5, e6, e7, e8]
    exact q1
  refine q_aload_n C 0 dX5_dig_5 rfl rfl ?_
  refine q_Vw0 C (KX5_makePlannedMoves g2 hyo2 _ _ b L z F.1 F.2.1 p4 hrun2) mX5_makePlannedMoves ml_X5_187 dX5_dig_6 (by decide) (by decide) rfl rfl rfl (Nat.le_of_ble_eq_true rfl) rfl (by decide) rfl rfl (fun g6 h6 => ?_)
  refine q_aload_n C 0 dX5_dig_9 rfl rfl ?_
  refine q_getr C (b := 0) 2 rfl (by decide) rfl in_X5 (by decide) fl_X5_30 rfl dX5_dig_10 ?_
  refine q_Vf0 C (KX3_length _) mX3_length ml_X5_170 dX5_dig_13 (by decide) (by decide) rfl rfl rfl (Nat.le_of_ble_eq_true rfl) rfl (by decide) rfl rfl (fun v13 l13 u13 h13 => ?_)
  exact q_iretI C dX5_dig_16 (by omega) (by decide) ⟨p1, L, z, g2, p2, p3, q1, h6, by rw [h13, h6.1 15 (by decide) (by decide) (by decide) (by decide) (by decide), p4]; exact F.2.2.1⟩
