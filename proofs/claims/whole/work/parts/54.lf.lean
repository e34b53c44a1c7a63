/-! what the law's walk needs between the calls; chars; shares -/
theorem law_fr {Es : List String} {P : Int → qHp → Prop} {X : String → qHp → Prop} {g g1 : qHp} {kc : Int} (I : LI g) (hC : ∀ k r h1, hpP Es P X k r h1 → ∀ j, 23 ≤ j → h1 j = g j) (h : hlQ Es P X kc g1) : yK (c0 g1) 0 ∧ insN (c0 g1) (stB (c0 g1)) ∧ bInv (vB (c0 g1)) (stB (c0 g1)) := by
  have hf : ∀ j, 23 ≤ j → j < 36 → g1 j = g j := by
    intro j a b
    rcases h with ⟨hk, r, h1, hP, he⟩ | ⟨E, hX, hx⟩
    · rw [he, qUp_row (by omega)]
      exact hC kc r h1 (Or.inl ⟨hk, hP⟩) j a
    · exact hC kc 0 g1 (Or.inr ⟨E, hX, hx⟩) j a
  obtain ⟨J, v1, v2⟩ := rI_mid I.2.1 hf
  obtain ⟨a1, a2, a3, a4, a5, a6⟩ := c0_facts J
  exact ⟨a1, a2, by rw [a4, a5, v1, v2, ← I.2.2.1, ← I.2.2.2]; exact I.1.2.2.2⟩
/-- an int taken for a char -/
def chI (a : Int) : Int := (((iI a).toUInt32 % 65536).toInt32).toInt
theorem chI_v (a : Int) : ((iI a).toUInt32 % 65536).toInt32 = iI (chI a) := iI_of _
theorem chI_rng (a : Int) : 0 ≤ chI a ∧ chI a < 65536 := by
  have h : ∀ y : UInt32, y.toNat < 65536 → 0 ≤ (y.toInt32).toInt ∧ (y.toInt32).toInt < 65536 := by
    intro y hy
    have e : y = UInt32.ofNat y.toNat := (UInt32.ofNat_toNat).symm
    rw [e, UInt32.toInt32_ofNat', Int32.toInt_ofNat_of_lt (by omega)]
    omega
  refine h _ ?_
  rw [UInt32.toNat_mod]
  exact Nat.mod_lt _ (by decide)
theorem chI_in (a : Int) : -2147483648 ≤ chI a ∧ chI a < 2147483648 := by
  have := chI_rng a
  omega
/-! the share of done ones -/
def shV (V : qHp) : UInt32 := FP.fdiv (FP.i2f (iI (cnA V 100))) (FP.i2f (iI (cnA V 100 + cnA V 109 + cnA V 103)))
def allA (V : qHp) : Int := cnA V 100 + cnA V 109 + cnA V 103
def f2Ok (a b : Nat) : Bool := decide (FP.f2d (FP.fdiv (FP.i2f (iI (a : Int))) (FP.i2f (iI (b : Int)))) &&& 0x7fffffffffffffff ≤ 0x7ff0000000000000) && decide (Op.cmpValue (FP.dcmp (FP.f2d (FP.fdiv (FP.i2f (iI (a : Int))) (FP.i2f (iI (b : Int))))) (FP.f2d (FP.fdiv (FP.i2f (iI (a : Int))) (FP.i2f (iI (b : Int)))))) .l = iI 0)
theorem f2_A : (List.range 31).all (fun a => (List.range 90).all (fun b => f2Ok a (b + 1))) = true := by decide +kernel
theorem f2_ok {V : qHp} (ha : 0 ≤ cnA V 100 ∧ cnA V 100 ≤ 30) (hb : 1 ≤ allA V ∧ allA V ≤ 90) : vf_n64 (FP.f2d (shV V)) ∧ Op.cmpValue (FP.dcmp (FP.f2d (shV V)) (FP.f2d (shV V))) .l = iI 0 := by
  have h := List.all_eq_true.mp (List.all_eq_true.mp f2_A (cnA V 100).toNat (List.mem_range.mpr (by omega))) (allA V - 1).toNat (List.mem_range.mpr (by omega))
  unfold f2Ok at h
  rw [Bool.and_eq_true] at h
  have h1 := of_decide_eq_true h.1
  have h2 := of_decide_eq_true h.2
  rw [show (((cnA V 100).toNat : Nat) : Int) = cnA V 100 by omega, show (((allA V - 1).toNat + 1 : Nat) : Int) = allA V by omega] at h1 h2
  exact ⟨h1, h2⟩
theorem cn_rng {g : qHp} (hn : qNm g) (t : Int) : 0 ≤ cnA (vA g) t ∧ cnA (vA g) t ≤ 30 := by
  have h := cntI_rng (stN g t) (g 18 4).toNat
  have r : 0 ≤ g 18 4 ∧ g 18 4 ≤ 30 := hn 18 4
  rw [cn_A]
  omega
/-- what the helper of doneShare answers -/
def hdQ (g : qHp) (k : Int) (g' : qHp) : Prop := (k = 0 ∧ allA (vA g) ≠ 0 ∧ g' = qUp g 37 0 ((FP.f2d (shV (vA g))).toNat)) ∨ (k = 1 ∧ allA (vA g) = 0 ∧ g' = g)
set_option maxRecDepth 20000 in
theorem KL_doneShare (g : qHp) : qC yL_doneShare (.codeWith yL_doneShare cL_doneShare 3 (some .int) [(0, 8, 11, 43)]) 7 1 (fun ad => [.ref (ad 0), .ref (ad 37)]) g (qPi (fun (kc : Int) (g' : qHp) => hdQ g kc g')) qNo := by
  refine q_methH (by decide +kernel) rfl (fun _ => (Nat.le_of_ble_eq_true rfl)) (fun X ω C => ?_)
  refine q_nm (fun hn => ?_)
  have r1 := cn_rng hn 100
  have r2 := cn_rng hn 109
  have r3 := cn_rng hn 103
  refine q_loc [(0, .ref (ω.1 0)), (1, .ref (ω.1 37))] ⟨rfl, rfl, trivial⟩ ?_
  refine q_aload_n C 1 dL_doneShare_0 rfl rfl ?_
  refine q_iconst C dL_doneShare_1 ?_
  refine q_aload_n C 0 dL_doneShare_2 rfl rfl ?_
  refine q_VfT C (KX5_doneShare _) mX5_doneShare ml_L_106 dL_doneShare_3 (by decide) (by decide) rfl rfl rfl (Nat.le_of_ble_eq_true rfl) rfl (by decide) rfl rfl (fun E g1 hx => ?_) (fun v g1 hv => ?_)
  · obtain ⟨⟨rfl, hx⟩, rfl⟩ := hx
    rw [← cn_A, ← cn_A, ← cn_A] at hx
    refine q_catch C [] ⟨0, 8, 11, 43⟩ [] rfl x5_xNS (fun z hz => by cases hz) (by decide) (by decide) clL_43 cst_xNS (h := 11) rfl (fun q => ?_)
    refine q_astore_n C 2 dL_doneShare_11 rfl (by decide) ?_
    refine q_iconst C dL_doneShare_12 ?_
    exact q_iretI C dL_doneShare_13 (by omega) (by omega) (Or.inr ⟨rfl, hx, rfl⟩)
  · obtain ⟨⟨h1, h2⟩, rfl⟩ := hv
    rw [← cn_A, ← cn_A, ← cn_A] at h1 h2
    have h1 : allA (vA g1) ≠ 0 := h1
    have e : v = shV (vA g1) := h2
    subst e
    have F := f2_ok (V := vA g1) r1 (by unfold allA at h1 ⊢; omega)
    refine q_f2d C dL_doneShare_6 F.1 ?_
    refine q_dast C (b := 37) (n := 1) rfl (by decide) (by decide) (by omega) (show (0 : Int) ≤ _ ∧ _ ≤ (18446744073709551615 : Int) from ⟨by omega, by have := (FP.f2d (shV (vA g1))).toNat_lt; omega⟩) dL_doneShare_7 ?_
    refine q_goto C 14 dL_doneShare_8 (by decide) ?_
    refine q_iconst C dL_doneShare_14 ?_
    exact q_iretI C dL_doneShare_15 (by omega) (by omega) (Or.inl ⟨rfl, h1, rfl⟩)
abbrev rP_doneShare (g0 : qHp) : UInt32 → qHp → Prop := fun r g' => (cntI (stO g0 100) (g0 23 13).toNat + cntI (stO g0 109) (g0 23 13).toNat + cntI (stO g0 103) (g0 23 13).toNat ≠ 0 ∧ r = FP.fdiv (FP.i2f (iI (cntI (stO g0 100) (g0 23 13).toNat))) (FP.i2f (iI (cntI (stO g0 100) (g0 23 13).toNat + cntI (stO g0 109) (g0 23 13).toNat + cntI (stO g0 103) (g0 23 13).toNat))) ∧ g' = g0) ∨ (cntI (stO g0 100) (g0 23 13).toNat + cntI (stO g0 109) (g0 23 13).toNat + cntI (stO g0 103) (g0 23 13).toNat = 0 ∧ g' = qUp g0 23 0 1)
theorem LC_doneShare {g g1 g2 : qHp} {kc : Int} {rb : UInt32} (I : LI g) (hn : qNm g) (h : hdQ g kc g1) (h2 : rP_doneShare (c0 g1) rb g2) : kc = g2 23 0 ∧ (kc = 0 → g2 37 0 = ((FP.f2d (shV (vA g))).toNat : Int) ∧ rb = shV (vA g) ∧ (vf_n64 (FP.f2d (shV (vA g))) ∧ Op.cmpValue (FP.dcmp (FP.f2d (shV (vA g))) (FP.f2d (shV (vA g)))) .l = iI 0)) ∧ LI g2 := by
  have r1 := cn_rng hn 100
  have r2 := cn_rng hn 109
  have r3 := cn_rng hn 103
  obtain ⟨I1, I2, I3, I4⟩ := I
  have hl : ∀ j, j ≠ 37 → g1 j = g j := by
    intro j hj
    rcases h with ⟨-, -, rfl⟩ | ⟨-, -, rfl⟩
    · rw [qUp_row hj]
    · rfl
  obtain ⟨c1, c2, c3⟩ := cI_low I1 (fun j hj => hl j (by omega))
  obtain ⟨J, v1, v2⟩ := rI_mid I2 (fun j _ b => hl j (by omega))
  obtain ⟨a1, a2, a3, a4, a5, a6⟩ := c0_facts J
  have ev : vB (c0 g1) = vA g := by rw [a4, v1, I3]
  have h2' : (allA (vA g) ≠ 0 ∧ rb = shV (vA g) ∧ g2 = c0 g1) ∨ (allA (vA g) = 0 ∧ g2 = qUp (c0 g1) 23 0 1) := by
    unfold allA shV
    rw [← ev, cn_B, cn_B, cn_B]
    exact h2
  rcases h2' with ⟨q1, q2, rfl⟩ | ⟨q1, rfl⟩
  · rcases h with ⟨rfl, p1, e⟩ | ⟨rfl, p1, e⟩
    · obtain ⟨d1, d2, d3⟩ := cI_low c1 (g1 := c0 g1) (fun j hj => a6 j (Or.inl hj))
      refine ⟨a3.symm, fun _ => ⟨?_, q2, f2_ok r1 (by unfold allA at q1 ⊢; omega)⟩, d1, ⟨a1, a2⟩, by rw [d2, c2, ev], by rw [d3, c3, a5, v2, I4]⟩
      rw [a6 37 (by decide), e, qUp_s]
    · exact absurd p1 q1
  · rcases h with ⟨rfl, p1, e⟩ | ⟨rfl, p1, e⟩
    · exact absurd q1 p1
    · obtain ⟨e1, e2, e3, e4, e5⟩ := rN (k := 1) a1 a2
      obtain ⟨d1, d2, d3⟩ := cI_low c1 (g1 := qUp (c0 g1) 23 0 1) (fun j hj => (e5 j (Or.inl hj)).trans (a6 j (Or.inl hj)))
      exact ⟨e1.symm, fun z => by omega, d1, e4, by rw [d2, c2, e2, ev], by rw [d3, c3, e3, a5, v2, I4]⟩
theorem LF_addStack {g g1 : qHp} {kc : Int} {rc : Int} (I : LI g) (hn : qNm g) (hq0 : hlQ [xIA, xIS] (cP_addStack g rc) (cX_addStack g rc) kc g1) : yK (c0 g1) 0 ∧ insN (c0 g1) (stB (c0 g1)) ∧ bInv (vB (c0 g1)) (stB (c0 g1)) := law_fr I (fun k r h1 q => (C_addStack I.1 hn (LI_cm I) q).2.2) hq0
theorem LF_addBox {g g1 : qHp} {kc : Int} {w s : Int} (I : LI g) (hn : qNm g) (hq0 : hlQ [xIO, xIA, xUO, xIS] (cP_addBox g w s) (cX_addBox g w s) kc g1) : yK (c0 g1) 0 ∧ insN (c0 g1) (stB (c0 g1)) ∧ bInv (vB (c0 g1)) (stB (c0 g1)) := law_fr I (fun k r h1 q => (C_addBox I.1 hn (LI_cm I) q).2.2) hq0
theorem LF_weight {g g1 : qHp} {kc : Int} {x : Int} (I : LI g) (hn : qNm g) (hq0 : hlQ [xIO] (cP_weight g x) (cX_weight g x) kc g1) : yK (c0 g1) 0 ∧ insN (c0 g1) (stB (c0 g1)) ∧ bInv (vB (c0 g1)) (stB (c0 g1)) := law_fr I (fun k r h1 q => (C_weight I.1 hn (LI_cm I) q).2.2) hq0
theorem LF_stackOf {g g1 : qHp} {kc : Int} {x : Int} (I : LI g) (hn : qNm g) (hq0 : hlQ [xIO] (cP_stackOf g x) (cX_stackOf g x) kc g1) : yK (c0 g1) 0 ∧ insN (c0 g1) (stB (c0 g1)) ∧ bInv (vB (c0 g1)) (stB (c0 g1)) := law_fr I (fun k r h1 q => (C_stackOf I.1 hn (LI_cm I) q).2.2) hq0
theorem LF_level {g g1 : qHp} {kc : Int} {x : Int} (I : LI g) (hn : qNm g) (hq0 : hlQ [xIO] (cP_level g x) (cX_level g x) kc g1) : yK (c0 g1) 0 ∧ insN (c0 g1) (stB (c0 g1)) ∧ bInv (vB (c0 g1)) (stB (c0 g1)) := law_fr I (fun k r h1 q => (C_level I.1 hn (LI_cm I) q).2.2) hq0
theorem LF_above {g g1 : qHp} {kc : Int} {x : Int} (I : LI g) (hn : qNm g) (hq0 : hlQ [xIO] (cP_above g x) (cX_above g x) kc g1) : yK (c0 g1) 0 ∧ insN (c0 g1) (stB (c0 g1)) ∧ bInv (vB (c0 g1)) (stB (c0 g1)) := law_fr I (fun k r h1 q => (C_above I.1 hn (LI_cm I) q).2.2) hq0
theorem LF_height {g g1 : qHp} {kc : Int} {s : Int} (I : LI g) (hn : qNm g) (hq0 : hlQ [xIO] (cP_height g s) (cX_height g s) kc g1) : yK (c0 g1) 0 ∧ insN (c0 g1) (stB (c0 g1)) ∧ bInv (vB (c0 g1)) (stB (c0 g1)) := law_fr I (fun k r h1 q => (C_height I.1 hn (LI_cm I) q).2.2) hq0
theorem LF_boxAt {g g1 : qHp} {kc : Int} {s k : Int} (I : LI g) (hn : qNm g) (hq0 : hlQ [xIO, xNS] (cP_boxAt g s k) (cX_boxAt g s k) kc g1) : yK (c0 g1) 0 ∧ insN (c0 g1) (stB (c0 g1)) ∧ bInv (vB (c0 g1)) (stB (c0 g1)) := law_fr I (fun k r h1 q => (C_boxAt I.1 hn (LI_cm I) q).2.2) hq0
theorem LF_hold {g g1 : qHp} {kc : Int} {x kd ut : Int} (I : LI g) (hn : qNm g) (hq0 : hlQ [xIO, xIA] (cP_hold g x kd ut) (cX_hold g x kd ut) kc g1) : yK (c0 g1) 0 ∧ insN (c0 g1) (stB (c0 g1)) ∧ bInv (vB (c0 g1)) (stB (c0 g1)) := law_fr I (fun k r h1 q => (C_hold I.1 hn (LI_cm I) q).2.2) hq0
theorem LF_release {g g1 : qHp} {kc : Int} {x : Int} (I : LI g) (hn : qNm g) (hq0 : hlQ [xIO, xIS] (cP_release g x) (cX_release g x) kc g1) : yK (c0 g1) 0 ∧ insN (c0 g1) (stB (c0 g1)) ∧ bInv (vB (c0 g1)) (stB (c0 g1)) := law_fr I (fun k r h1 q => (C_release I.1 hn (LI_cm I) q).2.2) hq0
theorem LF_holdOf {g g1 : qHp} {kc : Int} {x : Int} (I : LI g) (hn : qNm g) (hq0 : hlQ [xIO] (cP_holdOf g x) (cX_holdOf g x) kc g1) : yK (c0 g1) 0 ∧ insN (c0 g1) (stB (c0 g1)) ∧ bInv (vB (c0 g1)) (stB (c0 g1)) := law_fr I (fun k r h1 q => (C_holdOf I.1 hn (LI_cm I) q).2.2) hq0
theorem LF_heldUntil {g g1 : qHp} {kc : Int} {x : Int} (I : LI g) (hn : qNm g) (hq0 : hlQ [xIO, xNS] (cP_heldUntil g x) (cX_heldUntil g x) kc g1) : yK (c0 g1) 0 ∧ insN (c0 g1) (stB (c0 g1)) ∧ bInv (vB (c0 g1)) (stB (c0 g1)) := law_fr I (fun k r h1 q => (C_heldUntil I.1 hn (LI_cm I) q).2.2) hq0
theorem LF_pinnedAbove {g g1 : qHp} {kc : Int} {x : Int} (I : LI g) (hn : qNm g) (hq0 : hlQ [xIO] (cP_pinnedAbove g x) (cX_pinnedAbove g x) kc g1) : yK (c0 g1) 0 ∧ insN (c0 g1) (stB (c0 g1)) ∧ bInv (vB (c0 g1)) (stB (c0 g1)) := law_fr I (fun k r h1 q => (C_pinnedAbove I.1 hn (LI_cm I) q).2.2) hq0
theorem LF_why {g g1 : qHp} {kc : Int} {x s : Int} (I : LI g) (hn : qNm g) (hq0 : hlQ [xIO] (cP_why g x s) (cX_why g x s) kc g1) : yK (c0 g1) 0 ∧ insN (c0 g1) (stB (c0 g1)) ∧ bInv (vB (c0 g1)) (stB (c0 g1)) := law_fr I (fun k r h1 q => (C_why I.1 hn (LI_cm I) q).2.2) hq0
theorem LF_move {g g1 : qHp} {kc : Int} {x s : Int} (I : LI g) (hn : qNm g) (hq0 : hlQ [xIO, xUO] (cP_move g x s) (cX_move g x s) kc g1) : yK (c0 g1) 0 ∧ insN (c0 g1) (stB (c0 g1)) ∧ bInv (vB (c0 g1)) (stB (c0 g1)) := law_fr I (fun k r h1 q => (C_move I.1 hn (LI_cm I) q).2.2) hq0
theorem LF_planLength {g g1 : qHp} {kc : Int} {b : Int} (I : LI g) (hn : qNm g) (hq0 : hlQ [xIO, xNS] (cP_planLength g b) (cX_planLength g b) kc g1) : yK (c0 g1) 0 ∧ insN (c0 g1) (stB (c0 g1)) ∧ bInv (vB (c0 g1)) (stB (c0 g1)) := law_fr I (fun k r h1 q => (C_planLength I.1 hn (LI_cm I) q).2.2) hq0
theorem LF_planByTrying {g g1 : qHp} {kc : Int} {b : Int} (I : LI g) (hn : qNm g) (hq0 : hlQ [xIO, xNS] (cP_planByTrying g b) (cX_planByTrying g b) kc g1) : yK (c0 g1) 0 ∧ insN (c0 g1) (stB (c0 g1)) ∧ bInv (vB (c0 g1)) (stB (c0 g1)) := law_fr I (fun k r h1 q => (C_planByTrying I.1 hn (LI_cm I) q).2.2) hq0
theorem LF_planBox {g g1 : qHp} {kc : Int} {b i : Int} (I : LI g) (hn : qNm g) (hq0 : hlQ [xIO, xNS] (cP_planBox g b i) (cX_planBox g b i) kc g1) : yK (c0 g1) 0 ∧ insN (c0 g1) (stB (c0 g1)) ∧ bInv (vB (c0 g1)) (stB (c0 g1)) := law_fr I (fun k r h1 q => (C_planBox I.1 hn (LI_cm I) q).2.2) hq0
theorem LF_planStack {g g1 : qHp} {kc : Int} {b i : Int} (I : LI g) (hn : qNm g) (hq0 : hlQ [xIO, xNS] (cP_planStack g b i) (cX_planStack g b i) kc g1) : yK (c0 g1) 0 ∧ insN (c0 g1) (stB (c0 g1)) ∧ bInv (vB (c0 g1)) (stB (c0 g1)) := law_fr I (fun k r h1 q => (C_planStack I.1 hn (LI_cm I) q).2.2) hq0
theorem LF_dig {g g1 : qHp} {kc : Int} {b : Int} (I : LI g) (hn : qNm g) (hq0 : hlQ [xIO, xNS] (cP_dig g b) (cX_dig g b) kc g1) : yK (c0 g1) 0 ∧ insN (c0 g1) (stB (c0 g1)) ∧ bInv (vB (c0 g1)) (stB (c0 g1)) := law_fr I (fun k r h1 q => (C_dig I.1 hn (LI_cm I) q).2.2) hq0
theorem LF_book {g g1 : qHp} {kc : Int} {x h l : Int} (I : LI g) (hn : qNm g) (hq0 : hlQ [xIO, xIA, xUO, xIS] (cP_book g x h l) (cX_book g x h l) kc g1) : yK (c0 g1) 0 ∧ insN (c0 g1) (stB (c0 g1)) ∧ bInv (vB (c0 g1)) (stB (c0 g1)) := law_fr I (fun k r h1 q => (C_book I.1 hn (LI_cm I) q).2.2) hq0
theorem LF_cancel {g g1 : qHp} {kc : Int} {a : Int} (I : LI g) (hn : qNm g) (hq0 : hlQ [xIO, xIS] (cP_cancel g a) (cX_cancel g a) kc g1) : yK (c0 g1) 0 ∧ insN (c0 g1) (stB (c0 g1)) ∧ bInv (vB (c0 g1)) (stB (c0 g1)) := law_fr I (fun k r h1 q => (C_cancel I.1 hn (LI_cm I) q).2.2) hq0
theorem LF_stateOf {g g1 : qHp} {kc : Int} {a : Int} (I : LI g) (hn : qNm g) (hq0 : hlQ [xIO] (cP_stateOf g a) (cX_stateOf g a) kc g1) : yK (c0 g1) 0 ∧ insN (c0 g1) (stB (c0 g1)) ∧ bInv (vB (c0 g1)) (stB (c0 g1)) := law_fr I (fun k r h1 q => (C_stateOf I.1 hn (LI_cm I) q).2.2) hq0
theorem LF_appointmentOf {g g1 : qHp} {kc : Int} {x : Int} (I : LI g) (hn : qNm g) (hq0 : hlQ [xIO, xNS] (cP_appointmentOf g x) (cX_appointmentOf g x) kc g1) : yK (c0 g1) 0 ∧ insN (c0 g1) (stB (c0 g1)) ∧ bInv (vB (c0 g1)) (stB (c0 g1)) := law_fr I (fun k r h1 q => (C_appointmentOf I.1 hn (LI_cm I) q).2.2) hq0
theorem LF_inLane {g g1 : qHp} {kc : Int} {l h : Int} (I : LI g) (hn : qNm g) (hq0 : hlQ [xIO, xIA] (cP_inLane g l h) (cX_inLane g l h) kc g1) : yK (c0 g1) 0 ∧ insN (c0 g1) (stB (c0 g1)) ∧ bInv (vB (c0 g1)) (stB (c0 g1)) := law_fr I (fun k r h1 q => (C_inLane I.1 hn (LI_cm I) q).2.2) hq0
theorem LF_firstHour {g g1 : qHp} {kc : Int} {x : Int} (I : LI g) (hn : qNm g) (hq0 : hlQ [xIO, xNS] (cP_firstHour g x) (cX_firstHour g x) kc g1) : yK (c0 g1) 0 ∧ insN (c0 g1) (stB (c0 g1)) ∧ bInv (vB (c0 g1)) (stB (c0 g1)) := law_fr I (fun k r h1 q => (C_firstHour I.1 hn (LI_cm I) q).2.2) hq0
theorem LF_pass {g g1 : qHp} {kc : Int} {n : Int} (I : LI g) (hn : qNm g) (hq0 : hlQ [xIA] (cP_pass g n) (cX_pass g n) kc g1) : yK (c0 g1) 0 ∧ insN (c0 g1) (stB (c0 g1)) ∧ bInv (vB (c0 g1)) (stB (c0 g1)) := law_fr I (fun k r h1 q => (C_pass I.1 hn (LI_cm I) q).2.2) hq0
