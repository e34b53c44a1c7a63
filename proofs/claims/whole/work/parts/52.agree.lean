/-! both sides agree -/
def LI (g : qHp) : Prop := cInv g ∧ rInv g ∧ vA g = vB g ∧ stA g = stB g
section AG
variable {g g1 g2 : qHp}
theorem LI_cm (I : LI g) : cmI g := by
  intro x hx
  rw [I.2.2.2] at hx
  have h := ((I.2.1.2 x).mp hx).2.1
  have e : g 1 3 = g 23 4 := congrFun (congrFun I.2.2.1 0) 4
  rw [e]
  exact h
theorem xcd_le : ∀ {Es : List String} {n k : Int} {E : String}, xcd Es n E k → n ≤ k
  | [], _, _, _, h => h.elim
  | F :: l, n, k, E, h => by
    rcases h with ⟨-, h⟩ | h
    · omega
    · have := xcd_le h
      omega
theorem cI_low (I : cInv g) (h : ∀ j, j < 23 → g1 j = g j) : cInv g1 ∧ vA g1 = vA g ∧ stA g1 = stA g := by
  obtain ⟨o, hc, hc8, hB⟩ := I
  have hv : vA g1 = vA g := by
    rw [vA_V g1, vA_V g, h 0 (by decide), h 5 (by decide), h 1 (by decide), h 18 (by decide), h 6 (by decide), h 2 (by decide), h 3 (by decide), h 4 (by decide), h 19 (by decide), h 20 (by decide), h 21 (by decide), h 22 (by decide)]
  have hs : stA g1 = stA g := by
    unfold stA
    rw [h 7 (by decide), h 8 (by decide)]
  have e : cntY g1 = cntY g := by
    unfold cntY
    rw [h 9 (by decide)]
  refine ⟨⟨?_, by rw [e, h 5 (by decide)]; exact hc, by rw [e]; exact hc8, by rw [hv, hs]; exact hB⟩, hv, hs⟩
  rw [h 5 (by decide), h 6 (by decide), h 7 (by decide), h 8 (by decide), h 9 (by decide)]
  exact o
theorem rI_mid (I : rInv g) (h : ∀ j, 23 ≤ j → j < 36 → g1 j = g j) : rInv g1 ∧ vB g1 = vB g ∧ stB g1 = stB g := by
  obtain ⟨J, hs⟩ := rI_same (g1 := g1) I.1 I.2 (fun j _ => by rw [h 23 (by decide) (by decide)]) (fun k hk => h k (by omega) (by omega))
  refine ⟨J, ?_, hs⟩
  rw [vB_d g1, vB_d g, h 23 (by decide) (by decide), h 24 (by decide) (by decide), h 25 (by decide) (by decide), h 27 (by decide) (by decide), h 28 (by decide) (by decide), h 32 (by decide) (by decide), h 33 (by decide) (by decide), h 34 (by decide) (by decide), h 35 (by decide) (by decide)]
abbrev spS : Type := qHp → St → Int → Int → qHp → St → Prop
theorem law_core {sp : spS} {k b r : Int} (I : LI g) (hn1 : qNm g1) (hA : sp (vA g) (stA g) k r (vA g1) (stA g1)) (cI : cInv g1) (hf : ∀ j, 23 ≤ j → j < 36 → g1 j = g j)
    (hR : yK (c0 g1) 0 → insN (c0 g1) (stB (c0 g1)) → c0 g1 23 0 = 0 → qNm (c0 g1) → sp (vB (c0 g1)) (stB (c0 g1)) (g2 23 0) b (vB g2) (stB g2) ∧ rInv g2 ∧ ∀ j, j < 23 ∨ 36 ≤ j → g2 j = c0 g1 j)
    (hD : ∀ k1 r1 V1 S1 k2 r2 V2 S2, sp (vA g) (stA g) k1 r1 V1 S1 → sp (vA g) (stA g) k2 r2 V2 S2 → k1 = k2 ∧ (k1 = 0 → r1 = r2) ∧ V1 = V2 ∧ S1 = S2) : k = g2 23 0 ∧ (k = 0 → r = b) ∧ LI g2 ∧ ∀ j, j < 23 ∨ 36 ≤ j → g2 j = g1 j := by
  obtain ⟨I1, I2, I3, I4⟩ := I
  obtain ⟨J, v1, v2⟩ := rI_mid I2 hf
  obtain ⟨a1, a2, a3, a4, a5, a6⟩ := c0_facts J
  obtain ⟨r1, r2, r3⟩ := hR a1 a2 a3 (qUp_nm hn1 (by decide))
  rw [a4, a5, v1, v2, ← I3, ← I4] at r1
  obtain ⟨d1, d2, d3, d4⟩ := hD _ _ _ _ _ _ _ _ hA r1
  have hl : ∀ j, j < 23 ∨ 36 ≤ j → g2 j = g1 j := fun j hj => (r3 j hj).trans (a6 j hj)
  obtain ⟨c1, c2, c3⟩ := cI_low cI (fun j hj => hl j (Or.inl hj))
  exact ⟨d1, d2, ⟨c1, r2, by rw [c2, d3], by rw [c3, d4]⟩, hl⟩
theorem law_agree {Es : List String} {P : Int → qHp → Prop} {X : String → qHp → Prop} {sp : spS} {k b : Int} (I : LI g) (hn1 : qNm g1)
    (hC : ∀ k r h1, hpP Es P X k r h1 → sp (vA g) (stA g) k r (vA h1) (stA h1) ∧ cInv h1 ∧ ∀ j, 23 ≤ j → h1 j = g j)
    (hR : yK (c0 g1) 0 → insN (c0 g1) (stB (c0 g1)) → c0 g1 23 0 = 0 → qNm (c0 g1) → sp (vB (c0 g1)) (stB (c0 g1)) (g2 23 0) b (vB g2) (stB g2) ∧ rInv g2 ∧ ∀ j, j < 23 ∨ 36 ≤ j → g2 j = c0 g1 j)
    (hD : ∀ k1 r1 V1 S1 k2 r2 V2 S2, sp (vA g) (stA g) k1 r1 V1 S1 → sp (vA g) (stA g) k2 r2 V2 S2 → k1 = k2 ∧ (k1 = 0 → r1 = r2) ∧ V1 = V2 ∧ S1 = S2)
    (h : hlQ Es P X k g1) : k = g2 23 0 ∧ (k = 0 → g2 36 0 = b) ∧ LI g2 := by
  have key : ∃ r, sp (vA g) (stA g) k r (vA g1) (stA g1) ∧ cInv g1 ∧ (∀ j, 23 ≤ j → j < 36 → g1 j = g j) ∧ (k = 0 → g1 36 0 = r) := by
    rcases h with ⟨hk, r, h1, hP, he⟩ | ⟨E, hX, hx⟩
    · obtain ⟨s1, s2, s3⟩ := hC k r h1 (Or.inl ⟨hk, hP⟩)
      have hl : ∀ j, j ≠ 36 → g1 j = h1 j := fun j hj => by rw [he, qUp_row hj]
      obtain ⟨c1, c2, c3⟩ := cI_low s2 (fun j hj => hl j (by omega))
      exact ⟨r, by rw [c2, c3]; exact s1, c1, fun j a b => by rw [hl j (by omega), s3 j a], fun _ => by rw [he, qUp_s]⟩
    · obtain ⟨s1, s2, s3⟩ := hC k 0 g1 (Or.inr ⟨E, hX, hx⟩)
      exact ⟨0, s1, s2, fun j a _ => s3 j a, fun q => by have := xcd_le hx; omega⟩
  obtain ⟨r, k1, k2, k3, k4⟩ := key
  obtain ⟨d1, d2, d3, d4⟩ := law_core I hn1 k1 k2 k3 hR hD
  exact ⟨d1, fun q => by rw [d4 36 (by decide), k4 q]; exact d2 q, d3⟩
/-- a call that can't be refused -/
theorem law_agree0 {P : Int → qHp → Prop} {sp : spS} {r b : Int} (I : LI g) (hn1 : qNm g1)
    (hC : ∀ k r h1, hpP [] P qNo k r h1 → sp (vA g) (stA g) k r (vA h1) (stA h1) ∧ cInv h1 ∧ ∀ j, 23 ≤ j → h1 j = g j)
    (hR : yK (c0 g1) 0 → insN (c0 g1) (stB (c0 g1)) → c0 g1 23 0 = 0 → qNm (c0 g1) → sp (vB (c0 g1)) (stB (c0 g1)) (g2 23 0) b (vB g2) (stB g2) ∧ rInv g2 ∧ ∀ j, j < 23 ∨ 36 ≤ j → g2 j = c0 g1 j)
    (hD : ∀ k1 r1 V1 S1 k2 r2 V2 S2, sp (vA g) (stA g) k1 r1 V1 S1 → sp (vA g) (stA g) k2 r2 V2 S2 → k1 = k2 ∧ (k1 = 0 → r1 = r2) ∧ V1 = V2 ∧ S1 = S2)
    (h : P r g1) : r = b ∧ LI g2 := by
  obtain ⟨s1, s2, s3⟩ := hC 0 r g1 (Or.inl ⟨rfl, h⟩)
  obtain ⟨d1, d2, d3, d4⟩ := law_core I hn1 s1 s2 (fun j a _ => s3 j a) hR hD
  exact ⟨d2 rfl, d3⟩
theorem LI_O (I : LI g) : vA g 0 3 ≤ 4 ∧ (∀ t, vA g 1 t ≤ 4) ∧ wfS (vA g 0 3) (stA g) := ⟨I.1.1.1.2, yOK_cut I.1.1, I.1.1.2.2.2.2.1⟩
end AG
theorem LC_addStack {g g1 g2 : qHp} {kc rb : Int} {rc : Int} (I : LI g) (hn : qNm g) (hn1 : qNm g1) (hq0 : hlQ [xIA, xIS] (cP_addStack g rc) (cX_addStack g rc) kc g1) (h2 : rP_addStack (c0 g1) rc rb g2) : kc = g2 23 0 ∧ (kc = 0 → g2 36 0 = rb) ∧ LI g2 :=
  law_agree (sp := fun V S => sp_addStack rc V S) I hn1 (fun _ _ _ q => C_addStack I.1 hn (LI_cm I) q) (fun o hio hz hnc => R_addStack o hio hz hnc h2) (fun _ _ _ _ _ _ _ _ a b => spc_det (fxA_D _ _ _) a b) hq0
theorem LC_addBox {g g1 g2 : qHp} {kc rb : Int} {w s : Int} (I : LI g) (hn : qNm g) (hn1 : qNm g1) (hq0 : hlQ [xIO, xIA, xUO, xIS] (cP_addBox g w s) (cX_addBox g w s) kc g1) (h2 : rP_addBox (c0 g1) w s rb g2) : kc = g2 23 0 ∧ (kc = 0 → g2 36 0 = rb) ∧ LI g2 :=
  law_agree (sp := fun V S => sp_addBox w s V S) I hn1 (fun _ _ _ q => C_addBox I.1 hn (LI_cm I) q) (fun o hio hz hnc => R_addBox o hio hz hnc h2) (fun _ _ _ _ _ _ _ _ a b => spc_det (fxA_D _ _ _) a b) hq0
theorem LC_boxes {g g1 g2 : qHp} {ra rb : Int} (I : LI g) (hn : qNm g) (hn1 : qNm g1) (hq0 : cP_boxes g ra g1) (h2 : rP_boxes (c0 g1) rb g2) : ra = rb ∧ LI g2 :=
  law_agree0 (sp := fun V S => sp_boxes V S) I hn1 (fun _ _ _ q => C_boxes I.1 hn (LI_cm I) q) (fun o hio hz hnc => R_boxes o hio hz hnc h2) (fun _ _ _ _ _ _ _ _ a b => spc_det (fxA_D _ _ _) a b) hq0
theorem LC_isInYard {g g1 g2 : qHp} {ra rb : Int} {x : Int} (I : LI g) (hn : qNm g) (hn1 : qNm g1) (hq0 : cP_isInYard g x ra g1) (h2 : rP_isInYard (c0 g1) x rb g2) : ra = rb ∧ LI g2 :=
  law_agree0 (sp := fun V S => sp_isInYard x V S) I hn1 (fun _ _ _ q => C_isInYard I.1 hn (LI_cm I) q) (fun o hio hz hnc => R_isInYard o hio hz hnc h2) (fun _ _ _ _ _ _ _ _ a b => spc_det inY_D a b) hq0
theorem LC_weight {g g1 g2 : qHp} {kc rb : Int} {x : Int} (I : LI g) (hn : qNm g) (hn1 : qNm g1) (hq0 : hlQ [xIO] (cP_weight g x) (cX_weight g x) kc g1) (h2 : rP_weight (c0 g1) x rb g2) : kc = g2 23 0 ∧ (kc = 0 → g2 36 0 = rb) ∧ LI g2 :=
  law_agree (sp := fun V S => sp_weight x V S) I hn1 (fun _ _ _ q => C_weight I.1 hn (LI_cm I) q) (fun o hio hz hnc => R_weight o hio hz hnc h2) (fun _ _ _ _ _ _ _ _ a b => spc_det (fxA_D _ _ _) a b) hq0
theorem LC_stackOf {g g1 g2 : qHp} {kc rb : Int} {x : Int} (I : LI g) (hn : qNm g) (hn1 : qNm g1) (hq0 : hlQ [xIO] (cP_stackOf g x) (cX_stackOf g x) kc g1) (h2 : rP_stackOf (c0 g1) x rb g2) : kc = g2 23 0 ∧ (kc = 0 → g2 36 0 = rb) ∧ LI g2 :=
  law_agree (sp := fun V S => sp_stackOf x V S) I hn1 (fun _ _ _ q => C_stackOf I.1 hn (LI_cm I) q) (fun o hio hz hnc => R_stackOf o hio hz hnc h2) (fun _ _ _ _ _ _ _ _ a b => spc_det (fxA_D _ _ _) a b) hq0
theorem LC_level {g g1 g2 : qHp} {kc rb : Int} {x : Int} (I : LI g) (hn : qNm g) (hn1 : qNm g1) (hq0 : hlQ [xIO] (cP_level g x) (cX_level g x) kc g1) (h2 : rP_level (c0 g1) x rb g2) : kc = g2 23 0 ∧ (kc = 0 → g2 36 0 = rb) ∧ LI g2 :=
  law_agree (sp := fun V S => sp_level x V S) I hn1 (fun _ _ _ q => C_level I.1 hn (LI_cm I) q) (fun o hio hz hnc => R_level o hio hz hnc h2) (fun _ _ _ _ _ _ _ _ a b => spc_det (fxA_D _ _ _) a b) hq0
theorem LC_above {g g1 g2 : qHp} {kc rb : Int} {x : Int} (I : LI g) (hn : qNm g) (hn1 : qNm g1) (hq0 : hlQ [xIO] (cP_above g x) (cX_above g x) kc g1) (h2 : rP_above (c0 g1) x rb g2) : kc = g2 23 0 ∧ (kc = 0 → g2 36 0 = rb) ∧ LI g2 :=
  law_agree (sp := fun V S => sp_above x V S) I hn1 (fun _ _ _ q => C_above I.1 hn (LI_cm I) q) (fun o hio hz hnc => R_above o hio hz hnc h2) (fun _ _ _ _ _ _ _ _ a b => spc_det (fxA_D _ _ _) a b) hq0
theorem LC_height {g g1 g2 : qHp} {kc rb : Int} {s : Int} (I : LI g) (hn : qNm g) (hn1 : qNm g1) (hq0 : hlQ [xIO] (cP_height g s) (cX_height g s) kc g1) (h2 : rP_height (c0 g1) s rb g2) : kc = g2 23 0 ∧ (kc = 0 → g2 36 0 = rb) ∧ LI g2 :=
  law_agree (sp := fun V S => sp_height s V S) I hn1 (fun _ _ _ q => C_height I.1 hn (LI_cm I) q) (fun o hio hz hnc => R_height o hio hz hnc h2) (fun _ _ _ _ _ _ _ _ a b => spc_det (fxA_D _ _ _) a b) hq0
theorem LC_boxAt {g g1 g2 : qHp} {kc rb : Int} {s k : Int} (I : LI g) (hn : qNm g) (hn1 : qNm g1) (hq0 : hlQ [xIO, xNS] (cP_boxAt g s k) (cX_boxAt g s k) kc g1) (h2 : rP_boxAt (c0 g1) s k rb g2) : kc = g2 23 0 ∧ (kc = 0 → g2 36 0 = rb) ∧ LI g2 :=
  law_agree (sp := fun V S => sp_boxAt s k V S) I hn1 (fun _ _ _ q => C_boxAt I.1 hn (LI_cm I) q) (fun o hio hz hnc => R_boxAt o hio hz hnc h2) (fun _ _ _ _ _ _ _ _ a b => spc_det (fxA_D _ _ _) a b) hq0
theorem LC_hold {g g1 g2 : qHp} {kc rb : Int} {x kd ut : Int} (I : LI g) (hn : qNm g) (hn1 : qNm g1) (hq0 : hlQ [xIO, xIA] (cP_hold g x kd ut) (cX_hold g x kd ut) kc g1) (h2 : rP_hold (c0 g1) x kd ut rb g2) : kc = g2 23 0 ∧ (kc = 0 → g2 36 0 = rb) ∧ LI g2 :=
  law_agree (sp := fun V S => sp_hold x kd ut V S) I hn1 (fun _ _ _ q => C_hold I.1 hn (LI_cm I) q) (fun o hio hz hnc => R_hold o hio hz hnc h2) (fun _ _ _ _ _ _ _ _ a b => spc_det hold_D a b) hq0
theorem LC_release {g g1 g2 : qHp} {kc rb : Int} {x : Int} (I : LI g) (hn : qNm g) (hn1 : qNm g1) (hq0 : hlQ [xIO, xIS] (cP_release g x) (cX_release g x) kc g1) (h2 : rP_release (c0 g1) x rb g2) : kc = g2 23 0 ∧ (kc = 0 → g2 36 0 = rb) ∧ LI g2 :=
  law_agree (sp := fun V S => sp_release x V S) I hn1 (fun _ _ _ q => C_release I.1 hn (LI_cm I) q) (fun o hio hz hnc => R_release o hio hz hnc h2) (fun _ _ _ _ _ _ _ _ a b => spc_det (fxA_D _ _ _) a b) hq0
theorem LC_holdOf {g g1 g2 : qHp} {kc rb : Int} {x : Int} (I : LI g) (hn : qNm g) (hn1 : qNm g1) (hq0 : hlQ [xIO] (cP_holdOf g x) (cX_holdOf g x) kc g1) (h2 : rP_holdOf (c0 g1) x rb g2) : kc = g2 23 0 ∧ (kc = 0 → g2 36 0 = rb) ∧ LI g2 :=
  law_agree (sp := fun V S => sp_holdOf x V S) I hn1 (fun _ _ _ q => C_holdOf I.1 hn (LI_cm I) q) (fun o hio hz hnc => R_holdOf o hio hz hnc h2) (fun _ _ _ _ _ _ _ _ a b => spc_det (fxA_D _ _ _) a b) hq0
theorem LC_heldUntil {g g1 g2 : qHp} {kc rb : Int} {x : Int} (I : LI g) (hn : qNm g) (hn1 : qNm g1) (hq0 : hlQ [xIO, xNS] (cP_heldUntil g x) (cX_heldUntil g x) kc g1) (h2 : rP_heldUntil (c0 g1) x rb g2) : kc = g2 23 0 ∧ (kc = 0 → g2 36 0 = rb) ∧ LI g2 :=
  law_agree (sp := fun V S => sp_heldUntil x V S) I hn1 (fun _ _ _ q => C_heldUntil I.1 hn (LI_cm I) q) (fun o hio hz hnc => R_heldUntil o hio hz hnc h2) (fun _ _ _ _ _ _ _ _ a b => spc_det (fxA_D _ _ _) a b) hq0
theorem LC_pinnedAbove {g g1 g2 : qHp} {kc rb : Int} {x : Int} (I : LI g) (hn : qNm g) (hn1 : qNm g1) (hq0 : hlQ [xIO] (cP_pinnedAbove g x) (cX_pinnedAbove g x) kc g1) (h2 : rP_pinnedAbove (c0 g1) x rb g2) : kc = g2 23 0 ∧ (kc = 0 → g2 36 0 = rb) ∧ LI g2 :=
  law_agree (sp := fun V S => sp_pinnedAbove x V S) I hn1 (fun _ _ _ q => C_pinnedAbove I.1 hn (LI_cm I) q) (fun o hio hz hnc => R_pinnedAbove o hio hz hnc h2) (fun _ _ _ _ _ _ _ _ a b => spc_det (fxA_D _ _ _) a b) hq0
theorem LC_why {g g1 g2 : qHp} {kc rb : Int} {x s : Int} (I : LI g) (hn : qNm g) (hn1 : qNm g1) (hq0 : hlQ [xIO] (cP_why g x s) (cX_why g x s) kc g1) (h2 : rP_why (c0 g1) x s rb g2) : kc = g2 23 0 ∧ (kc = 0 → g2 36 0 = rb) ∧ LI g2 :=
  law_agree (sp := fun V S => sp_why x s V S) I hn1 (fun _ _ _ q => C_why I.1 hn (LI_cm I) q) (fun o hio hz hnc => R_why o hio hz hnc h2) (fun _ _ _ _ _ _ _ _ a b => spc_det why_D a b) hq0
theorem LC_move {g g1 g2 : qHp} {kc rb : Int} {x s : Int} (I : LI g) (hn : qNm g) (hn1 : qNm g1) (hq0 : hlQ [xIO, xUO] (cP_move g x s) (cX_move g x s) kc g1) (h2 : rP_move (c0 g1) x s rb g2) : kc = g2 23 0 ∧ (kc = 0 → g2 36 0 = rb) ∧ LI g2 :=
  law_agree (sp := fun V S => sp_move x s V S) I hn1 (fun _ _ _ q => C_move I.1 hn (LI_cm I) q) (fun o hio hz hnc => R_move o hio hz hnc h2) (fun _ _ _ _ _ _ _ _ a b => spc_det (fxA_D _ _ _) a b) hq0
theorem LC_planLength {g g1 g2 : qHp} {kc rb : Int} {b : Int} (I : LI g) (hn : qNm g) (hn1 : qNm g1) (hq0 : hlQ [xIO, xNS] (cP_planLength g b) (cX_planLength g b) kc g1) (h2 : rP_planLength (c0 g1) b rb g2) : kc = g2 23 0 ∧ (kc = 0 → g2 36 0 = rb) ∧ LI g2 :=
  law_agree (sp := fun V S => sp_plan b V S) I hn1 (fun _ _ _ q => C_planLength I.1 hn (LI_cm I) q) (fun o hio hz hnc => R_planLength o hio hz hnc h2) (fun _ _ _ _ _ _ _ _ a b => spc_det (plan_D (lea_D (LI_O I).1 (LI_O I).2.1 (LI_O I).2.2)) a b) hq0
theorem LC_planByTrying {g g1 g2 : qHp} {kc rb : Int} {b : Int} (I : LI g) (hn : qNm g) (hn1 : qNm g1) (hq0 : hlQ [xIO, xNS] (cP_planByTrying g b) (cX_planByTrying g b) kc g1) (h2 : rP_planByTrying (c0 g1) b rb g2) : kc = g2 23 0 ∧ (kc = 0 → g2 36 0 = rb) ∧ LI g2 :=
  law_agree (sp := fun V S => sp_plan b V S) I hn1 (fun _ _ _ q => C_planByTrying I.1 hn (LI_cm I) q) (fun o hio hz hnc => R_planByTrying o hio hz hnc h2) (fun _ _ _ _ _ _ _ _ a b => spc_det (plan_D (lea_D (LI_O I).1 (LI_O I).2.1 (LI_O I).2.2)) a b) hq0
theorem LC_planBox {g g1 g2 : qHp} {kc rb : Int} {b i : Int} (I : LI g) (hn : qNm g) (hn1 : qNm g1) (hq0 : hlQ [xIO, xNS] (cP_planBox g b i) (cX_planBox g b i) kc g1) (h2 : rP_planBox (c0 g1) b i rb g2) : kc = g2 23 0 ∧ (kc = 0 → g2 36 0 = rb) ∧ LI g2 :=
  law_agree (sp := fun V S => sp_planBox b i V S) I hn1 (fun _ _ _ q => C_planBox I.1 hn (LI_cm I) q) (fun o hio hz hnc => R_planBox o hio hz hnc h2) (fun _ _ _ _ _ _ _ _ a b => spc_det (planBox_D (lea_D (LI_O I).1 (LI_O I).2.1 (LI_O I).2.2)) a b) hq0
theorem LC_planStack {g g1 g2 : qHp} {kc rb : Int} {b i : Int} (I : LI g) (hn : qNm g) (hn1 : qNm g1) (hq0 : hlQ [xIO, xNS] (cP_planStack g b i) (cX_planStack g b i) kc g1) (h2 : rP_planStack (c0 g1) b i rb g2) : kc = g2 23 0 ∧ (kc = 0 → g2 36 0 = rb) ∧ LI g2 :=
  law_agree (sp := fun V S => sp_planStack b i V S) I hn1 (fun _ _ _ q => C_planStack I.1 hn (LI_cm I) q) (fun o hio hz hnc => R_planStack o hio hz hnc h2) (fun _ _ _ _ _ _ _ _ a b => spc_det (planStack_D (lea_D (LI_O I).1 (LI_O I).2.1 (LI_O I).2.2)) a b) hq0
theorem LC_dig {g g1 g2 : qHp} {kc rb : Int} {b : Int} (I : LI g) (hn : qNm g) (hn1 : qNm g1) (hq0 : hlQ [xIO, xNS] (cP_dig g b) (cX_dig g b) kc g1) (h2 : rP_dig (c0 g1) b rb g2) : kc = g2 23 0 ∧ (kc = 0 → g2 36 0 = rb) ∧ LI g2 :=
  law_agree (sp := fun V S => sp_dig b V S) I hn1 (fun _ _ _ q => C_dig I.1 hn (LI_cm I) q) (fun o hio hz hnc => R_dig o hio hz hnc h2) (fun _ _ _ _ _ _ _ _ a b => spc_det (dig_D (LI_O I).1 (LI_O I).2.1 (LI_O I).2.2) a b) hq0
theorem LC_moves {g g1 g2 : qHp} {ra rb : Int} (I : LI g) (hn : qNm g) (hn1 : qNm g1) (hq0 : cP_moves g ra g1) (h2 : rP_moves_ (c0 g1) rb g2) : ra = rb ∧ LI g2 :=
  law_agree0 (sp := fun V S => sp_moves V S) I hn1 (fun _ _ _ q => C_moves I.1 hn (LI_cm I) q) (fun o hio hz hnc => R_moves_ o hio hz hnc h2) (fun _ _ _ _ _ _ _ _ a b => spc_det (fxA_D _ _ _) a b) hq0
theorem LC_book {g g1 g2 : qHp} {kc rb : Int} {x h l : Int} (I : LI g) (hn : qNm g) (hn1 : qNm g1) (hq0 : hlQ [xIO, xIA, xUO, xIS] (cP_book g x h l) (cX_book g x h l) kc g1) (h2 : rP_book (c0 g1) x h l rb g2) : kc = g2 23 0 ∧ (kc = 0 → g2 36 0 = rb) ∧ LI g2 :=
  law_agree (sp := fun V S => sp_book x h l V S) I hn1 (fun _ _ _ q => C_book I.1 hn (LI_cm I) q) (fun o hio hz hnc => R_book o hio hz hnc h2) (fun _ _ _ _ _ _ _ _ a b => spc_det (fxA_D _ _ _) a b) hq0
theorem LC_cancel {g g1 g2 : qHp} {kc rb : Int} {a : Int} (I : LI g) (hn : qNm g) (hn1 : qNm g1) (hq0 : hlQ [xIO, xIS] (cP_cancel g a) (cX_cancel g a) kc g1) (h2 : rP_cancel (c0 g1) a rb g2) : kc = g2 23 0 ∧ (kc = 0 → g2 36 0 = rb) ∧ LI g2 :=
  law_agree (sp := fun V S => sp_cancel a V S) I hn1 (fun _ _ _ q => C_cancel I.1 hn (LI_cm I) q) (fun o hio hz hnc => R_cancel o hio hz hnc h2) (fun _ _ _ _ _ _ _ _ a b => spc_det (fxA_D _ _ _) a b) hq0
theorem LC_stateOf {g g1 g2 : qHp} {kc rb : Int} {a : Int} (I : LI g) (hn : qNm g) (hn1 : qNm g1) (hq0 : hlQ [xIO] (cP_stateOf g a) (cX_stateOf g a) kc g1) (h2 : rP_stateOf (c0 g1) a rb g2) : kc = g2 23 0 ∧ (kc = 0 → g2 36 0 = rb) ∧ LI g2 :=
  law_agree (sp := fun V S => sp_stateOf a V S) I hn1 (fun _ _ _ q => C_stateOf I.1 hn (LI_cm I) q) (fun o hio hz hnc => R_stateOf o hio hz hnc h2) (fun _ _ _ _ _ _ _ _ a b => spc_det (fxA_D _ _ _) a b) hq0
theorem LC_appointmentOf {g g1 g2 : qHp} {kc rb : Int} {x : Int} (I : LI g) (hn : qNm g) (hn1 : qNm g1) (hq0 : hlQ [xIO, xNS] (cP_appointmentOf g x) (cX_appointmentOf g x) kc g1) (h2 : rP_appointmentOf (c0 g1) x rb g2) : kc = g2 23 0 ∧ (kc = 0 → g2 36 0 = rb) ∧ LI g2 :=
  law_agree (sp := fun V S => sp_appointmentOf x V S) I hn1 (fun _ _ _ q => C_appointmentOf I.1 hn (LI_cm I) q) (fun o hio hz hnc => R_appointmentOf o hio hz hnc h2) (fun _ _ _ _ _ _ _ _ a b => spc_det (fxA_D _ _ _) a b) hq0
theorem LC_inLane {g g1 g2 : qHp} {kc rb : Int} {l h : Int} (I : LI g) (hn : qNm g) (hn1 : qNm g1) (hq0 : hlQ [xIO, xIA] (cP_inLane g l h) (cX_inLane g l h) kc g1) (h2 : rP_inLane (c0 g1) l h rb g2) : kc = g2 23 0 ∧ (kc = 0 → g2 36 0 = rb) ∧ LI g2 :=
  law_agree (sp := fun V S => sp_inLane l h V S) I hn1 (fun _ _ _ q => C_inLane I.1 hn (LI_cm I) q) (fun o hio hz hnc => R_inLane o hio hz hnc h2) (fun _ _ _ _ _ _ _ _ a b => spc_det (fxA_D _ _ _) a b) hq0
theorem LC_firstHour {g g1 g2 : qHp} {kc rb : Int} {x : Int} (I : LI g) (hn : qNm g) (hn1 : qNm g1) (hq0 : hlQ [xIO, xNS] (cP_firstHour g x) (cX_firstHour g x) kc g1) (h2 : rP_firstHour (c0 g1) x rb g2) : kc = g2 23 0 ∧ (kc = 0 → g2 36 0 = rb) ∧ LI g2 :=
  law_agree (sp := fun V S => sp_firstHour x V S) I hn1 (fun _ _ _ q => C_firstHour I.1 hn (LI_cm I) q) (fun o hio hz hnc => R_firstHour o hio hz hnc h2) (fun _ _ _ _ _ _ _ _ a b => spc_det firstHour_D a b) hq0
theorem LC_pass {g g1 g2 : qHp} {kc rb : Int} {n : Int} (I : LI g) (hn : qNm g) (hn1 : qNm g1) (hq0 : hlQ [xIA] (cP_pass g n) (cX_pass g n) kc g1) (h2 : rP_pass (c0 g1) n rb g2) : kc = g2 23 0 ∧ (kc = 0 → g2 36 0 = rb) ∧ LI g2 :=
  law_agree (sp := fun V S => sp_pass n V S) I hn1 (fun _ _ _ q => C_pass I.1 hn (LI_cm I) q) (fun o hio hz hnc => R_pass o hio hz hnc h2) (fun _ _ _ _ _ _ _ _ a b => spc_det (pass_D (aOK_A I.1)) a b) hq0
theorem LC_now {g g1 g2 : qHp} {ra rb : Int} (I : LI g) (hn : qNm g) (hn1 : qNm g1) (hq0 : cP_now g ra g1) (h2 : rP_now (c0 g1) rb g2) : ra = rb ∧ LI g2 :=
  law_agree0 (sp := fun V S => sp_now V S) I hn1 (fun _ _ _ q => C_now I.1 hn (LI_cm I) q) (fun o hio hz hnc => R_now o hio hz hnc h2) (fun _ _ _ _ _ _ _ _ a b => spc_det (fxA_D _ _ _) a b) hq0
theorem LC_weightLeft {g g1 g2 : qHp} {ra rb : Int} (I : LI g) (hn : qNm g) (hn1 : qNm g1) (hq0 : cP_weightLeft g ra g1) (h2 : rP_weightLeft (c0 g1) rb g2) : ra = rb ∧ LI g2 :=
  law_agree0 (sp := fun V S => sp_weightLeft V S) I hn1 (fun _ _ _ q => C_weightLeft I.1 hn (LI_cm I) q) (fun o hio hz hnc => R_weightLeft o hio hz hnc h2) (fun _ _ _ _ _ _ _ _ a b => spc_det (fxA_D _ _ _) a b) hq0
