/-! the calls of the program under test, over the abstract yard, continued -/
section CH
variable {g g1 g' : qHp}
theorem at_no (o : yOK (g 5 5) (g 6) (g 7) (g 8) (g 9)) (hn : qNm g) {s k : Int} : yAt (g 5 5) (g 7) (g 8) s k = -1 ↔ ¬ (0 ≤ k ∧ k < hgt (stA g) s) := by
  have e := ht_A o s
  unfold yAt
  rw [e]
  by_cases q : 0 ≤ k ∧ k < hgt (stOf (g 7) (g 8)) s
  · rw [if_pos q]
    have h : (0 : Int) ≤ g 8 (s * 4 + k) := (hn 8 _).1
    exact ⟨fun z => by omega, fun z => absurd q z⟩
  · rw [if_neg q]
    exact ⟨fun _ => q, fun _ => rfl⟩
theorem ok_A {x j : Int} : (¬ hlI g x j ∧ frL g j) ↔ okH (vA g) x j := by
  unfold okH
  rw [hl_A, fr_A]
theorem cn_A {t : Int} : cnA (vA g) t = cntI (stN g t) (g 18 4).toNat := by
  refine cntI_congr (fun i a b => ?_)
  show decide (cGet (g 18 4) (g 22) 99 i = t) = decide (g 22 i = t)
  have b2 : i < ((g 18 4).toNat : Int) := b
  rw [cGet_in ⟨a, by omega⟩]
theorem vA_hold {x kd ut : Int} (hx : 0 ≤ x ∧ x < g 1 3) : vA (qUp (qUp g 3 x kd) 4 x ut) = qUp (qUp (vA g) 3 x kd) 4 x (if kd = 45 then 0 else ut) ∧ stA (qUp (qUp g 3 x kd) 4 x ut) = stA g := by
  have e : ∀ k, k ≠ 3 → k ≠ 4 → qUp (qUp g 3 x kd) 4 x ut k = g k := fun k h3 h4 => by rw [qUp_row h4, qUp_row h3]
  constructor
  · rw [vA_V (qUp (qUp g 3 x kd) 4 x ut), vA_V g, e 0 (by decide) (by decide), e 5 (by decide) (by decide), e 1 (by decide) (by decide), e 18 (by decide) (by decide), e 6 (by decide) (by decide), e 2 (by decide) (by decide), e 19 (by decide) (by decide), e 20 (by decide) (by decide), e 21 (by decide) (by decide), e 22 (by decide) (by decide), qUp_row (show (3 : Nat) ≠ 4 by decide), qUp_u, qUp_u, qUp_row (show (4 : Nat) ≠ 3 by decide)]
    exact vV_hold hx (by rw [uI_s]) (fun j hj => uI_n hj)
  · unfold stA
    rw [e 7 (by decide) (by decide), e 8 (by decide) (by decide)]
/-- the yard's cells stay -/
theorem cI_same (I : cInv g) (h : ∀ k, 5 ≤ k → k < 10 → g' k = g k) (B : bInv (vA g') (stA g')) : cInv g' := by
  obtain ⟨o, hc, hc8, -⟩ := I
  have e : cntY g' = cntY g := by
    unfold cntY
    rw [h 9 (by decide) (by decide)]
  refine ⟨?_, by rw [e, h 5 (by decide) (by decide)]; exact hc, by rw [e]; exact hc8, B⟩
  rw [h 5 (by decide) (by decide), h 6 (by decide) (by decide), h 7 (by decide) (by decide), h 8 (by decide) (by decide), h 9 (by decide) (by decide)]
  exact o
theorem cI_hold {x kd ut : Int} (I : cInv g) (hx : 0 ≤ x ∧ x < g 1 3) : cInv (qUp (qUp g 3 x kd) 4 x ut) := by
  obtain ⟨v1, v2⟩ := vA_hold (g := g) (kd := kd) (ut := ut) hx
  refine cI_same I (fun k h5 _ => by rw [qUp_row (by omega), qUp_row (by omega)]) ?_
  rw [v1, v2]
  exact bInv_sub I.2.2.2 (by rw [qUp_k (by decide), qUp_k (by decide)]) (by rw [qUp_row (by decide), qUp_row (by decide)]) (fun i q => by rw [qUp_k (by decide), qUp_k (by decide)] at q; exact q) (fun _ q => q)
theorem cI_turn {a t : Int} (I : cInv g) (ha : 0 ≤ a ∧ a < g 18 4) (ht : t ≠ 98) : cInv (qUp g 22 a t) := by
  obtain ⟨v1, v2⟩ := vA_turn (g := g) (t := t) ha
  refine cI_same I (fun k h5 _ => by rw [qUp_row (by omega)]) ?_
  rw [v1, v2]
  refine bInv_sub I.2.2.2 (by rw [qUp_k (by decide)]) (by rw [qUp_row (by decide)]) (fun i q => ?_) (fun _ q => q)
  by_cases e : i = a
  · rw [e, qUp_s] at q
    exact absurd q ht
  · rw [qUp_j e] at q
    exact q
theorem cI_mv {n : Int} {z : St} (I : cInv g) (F : frK g g1) (Q : mvQ g1 g' n z) (hi : ∀ x, inS z x ↔ inS (stA g) x) : cInv g' ∧ vA g' = qUp (vA g) 0 1 (w32 (g 0 5 + n)) ∧ stA g' = z ∧ ∀ j, 23 ≤ j → g' j = g j := by
  obtain ⟨o, hc, hc8, hB⟩ := I
  obtain ⟨f1, f2⟩ := vA_fr F
  obtain ⟨m1, m2⟩ := vA_mv Q
  obtain ⟨a1, a2, a3, a4, a5, a6, a7⟩ := Q
  have e0 : g1 0 = g 0 := F 0 (by decide)
  rw [f1, e0] at m1
  have ec : cntY g' = cntY g := cntY_eq o a6 (fun x => by rw [m2]; exact hi x)
  refine ⟨⟨a6, by rw [a5, F 5 (by decide), hc, ec], by rw [ec]; exact hc8, ?_⟩, m1, m2, fun j hj => by rw [a1 j (by omega) (by omega) (by omega) (by omega) (by omega), F j (by omega)]⟩
  rw [m1, m2]
  exact bInv_sub hB (by rw [qUp_j (by decide)]) (by rw [qUp_row (by decide)]) (fun i q => by rw [qUp_k (by decide)] at q; exact q) (fun x q => (hi x).mpr q)
theorem why_A {x s v : Int} (o : yOK (g 5 5) (g 6) (g 7) (g 8) (g 9)) (hx : inY g x) (hs : isS g s) (h : yWhyR g (g 5 5) (g 6) (g 7) (g 8) (g 9) x s v) : whyA (vA g) (stA g) x s v := by
  obtain ⟨x1, x2⟩ := ySt_in hx
  have e := soS_so o (x := x)
  have hm := (inS_so o).mp hx
  obtain ⟨u, hu⟩ := hm
  have eu : soS (stA g) x = u := (show _ = _ by rw [e, x2]; exact o.2.2.2.2.2.1 u x hu)
  have hsc := o.2.2.2.2.1.2.2.2.2 u x hu
  have hsr : 0 ≤ soS (stA g) x ∧ soS (stA g) x < g 5 5 := by rw [eu]; exact hsc
  have hd := hd_A o hsr (show x ≠ -1 by omega)
  have hc := o.1
  have hs4 : 0 ≤ s ∧ s < 4 := ⟨hs.1, by have := hs.2; omega⟩
  have e1 : hgt (stA g) s = g 7 s := stOf_len hs4 (o.2.1 s hs4.1 hs4.2).1
  have e2 : vA g 1 s = g 6 s := cut4_in hs4
  have hb := bear_A o hs (w := vA g 2 x)
  unfold whyA
  rw [e1, e2]
  have e' : ySt (g 9) x = soS (stA g) x := e.symm
  unfold yWhyR at h
  rw [e'] at h
  rcases h with ⟨p | p, w⟩ | ⟨p, p2, ⟨q, w⟩ | ⟨q, ⟨r, w⟩ | ⟨r, ⟨t, w⟩ | ⟨t, ⟨b, w⟩ | ⟨b, w⟩⟩⟩⟩⟩
  · omega
  · exact Or.inl ⟨fun z => p (hd.mp z), w⟩
  · exact Or.inr ⟨hd.mpr p2, Or.inl ⟨of_decide_eq_true q, w⟩⟩
  · exact Or.inr ⟨hd.mpr p2, Or.inr ⟨of_decide_eq_false q, Or.inl ⟨r, w⟩⟩⟩
  · exact Or.inr ⟨hd.mpr p2, Or.inr ⟨of_decide_eq_false q, Or.inr ⟨r, Or.inl ⟨by rcases t with t | t | t; (· have := hs.1; omega); (· have := hs.2; omega); (· exact t), w⟩⟩⟩⟩
  · exact Or.inr ⟨hd.mpr p2, Or.inr ⟨of_decide_eq_false q, Or.inr ⟨r, Or.inr ⟨by omega, Or.inl ⟨hb.mp b, w⟩⟩⟩⟩⟩
  · exact Or.inr ⟨hd.mpr p2, Or.inr ⟨of_decide_eq_false q, Or.inr ⟨r, Or.inr ⟨by omega, Or.inr ⟨fun z => b (hb.mpr z), w⟩⟩⟩⟩⟩
end CH
theorem C_moves {g g1 : qHp} {kc rr : Int} (I : cInv g) (hn : qNm g) (hm : cmI g) (hP0 : hpP [] (cP_moves g) (cX_moves g) kc rr g1) : sp_moves (vA g) (stA g) kc rr (vA g1) (stA g1) ∧ cInv g1 ∧ ∀ j, 23 ≤ j → g1 j = g j := by
  obtain ⟨o, hc, hc8, hB⟩ := id I
  rcases hP0 with ⟨rfl, ⟨h1, rfl⟩⟩ | ⟨E, hx, hk⟩
  · exact ⟨spc_ok rfl ⟨h1, rfl, rfl⟩, I, fun _ _ => rfl⟩
  · exact hx.elim
theorem C_now {g g1 : qHp} {kc rr : Int} (I : cInv g) (hn : qNm g) (hm : cmI g) (hP0 : hpP [] (cP_now g) (cX_now g) kc rr g1) : sp_now (vA g) (stA g) kc rr (vA g1) (stA g1) ∧ cInv g1 ∧ ∀ j, 23 ≤ j → g1 j = g j := by
  obtain ⟨o, hc, hc8, hB⟩ := id I
  rcases hP0 with ⟨rfl, ⟨h1, rfl⟩⟩ | ⟨E, hx, hk⟩
  · exact ⟨spc_ok rfl ⟨h1, rfl, rfl⟩, I, fun _ _ => rfl⟩
  · exact hx.elim
theorem C_weightLeft {g g1 : qHp} {kc rr : Int} (I : cInv g) (hn : qNm g) (hm : cmI g) (hP0 : hpP [] (cP_weightLeft g) (cX_weightLeft g) kc rr g1) : sp_weightLeft (vA g) (stA g) kc rr (vA g1) (stA g1) ∧ cInv g1 ∧ ∀ j, 23 ≤ j → g1 j = g j := by
  obtain ⟨o, hc, hc8, hB⟩ := id I
  rcases hP0 with ⟨rfl, ⟨h1, rfl⟩⟩ | ⟨E, hx, hk⟩
  · exact ⟨spc_ok rfl ⟨h1, rfl, rfl⟩, I, fun _ _ => rfl⟩
  · exact hx.elim
theorem C_stateOf {g g1 : qHp} {kc rr a : Int} (I : cInv g) (hn : qNm g) (hm : cmI g) (hP0 : hpP [xIO] (cP_stateOf g a) (cX_stateOf g a) kc rr g1) : sp_stateOf a (vA g) (stA g) kc rr (vA g1) (stA g1) ∧ cInv g1 ∧ ∀ j, 23 ≤ j → g1 j = g j := by
  obtain ⟨o, hc, hc8, hB⟩ := id I
  rcases hP0 with ⟨rfl, ⟨⟨h1, h2⟩, rfl⟩⟩ | ⟨E, ⟨hx, rfl⟩, hk⟩
  · exact ⟨spc_ok (Or.inr ⟨h1, rfl⟩) ⟨by rw [h2]; exact (cGet_in h1).symm, rfl, rfl⟩, I, fun _ _ => rfl⟩
  · rcases hx with ⟨rfl, h1⟩
    · have ek : kc = 1 := by rcases hk with ⟨zz, ez⟩ | zz; (· omega); (· exact zz.elim)
      subst ek
      exact ⟨spc_no (by decide) (Or.inl ⟨h1, rfl⟩) rfl rfl, I, fun _ _ => rfl⟩
theorem C_appointmentOf {g g1 : qHp} {kc rr x : Int} (I : cInv g) (hn : qNm g) (hm : cmI g) (hP0 : hpP [xIO, xNS] (cP_appointmentOf g x) (cX_appointmentOf g x) kc rr g1) : sp_appointmentOf x (vA g) (stA g) kc rr (vA g1) (stA g1) ∧ cInv g1 ∧ ∀ j, 23 ≤ j → g1 j = g j := by
  obtain ⟨o, hc, hc8, hB⟩ := id I
  rcases hP0 with ⟨rfl, ⟨⟨h1, h2, h3⟩, rfl⟩⟩ | ⟨E, ⟨hx, rfl⟩, hk⟩
  · exact ⟨spc_ok (Or.inr ⟨(inS_so o).mp h1, Or.inr ⟨by rw [bkB_c]; exact h2, rfl⟩⟩) ⟨by rw [bkB_c]; exact h3, rfl, rfl⟩, I, fun _ _ => rfl⟩
  · rcases hx with ⟨rfl, h1⟩ | ⟨rfl, h1, h2⟩
    · have ek : kc = 1 := by rcases hk with ⟨zz, ez⟩ | ⟨zz, ez⟩ | zz; (· omega); (· exact absurd zz (by decide)); (· exact zz.elim)
      subst ek
      exact ⟨spc_no (by decide) (Or.inl ⟨fun q => h1 ((inS_so o).mpr q), rfl⟩) rfl rfl, I, fun _ _ => rfl⟩
    · have ek : kc = 2 := by rcases hk with ⟨zz, ez⟩ | ⟨zz, ez⟩ | zz; (· exact absurd zz (by decide)); (· omega); (· exact zz.elim)
      subst ek
      exact ⟨spc_no (by decide) (Or.inr ⟨(inS_so o).mp h1, Or.inl ⟨fun q => q (by rw [bkB_c]; exact h2), rfl⟩⟩) rfl rfl, I, fun _ _ => rfl⟩
theorem C_inLane {g g1 : qHp} {kc rr l h : Int} (I : cInv g) (hn : qNm g) (hm : cmI g) (hP0 : hpP [xIO, xIA] (cP_inLane g l h) (cX_inLane g l h) kc rr g1) : sp_inLane l h (vA g) (stA g) kc rr (vA g1) (stA g1) ∧ cInv g1 ∧ ∀ j, 23 ≤ j → g1 j = g j := by
  obtain ⟨o, hc, hc8, hB⟩ := id I
  rcases hP0 with ⟨rfl, ⟨⟨h1, h2, h3⟩, rfl⟩⟩ | ⟨E, ⟨hx, rfl⟩, hk⟩
  · exact ⟨spc_ok (Or.inr ⟨by omega, Or.inr ⟨h2, rfl⟩⟩) ⟨by rw [bkA_c]; exact h3, rfl, rfl⟩, I, fun _ _ => rfl⟩
  · rcases hx with ⟨rfl, h1⟩ | ⟨rfl, h1, h2⟩
    · have ek : kc = 1 := by rcases hk with ⟨zz, ez⟩ | ⟨zz, ez⟩ | zz; (· omega); (· exact absurd zz (by decide)); (· exact zz.elim)
      subst ek
      exact ⟨spc_no (by decide) (Or.inl ⟨by omega, rfl⟩) rfl rfl, I, fun _ _ => rfl⟩
    · have ek : kc = 2 := by rcases hk with ⟨zz, ez⟩ | ⟨zz, ez⟩ | zz; (· exact absurd zz (by decide)); (· omega); (· exact zz.elim)
      subst ek
      exact ⟨spc_no (by decide) (Or.inr ⟨by omega, Or.inl ⟨h2, rfl⟩⟩) rfl rfl, I, fun _ _ => rfl⟩
theorem C_firstHour {g g1 : qHp} {kc rr x : Int} (I : cInv g) (hn : qNm g) (hm : cmI g) (hP0 : hpP [xIO, xNS] (cP_firstHour g x) (cX_firstHour g x) kc rr g1) : sp_firstHour x (vA g) (stA g) kc rr (vA g1) (stA g1) ∧ cInv g1 ∧ ∀ j, 23 ≤ j → g1 j = g j := by
  obtain ⟨o, hc, hc8, hB⟩ := id I
  rcases hP0 with ⟨rfl, ⟨⟨h1, h2, h3, h4⟩, rfl⟩⟩ | ⟨E, ⟨hx, rfl⟩, hk⟩
  · exact ⟨spc_ok (Or.inr ⟨(inS_so o).mp h1, Or.inr ⟨⟨rr, h2.1, h2.2, ok_A.mp h3⟩, rfl⟩⟩) ⟨⟨⟨h2.1, ok_A.mp h3⟩, fun j a b q => h4 j a b (ok_A.mpr q)⟩, rfl, rfl⟩, I, fun _ _ => rfl⟩
  · rcases hx with ⟨rfl, h1⟩ | ⟨rfl, h1, h2⟩
    · have ek : kc = 1 := by rcases hk with ⟨zz, ez⟩ | ⟨zz, ez⟩ | zz; (· omega); (· exact absurd zz (by decide)); (· exact zz.elim)
      subst ek
      exact ⟨spc_no (by decide) (Or.inl ⟨fun q => h1 ((inS_so o).mpr q), rfl⟩) rfl rfl, I, fun _ _ => rfl⟩
    · have ek : kc = 2 := by rcases hk with ⟨zz, ez⟩ | ⟨zz, ez⟩ | zz; (· exact absurd zz (by decide)); (· omega); (· exact zz.elim)
      subst ek
      exact ⟨spc_no (by decide) (Or.inr ⟨(inS_so o).mp h1, Or.inl ⟨fun ⟨j, a, b, q⟩ => h2 j a b (ok_A.mpr q), rfl⟩⟩) rfl rfl, I, fun _ _ => rfl⟩
theorem C_heldUntil {g g1 : qHp} {kc rr x : Int} (I : cInv g) (hn : qNm g) (hm : cmI g) (hP0 : hpP [xIO, xNS] (cP_heldUntil g x) (cX_heldUntil g x) kc rr g1) : sp_heldUntil x (vA g) (stA g) kc rr (vA g1) (stA g1) ∧ cInv g1 ∧ ∀ j, 23 ≤ j → g1 j = g j := by
  obtain ⟨o, hc, hc8, hB⟩ := id I
  rcases hP0 with ⟨rfl, ⟨⟨h1, h2, h3⟩, rfl⟩⟩ | ⟨E, ⟨hx, rfl⟩, hk⟩
  · exact ⟨spc_ok (Or.inr ⟨(inS_so o).mp h1, Or.inr ⟨h2, rfl⟩⟩) ⟨by rw [h3, (kd_in h2).2.2, (kd_in h2).2.1], rfl, rfl⟩, I, fun _ _ => rfl⟩
  · rcases hx with ⟨rfl, h1⟩ | ⟨rfl, h1, h2⟩
    · have ek : kc = 1 := by rcases hk with ⟨zz, ez⟩ | ⟨zz, ez⟩ | zz; (· omega); (· exact absurd zz (by decide)); (· exact zz.elim)
      subst ek
      exact ⟨spc_no (by decide) (Or.inl ⟨fun q => h1 ((inS_so o).mpr q), rfl⟩) rfl rfl, I, fun _ _ => rfl⟩
    · have ek : kc = 2 := by rcases hk with ⟨zz, ez⟩ | ⟨zz, ez⟩ | zz; (· exact absurd zz (by decide)); (· omega); (· exact zz.elim)
      subst ek
      exact ⟨spc_no (by decide) (Or.inr ⟨(inS_so o).mp h1, Or.inl ⟨fun q => q h2, rfl⟩⟩) rfl rfl, I, fun _ _ => rfl⟩
theorem C_boxAt {g g1 : qHp} {kc rr s k : Int} (I : cInv g) (hn : qNm g) (hm : cmI g) (hP0 : hpP [xIO, xNS] (cP_boxAt g s k) (cX_boxAt g s k) kc rr g1) : sp_boxAt s k (vA g) (stA g) kc rr (vA g1) (stA g1) ∧ cInv g1 ∧ ∀ j, 23 ≤ j → g1 j = g j := by
  obtain ⟨o, hc, hc8, hB⟩ := id I
  rcases hP0 with ⟨rfl, ⟨⟨h1, h2, h3⟩, rfl⟩⟩ | ⟨E, ⟨hx, rfl⟩, hk⟩
  · have h4 := at_no o hn (s := s) (k := k)
    exact ⟨spc_ok (Or.inr ⟨h1, Or.inr ⟨Classical.byContradiction (fun q => h2 (h4.mpr q)), rfl⟩⟩) ⟨by rw [h3]; exact at_A o _ _, rfl, rfl⟩, I, fun _ _ => rfl⟩
  · rcases hx with ⟨rfl, h1⟩ | ⟨rfl, h1, h2⟩
    · have ek : kc = 1 := by rcases hk with ⟨zz, ez⟩ | ⟨zz, ez⟩ | zz; (· omega); (· exact absurd zz (by decide)); (· exact zz.elim)
      subst ek
      exact ⟨spc_no (by decide) (Or.inl ⟨h1, rfl⟩) rfl rfl, I, fun _ _ => rfl⟩
    · have ek : kc = 2 := by rcases hk with ⟨zz, ez⟩ | ⟨zz, ez⟩ | zz; (· exact absurd zz (by decide)); (· omega); (· exact zz.elim)
      subst ek
      exact ⟨spc_no (by decide) (Or.inr ⟨h1, Or.inl ⟨(at_no o hn).mp h2, rfl⟩⟩) rfl rfl, I, fun _ _ => rfl⟩
theorem C_why {g g1 : qHp} {kc rr x s : Int} (I : cInv g) (hn : qNm g) (hm : cmI g) (hP0 : hpP [xIO] (cP_why g x s) (cX_why g x s) kc rr g1) : sp_why x s (vA g) (stA g) kc rr (vA g1) (stA g1) ∧ cInv g1 ∧ ∀ j, 23 ≤ j → g1 j = g j := by
  obtain ⟨o, hc, hc8, hB⟩ := id I
  rcases hP0 with ⟨rfl, ⟨⟨h1, h2, -⟩, rfl⟩⟩ | ⟨E, ⟨hx, rfl⟩, hk⟩
  · exact ⟨spc_ok (Or.inr ⟨⟨(inS_so o).mp h1.1, h1.2⟩, rfl⟩) ⟨why_A o h1.1 h1.2 h2, rfl, rfl⟩, I, fun _ _ => rfl⟩
  · rcases hx with ⟨rfl, h1⟩
    · have ek : kc = 1 := by rcases hk with ⟨zz, ez⟩ | zz; (· omega); (· exact zz.elim)
      subst ek
      exact ⟨spc_no (by decide) (Or.inl ⟨fun q => h1 ⟨(inS_so o).mpr q.1, q.2⟩, rfl⟩) rfl rfl, I, fun _ _ => rfl⟩
theorem C_hold {g g1 : qHp} {kc rr x kd ut : Int} (I : cInv g) (hn : qNm g) (hm : cmI g) (hP0 : hpP [xIO, xIA] (cP_hold g x kd ut) (cX_hold g x kd ut) kc rr g1) : sp_hold x kd ut (vA g) (stA g) kc rr (vA g1) (stA g1) ∧ cInv g1 ∧ ∀ j, 23 ≤ j → g1 j = g j := by
  obtain ⟨o, hc, hc8, hB⟩ := id I
  rcases hP0 with ⟨rfl, ⟨h1, h2, h3⟩⟩ | ⟨E, ⟨hx, rfl⟩, hk⟩
  · have hx := in_co I hm h1
    have hk : kd ≠ 45 := by omega
    obtain ⟨v1, v2⟩ := vA_hold (g := g) (kd := kd) (ut := ut) hx
    rw [if_neg hk] at v1
    have J := cI_hold (kd := kd) (ut := ut) I hx
    have c : fstF [inS (stA g) x, (kd = 112 ∨ kd = 108) ∧ (vA g 0 0 < ut ∧ ut ≤ 1000)] 1 0 := Or.inr ⟨(inS_so o).mp h1, Or.inr ⟨h2, rfl⟩⟩
    have hr := fstB_rng (bkB g x) (g 18 4)
    have e6 : fstB (bkB g x) (g 18 4) ≠ -1 → vA g 6 (fstB (bkB g x) (g 18 4)) = g 20 (fstB (bkB g x) (g 18 4)) := fun q => cGet_in (by omega)
    rcases h3 with ⟨a, b, rfl⟩ | ⟨a, b, b2, rfl⟩
    · refine ⟨spc_ok c ⟨Or.inl ⟨?_, b, v1⟩, v2⟩, J, fun j hj => by rw [qUp_row (by omega), qUp_row (by omega)]⟩
      rw [bkB_c]
      by_cases q : fstB (bkB g x) (g 18 4) = -1
      · exact Or.inl q
      · rw [e6 q]
        exact a
    · have e18 : qUp (qUp g 3 x kd) 4 x ut 18 4 = g 18 4 := by rw [qUp_k (by decide), qUp_k (by decide)]
      have hr2 : 0 ≤ fstB (bkB g x) (g 18 4) ∧ fstB (bkB g x) (g 18 4) < qUp (qUp g 3 x kd) 4 x ut 18 4 := by rw [e18]; omega
      obtain ⟨t1, t2⟩ := vA_turn (g := qUp (qUp g 3 x kd) 4 x ut) (t := 103) hr2
      refine ⟨spc_ok c ⟨Or.inr ⟨?_, b2, ?_⟩, by rw [t2, v2]⟩, cI_turn J hr2 (by decide), fun j hj => by rw [qUp_row (by omega), qUp_row (by omega), qUp_row (by omega)]⟩
      · rw [bkB_c, e6 a]
        exact ⟨a, b⟩
      · rw [t1, v1, bkB_c]
  · rcases hx with ⟨rfl, h1⟩ | ⟨rfl, h1, h2⟩
    · have ek : kc = 1 := by rcases hk with ⟨zz, ez⟩ | ⟨zz, ez⟩ | zz; (· omega); (· exact absurd zz (by decide)); (· exact zz.elim)
      subst ek
      exact ⟨spc_no (by decide) (Or.inl ⟨fun q => h1 ((inS_so o).mpr q), rfl⟩) rfl rfl, I, fun _ _ => rfl⟩
    · have ek : kc = 2 := by rcases hk with ⟨zz, ez⟩ | ⟨zz, ez⟩ | zz; (· exact absurd zz (by decide)); (· omega); (· exact zz.elim)
      subst ek
      exact ⟨spc_no (by decide) (Or.inr ⟨(inS_so o).mp h1, Or.inl ⟨h2, rfl⟩⟩) rfl rfl, I, fun _ _ => rfl⟩
theorem C_release {g g1 : qHp} {kc rr x : Int} (I : cInv g) (hn : qNm g) (hm : cmI g) (hP0 : hpP [xIO, xIS] (cP_release g x) (cX_release g x) kc rr g1) : sp_release x (vA g) (stA g) kc rr (vA g1) (stA g1) ∧ cInv g1 ∧ ∀ j, 23 ≤ j → g1 j = g j := by
  obtain ⟨o, hc, hc8, hB⟩ := id I
  rcases hP0 with ⟨rfl, ⟨h1, h2, h3, rfl⟩⟩ | ⟨E, ⟨hx, rfl⟩, hk⟩
  · have hx := in_co I hm h1
    obtain ⟨v1, v2⟩ := vA_hold (g := g) (kd := 45) (ut := 0) hx
    rw [if_pos rfl] at v1
    exact ⟨spc_ok (Or.inr ⟨(inS_so o).mp h1, Or.inr ⟨h2, rfl⟩⟩) ⟨by rw [h3, (kd_in h2).2.2, (kd_in h2).2.1], v1, v2⟩, cI_hold I hx, fun j hj => by rw [qUp_row (by omega), qUp_row (by omega)]⟩
  · rcases hx with ⟨rfl, h1⟩ | ⟨rfl, h1, h2⟩
    · have ek : kc = 1 := by rcases hk with ⟨zz, ez⟩ | ⟨zz, ez⟩ | zz; (· omega); (· exact absurd zz (by decide)); (· exact zz.elim)
      subst ek
      exact ⟨spc_no (by decide) (Or.inl ⟨fun q => h1 ((inS_so o).mpr q), rfl⟩) rfl rfl, I, fun _ _ => rfl⟩
    · have ek : kc = 2 := by rcases hk with ⟨zz, ez⟩ | ⟨zz, ez⟩ | zz; (· exact absurd zz (by decide)); (· omega); (· exact zz.elim)
      subst ek
      exact ⟨spc_no (by decide) (Or.inr ⟨(inS_so o).mp h1, Or.inl ⟨fun q => q h2, rfl⟩⟩) rfl rfl, I, fun _ _ => rfl⟩
theorem C_cancel {g g1 : qHp} {kc rr a : Int} (I : cInv g) (hn : qNm g) (hm : cmI g) (hP0 : hpP [xIO, xIS] (cP_cancel g a) (cX_cancel g a) kc rr g1) : sp_cancel a (vA g) (stA g) kc rr (vA g1) (stA g1) ∧ cInv g1 ∧ ∀ j, 23 ≤ j → g1 j = g j := by
  obtain ⟨o, hc, hc8, hB⟩ := id I
  rcases hP0 with ⟨rfl, ⟨h1, h2, rfl, h3⟩⟩ | ⟨E, ⟨hx, rfl⟩, hk⟩
  · obtain ⟨t1, t2⟩ := vA_turn (g := g) (t := 99) h1
    refine ⟨spc_ok (Or.inr ⟨h1, Or.inr ⟨(cGet_in h1).trans h2, rfl⟩⟩) ⟨?_, t1, t2⟩, cI_turn I h1 (by decide), fun j hj => by rw [qUp_row (by omega)]⟩
    rw [h3, ← t1, cn_A, qUp_k (by decide)]
  · rcases hx with ⟨rfl, h1⟩ | ⟨rfl, h1, h2⟩
    · have ek : kc = 1 := by rcases hk with ⟨zz, ez⟩ | ⟨zz, ez⟩ | zz; (· omega); (· exact absurd zz (by decide)); (· exact zz.elim)
      subst ek
      exact ⟨spc_no (by decide) (Or.inl ⟨h1, rfl⟩) rfl rfl, I, fun _ _ => rfl⟩
    · have ek : kc = 2 := by rcases hk with ⟨zz, ez⟩ | ⟨zz, ez⟩ | zz; (· exact absurd zz (by decide)); (· omega); (· exact zz.elim)
      subst ek
      exact ⟨spc_no (by decide) (Or.inr ⟨h1, Or.inl ⟨fun q => h2 ((cGet_in h1).symm.trans q), rfl⟩⟩) rfl rfl, I, fun _ _ => rfl⟩
theorem C_move {g g1 : qHp} {kc rr x s : Int} (I : cInv g) (hn : qNm g) (hm : cmI g) (hP0 : hpP [xIO, xUO] (cP_move g x s) (cX_move g x s) kc rr g1) : sp_move x s (vA g) (stA g) kc rr (vA g1) (stA g1) ∧ cInv g1 ∧ ∀ j, 23 ≤ j → g1 j = g j := by
  obtain ⟨o, hc, hc8, hB⟩ := id I
  rcases hP0 with ⟨rfl, ⟨h1, h2, h3, rfl⟩⟩ | ⟨E, ⟨hx, rfl⟩, hk⟩
  · have e : soS (stA g) x = g 9 x := (soS_so o).trans (ySt_in h1.1).2
    have Q := (mvQ_s (hn 5 6) (mvQ_0 (hn 0 5) o) h2).2.2.2.2
    obtain ⟨J, v1, v2, v3⟩ := cI_mv I (fun _ _ => rfl) Q (fun y => inS_do h2)
    refine ⟨spc_ok (Or.inr ⟨⟨(inS_so o).mp h1.1, h1.2⟩, Or.inr ⟨by rw [e]; exact h2, rfl⟩⟩) ⟨h3, ?_, ?_⟩, J, v3⟩
    · rw [v1, Int.zero_add]
      rfl
    · rw [v2, e]
  · rcases hx with ⟨rfl, h1⟩ | ⟨rfl, h1, h2⟩
    · have ek : kc = 1 := by rcases hk with ⟨zz, ez⟩ | ⟨zz, ez⟩ | zz; (· omega); (· exact absurd zz (by decide)); (· exact zz.elim)
      subst ek
      exact ⟨spc_no (by decide) (Or.inl ⟨fun q => h1 ⟨(inS_so o).mpr q.1, q.2⟩, rfl⟩) rfl rfl, I, fun _ _ => rfl⟩
    · have ek : kc = 2 := by rcases hk with ⟨zz, ez⟩ | ⟨zz, ez⟩ | zz; (· exact absurd zz (by decide)); (· omega); (· exact zz.elim)
      subst ek
      exact ⟨spc_no (by decide) (Or.inr ⟨⟨(inS_so o).mp h1.1, h1.2⟩, Or.inl ⟨fun q => h2 _ q, rfl⟩⟩) rfl rfl, I, fun _ _ => rfl⟩
