/-! the calls of the program under test, over the abstract yard, the rest -/
section CI
variable {g g1 : qHp}
theorem ad5_rows {rc : Int} (h : g1 = (qUp (qUp g 5 5 (g 5 5 + 1)) 6 (g 5 5) rc)) : g1 5 5 = g 5 5 + 1 ∧ g1 5 6 = g 5 6 ∧ g1 6 = uI (g 6) (g 5 5) rc ∧ ∀ k, k ≠ 5 → k ≠ 6 → g1 k = g k := by
  subst h
  refine ⟨by rw [qUp_k (by decide), qUp_s], by rw [qUp_k (by decide), qUp_j (by decide)], by rw [qUp_u, qUp_row (by decide)], fun k h5 h6 => by rw [qUp_row h6, qUp_row h5]⟩
theorem ab5_rows {w s : Int} (h : g1 = (qUp (qUp (qUp (qUp (qUp (qUp (qUp (qUp g 1 3 (g 1 3 + 1)) 2 (g 1 3) w) 3 (g 1 3) 45) 4 (g 1 3) 0) 8 (s * 4 + g 7 s) (g 1 3)) 7 s (g 7 s + 1)) 9 (g 1 3) s) 5 6 (w32 (g 5 6 + 1)))) : g1 1 3 = g 1 3 + 1 ∧ g1 2 = uI (g 2) (g 1 3) w ∧ g1 3 = uI (g 3) (g 1 3) 45 ∧ g1 4 = uI (g 4) (g 1 3) 0 ∧ g1 8 = uI (g 8) (s * 4 + g 7 s) (g 1 3) ∧ g1 7 = uI (g 7) s (g 7 s + 1) ∧ g1 9 = uI (g 9) (g 1 3) s ∧ g1 5 6 = w32 (g 5 6 + 1) ∧ g1 5 5 = g 5 5 ∧ ∀ k, k ≠ 1 → k ≠ 2 → k ≠ 3 → k ≠ 4 → k ≠ 8 → k ≠ 7 → k ≠ 9 → k ≠ 5 → g1 k = g k := by
  subst h
  refine ⟨?_, ?_, ?_, ?_, ?_, ?_, ?_, ?_, ?_, fun k h1 h2 h3 h4 h8 h7 h9 h5 => ?_⟩
  · rw [qUp_k (by decide), qUp_k (by decide), qUp_k (by decide), qUp_k (by decide), qUp_k (by decide), qUp_k (by decide), qUp_k (by decide), qUp_s]
  · rw [qUp_row (by decide), qUp_row (by decide), qUp_row (by decide), qUp_row (by decide), qUp_row (by decide), qUp_row (by decide), qUp_u, qUp_row (by decide)]
  · rw [qUp_row (by decide), qUp_row (by decide), qUp_row (by decide), qUp_row (by decide), qUp_row (by decide), qUp_u, qUp_row (by decide), qUp_row (by decide)]
  · rw [qUp_row (by decide), qUp_row (by decide), qUp_row (by decide), qUp_row (by decide), qUp_u, qUp_row (by decide), qUp_row (by decide), qUp_row (by decide)]
  · rw [qUp_row (by decide), qUp_row (by decide), qUp_row (by decide), qUp_u, qUp_row (by decide), qUp_row (by decide), qUp_row (by decide), qUp_row (by decide)]
  · rw [qUp_row (by decide), qUp_row (by decide), qUp_u, qUp_row (by decide), qUp_row (by decide), qUp_row (by decide), qUp_row (by decide), qUp_row (by decide)]
  · rw [qUp_row (by decide), qUp_u, qUp_row (by decide), qUp_row (by decide), qUp_row (by decide), qUp_row (by decide), qUp_row (by decide), qUp_row (by decide)]
  · rw [qUp_s]
  · rw [qUp_j (by decide), qUp_k (by decide), qUp_k (by decide), qUp_k (by decide), qUp_k (by decide), qUp_k (by decide), qUp_k (by decide), qUp_k (by decide)]
  · rw [qUp_row h5, qUp_row h9, qUp_row h7, qUp_row h8, qUp_row h4, qUp_row h3, qUp_row h2, qUp_row h1]
theorem bk5_rows {x h l : Int} (e : g1 = (qUp (qUp (qUp (qUp (qUp g 18 4 (g 18 4 + 1)) 19 (g 18 4) x) 20 (g 18 4) h) 21 (g 18 4) l) 22 (g 18 4) 98)) : g1 18 4 = g 18 4 + 1 ∧ g1 19 = uI (g 19) (g 18 4) x ∧ g1 20 = uI (g 20) (g 18 4) h ∧ g1 21 = uI (g 21) (g 18 4) l ∧ g1 22 = uI (g 22) (g 18 4) 98 ∧ ∀ k, k ≠ 18 → k ≠ 19 → k ≠ 20 → k ≠ 21 → k ≠ 22 → g1 k = g k := by
  subst e
  refine ⟨?_, ?_, ?_, ?_, ?_, fun k h1 h2 h3 h4 h5 => ?_⟩
  · rw [qUp_k (by decide), qUp_k (by decide), qUp_k (by decide), qUp_k (by decide), qUp_s]
  · rw [qUp_row (by decide), qUp_row (by decide), qUp_row (by decide), qUp_u, qUp_row (by decide)]
  · rw [qUp_row (by decide), qUp_row (by decide), qUp_u, qUp_row (by decide), qUp_row (by decide)]
  · rw [qUp_row (by decide), qUp_u, qUp_row (by decide), qUp_row (by decide), qUp_row (by decide)]
  · rw [qUp_u, qUp_row (by decide), qUp_row (by decide), qUp_row (by decide), qUp_row (by decide)]
  · rw [qUp_row h5, qUp_row h4, qUp_row h3, qUp_row h2, qUp_row h1]
theorem bInv_add {V V' : qHp} {S : St} {x : Int} (B : bInv V S) (h0 : 0 ≤ V 0 5) (hc : V' 0 5 = V 0 5 + 1) (h5 : ∀ i, V' 5 i = if i = V 0 5 then x else V 5 i) (h8 : ∀ i, i ≠ V 0 5 → V' 8 i = V 8 i) (hx : inS S x) (hb : bkAB V x = -1) : bInv V' S := by
  have hno : ∀ i, 0 ≤ i → i < V 0 5 → V 8 i = 98 → V 5 i ≠ x := by
    intro i a b q q2
    rcases fstB_spec (fun i => decide (V 8 i = 98) && decide (V 5 i = x)) (V 0 5) with ⟨-, z⟩ | ⟨z, -⟩
    · have := z i a b
      rw [decide_eq_true q, decide_eq_true q2] at this
      cases this
    · have hb : fstB (fun i => decide (V 8 i = 98) && decide (V 5 i = x)) (V 0 5) = -1 := hb
      omega
  refine ⟨fun i a b q => ?_, fun i j a b a2 b2 q q2 e => ?_⟩
  · rw [h5]
    by_cases z : i = V 0 5
    · rw [if_pos z]
      exact hx
    · rw [if_neg z]
      exact B.1 i a (by omega) (by rw [← h8 i z]; exact q)
  · rw [h5, h5] at e
    by_cases z : i = V 0 5 <;> by_cases z2 : j = V 0 5
    · rw [z, z2]
    · rw [if_pos z, if_neg z2] at e
      exact absurd e.symm (hno j a2 (by omega) (by rw [← h8 j z2]; exact q2))
    · rw [if_neg z, if_pos z2] at e
      exact absurd e (hno i a (by omega) (by rw [← h8 i z]; exact q))
    · rw [if_neg z, if_neg z2] at e
      exact B.2 i j a (by omega) a2 (by omega) (by rw [← h8 i z]; exact q) (by rw [← h8 j z2]; exact q2) e
theorem psh_in {S : St} {s n x : Int} (h : inS S x) : inS (pshS S s n) x := by
  obtain ⟨u, hu⟩ := h
  refine ⟨u, ?_⟩
  unfold pshS
  by_cases q : u = s
  · rw [if_pos q, ← q]
    exact List.mem_cons_of_mem _ hu
  · rw [if_neg q]
    exact hu
end CI
theorem C_addStack {g g1 : qHp} {kc rr rc : Int} (I : cInv g) (hn : qNm g) (hm : cmI g) (hP0 : hpP [xIA, xIS] (cP_addStack g rc) (cX_addStack g rc) kc rr g1) : sp_addStack rc (vA g) (stA g) kc rr (vA g1) (stA g1) ∧ cInv g1 ∧ ∀ j, 23 ≤ j → g1 j = g j := by
  obtain ⟨o, hc, hc8, hB⟩ := id I
  rcases hP0 with ⟨rfl, ⟨⟨h1, h2, h3⟩, h4⟩⟩ | ⟨E, ⟨hx, rfl⟩, hk⟩
  · obtain ⟨e55, e56, e6, e⟩ := ad5_rows h4
    have hv : vA g1 = qUp (qUp (vA g) 0 3 (g 5 5 + 1)) 1 (g 5 5) rc := by
      rw [vA_V g1, vA_V g, e55, e6, e 0 (by decide) (by decide), e 1 (by decide) (by decide), e 18 (by decide) (by decide), e 2 (by decide) (by decide), e 3 (by decide) (by decide), e 4 (by decide) (by decide), e 19 (by decide) (by decide), e 20 (by decide) (by decide), e 21 (by decide) (by decide), e 22 (by decide) (by decide)]
      exact vV_stack ⟨o.1.1, h2⟩
    have hs : stA g1 = stA g := by
      unfold stA
      rw [e 7 (by decide) (by decide), e 8 (by decide) (by decide)]
    have ec : cntY g1 = cntY g := by
      unfold cntY
      rw [e 9 (by decide) (by decide)]
    refine ⟨spc_ok (Or.inr ⟨h1, Or.inr ⟨show g 5 5 ≠ 4 by omega, rfl⟩⟩) ⟨h3, hv, hs⟩, ⟨?_, by rw [ec, e56]; exact hc, by rw [ec]; exact hc8, ?_⟩, fun j hj => e j (by omega) (by omega)⟩
    · rw [e55, e6, e 7 (by decide) (by decide), e 8 (by decide) (by decide), e 9 (by decide) (by decide)]
      exact yOK_stack o h2 h1
    · rw [hv, hs]
      exact bInv_sub hB (by rw [qUp_k (by decide), qUp_j (by decide)]) (by rw [qUp_row (by decide), qUp_row (by decide)]) (fun i q => by rw [qUp_k (by decide), qUp_k (by decide)] at q; exact q) (fun _ q => q)
  · rcases hx with ⟨rfl, h1⟩ | ⟨rfl, h1, h2⟩
    · have ek : kc = 1 := by rcases hk with ⟨zz, ez⟩ | ⟨zz, ez⟩ | zz; (· omega); (· exact absurd zz (by decide)); (· exact zz.elim)
      subst ek
      exact ⟨spc_no (by decide) (Or.inl ⟨h1, rfl⟩) rfl rfl, I, fun _ _ => rfl⟩
    · have ek : kc = 2 := by rcases hk with ⟨zz, ez⟩ | ⟨zz, ez⟩ | zz; (· exact absurd zz (by decide)); (· omega); (· exact zz.elim)
      subst ek
      exact ⟨spc_no (by decide) (Or.inr ⟨h1, Or.inl ⟨fun q => q (show g1 5 5 = 4 by have := o.1.2; omega), rfl⟩⟩) rfl rfl, I, fun _ _ => rfl⟩
theorem C_addBox {g g1 : qHp} {kc rr w s : Int} (I : cInv g) (hn : qNm g) (hm : cmI g) (hP0 : hpP [xIO, xIA, xUO, xIS] (cP_addBox g w s) (cX_addBox g w s) kc rr g1) : sp_addBox w s (vA g) (stA g) kc rr (vA g1) (stA g1) ∧ cInv g1 ∧ ∀ j, 23 ≤ j → g1 j = g j := by
  obtain ⟨o, hc, hc8, hB⟩ := id I
  rcases hP0 with ⟨rfl, ⟨h1, h2, h3, h4, h5, h6⟩⟩ | ⟨E, ⟨hx, rfl⟩, hk⟩
  · obtain ⟨e13, e2, e3, e4, e8, e7, e9, e56, e55, e⟩ := ab5_rows h6
    have hno : ¬ inS (stA g) (g 1 3) := fun q => by have := hm _ q; omega
    have h13 : 0 ≤ g 1 3 := (hn 1 3).1
    obtain ⟨Y, hs⟩ := yOK_put o h1 h3.1 ⟨h13, h4.2⟩ hno
    have hs' : stA g1 = pshS (stA g) s (g 1 3) := by
      unfold stA
      rw [e7, e8]
      exact hs
    have e0 := e 0 (by decide) (by decide) (by decide) (by decide) (by decide) (by decide) (by decide) (by decide)
    have e6 := e 6 (by decide) (by decide) (by decide) (by decide) (by decide) (by decide) (by decide) (by decide)
    have e18 := e 18 (by decide) (by decide) (by decide) (by decide) (by decide) (by decide) (by decide) (by decide)
    have e19 := e 19 (by decide) (by decide) (by decide) (by decide) (by decide) (by decide) (by decide) (by decide)
    have e20 := e 20 (by decide) (by decide) (by decide) (by decide) (by decide) (by decide) (by decide) (by decide)
    have e21 := e 21 (by decide) (by decide) (by decide) (by decide) (by decide) (by decide) (by decide) (by decide)
    have e22 := e 22 (by decide) (by decide) (by decide) (by decide) (by decide) (by decide) (by decide) (by decide)
    have hv : vA g1 = qUp (qUp (vA g) 0 4 (g 1 3 + 1)) 2 (g 1 3) w := by
      rw [vA_V g1, vA_V g, e0, e55, e13, e18, e6, e2, e3, e4, e19, e20, e21, e22]
      exact vV_box h13 (fun j a b => uI_n (by omega))
    have ec : cntY g1 = cntY g + 1 := by
      unfold cntY
      rw [e9]
      refine cntI_on (b := g 1 3) h13 (by omega) ?_ ?_ (fun i hi => ?_)
      · have q : ¬ (ySt (g 9) (g 1 3) ≠ -1) := fun z => hno ((inS_so o).mp z)
        unfold ySt at q
        rw [if_pos ⟨h13, h4.2⟩] at q
        exact decide_eq_false q
      · exact decide_eq_true (by rw [uI_s]; have := h1.1; omega)
      · show decide (uI (g 9) (g 1 3) s i ≠ -1) = _
        rw [uI_n hi]
    have c4 : nBS (stA g) ≠ 8 ∧ vA g 0 4 ≠ 20 := ⟨by rw [← cnt_A o, ← hc]; omega, show g 1 3 ≠ 20 by omega⟩
    refine ⟨spc_ok (Or.inr ⟨h1, Or.inr ⟨h2, Or.inr ⟨(cap_A o h1).mp h3, Or.inr ⟨c4, rfl⟩⟩⟩⟩) ⟨h5, hv, hs'⟩, ⟨?_, ?_, by rw [ec]; omega, ?_⟩, fun j hj => e j (by omega) (by omega) (by omega) (by omega) (by omega) (by omega) (by omega) (by omega)⟩
    · rw [e55, e6, e7, e8, e9]
      exact Y
    · rw [e56, ec, ← hc]
      exact w32_id (by have := cntY_rng g; omega)
    · rw [hv, hs']
      exact bInv_sub hB (by rw [qUp_k (by decide), qUp_j (by decide)]) (by rw [qUp_row (by decide), qUp_row (by decide)]) (fun i q => by rw [qUp_k (by decide), qUp_k (by decide)] at q; exact q) (fun _ q => psh_in q)
  · rcases hx with ⟨rfl, h1⟩ | ⟨rfl, h1, h2⟩ | ⟨rfl, h1, h2, h3⟩ | ⟨rfl, h1, h2, h3, h4⟩
    · have ek : kc = 1 := by rcases hk with ⟨zz, ez⟩ | ⟨zz, ez⟩ | ⟨zz, ez⟩ | ⟨zz, ez⟩ | zz; (· omega); (· exact absurd zz (by decide)); (· exact absurd zz (by decide)); (· exact absurd zz (by decide)); (· exact zz.elim)
      subst ek
      exact ⟨spc_no (by decide) (Or.inl ⟨h1, rfl⟩) rfl rfl, I, fun _ _ => rfl⟩
    · have ek : kc = 2 := by rcases hk with ⟨zz, ez⟩ | ⟨zz, ez⟩ | ⟨zz, ez⟩ | ⟨zz, ez⟩ | zz; (· exact absurd zz (by decide)); (· omega); (· exact absurd zz (by decide)); (· exact absurd zz (by decide)); (· exact zz.elim)
      subst ek
      exact ⟨spc_no (by decide) (Or.inr ⟨h1, Or.inl ⟨h2, rfl⟩⟩) rfl rfl, I, fun _ _ => rfl⟩
    · have ek : kc = 3 := by rcases hk with ⟨zz, ez⟩ | ⟨zz, ez⟩ | ⟨zz, ez⟩ | ⟨zz, ez⟩ | zz; (· exact absurd zz (by decide)); (· exact absurd zz (by decide)); (· omega); (· exact absurd zz (by decide)); (· exact zz.elim)
      subst ek
      exact ⟨spc_no (by decide) (Or.inr ⟨h1, Or.inr ⟨h2, Or.inl ⟨fun q => h3 ((cap_A o h1).mpr q), rfl⟩⟩⟩) rfl rfl, I, fun _ _ => rfl⟩
    · have ek : kc = 4 := by rcases hk with ⟨zz, ez⟩ | ⟨zz, ez⟩ | ⟨zz, ez⟩ | ⟨zz, ez⟩ | zz; (· exact absurd zz (by decide)); (· exact absurd zz (by decide)); (· exact absurd zz (by decide)); (· omega); (· exact zz.elim)
      subst ek
      exact ⟨spc_no (by decide) (Or.inr ⟨h1, Or.inr ⟨h2, Or.inr ⟨(cap_A o h1).mp h3, Or.inl ⟨fun q => h4 (by have a := q.1; rw [← cnt_A o, ← hc] at a; have b : g1 1 3 ≠ 20 := q.2; have d : g1 1 3 ≤ 20 := (hn 1 3).2; exact ⟨by omega, by omega⟩), rfl⟩⟩⟩⟩) rfl rfl, I, fun _ _ => rfl⟩
theorem C_book {g g1 : qHp} {kc rr x h l : Int} (I : cInv g) (hn : qNm g) (hm : cmI g) (hP0 : hpP [xIO, xIA, xUO, xIS] (cP_book g x h l) (cX_book g x h l) kc rr g1) : sp_book x h l (vA g) (stA g) kc rr (vA g1) (stA g1) ∧ cInv g1 ∧ ∀ j, 23 ≤ j → g1 j = g j := by
  obtain ⟨o, hc, hc8, hB⟩ := id I
  rcases hP0 with ⟨rfl, ⟨h1, h2, h3, h4, h5, h6⟩⟩ | ⟨E, ⟨hx, rfl⟩, hk⟩
  · obtain ⟨e18, e19, e20, e21, e22, e⟩ := bk5_rows h6
    have r18 : 0 ≤ g 18 4 := (hn 18 4).1
    have hv : vA g1 = qUp (qUp (qUp (qUp (qUp (vA g) 0 5 (g 18 4 + 1)) 5 (g 18 4) x) 6 (g 18 4) h) 7 (g 18 4) l) 8 (g 18 4) 98 := by
      rw [vA_V g1, vA_V g, e18, e19, e20, e21, e22, e 0 (by decide) (by decide) (by decide) (by decide) (by decide), e 5 (by decide) (by decide) (by decide) (by decide) (by decide), e 1 (by decide) (by decide) (by decide) (by decide) (by decide), e 6 (by decide) (by decide) (by decide) (by decide) (by decide), e 2 (by decide) (by decide) (by decide) (by decide) (by decide), e 3 (by decide) (by decide) (by decide) (by decide) (by decide), e 4 (by decide) (by decide) (by decide) (by decide) (by decide)]
      exact vV_book r18
    have hs : stA g1 = stA g := by
      unfold stA
      rw [e 7 (by decide) (by decide) (by decide) (by decide) (by decide), e 8 (by decide) (by decide) (by decide) (by decide) (by decide)]
    have hb : bkAB (vA g) x = -1 := by rw [bkB_c]; exact h4.1
    refine ⟨spc_ok (Or.inr ⟨⟨(inS_so o).mp h1.1, by omega⟩, Or.inr ⟨h2, Or.inr ⟨fun q => h3 (hl_A.mpr q), Or.inr ⟨⟨hb, by rw [bkA_c]; exact h4.2.1, show g 18 4 ≠ 30 by omega⟩, rfl⟩⟩⟩⟩) ⟨h5, hv, hs⟩, cI_same I (fun k h5 _ => e k (by omega) (by omega) (by omega) (by omega) (by omega)) ?_, fun j hj => e j (by omega) (by omega) (by omega) (by omega) (by omega)⟩
    rw [hv, hs]
    refine bInv_add (x := x) hB r18 ?_ (fun i => ?_) (fun i hi => ?_) ((inS_so o).mp h1.1) hb
    · rw [qUp_k (by decide), qUp_k (by decide), qUp_k (by decide), qUp_k (by decide), qUp_s]
      rfl
    · rw [qUp_k (by decide), qUp_k (by decide), qUp_k (by decide)]
      show _ = if i = g 18 4 then x else vA g 5 i
      by_cases q : i = g 18 4
      · rw [if_pos q, q, qUp_s]
      · rw [if_neg q, qUp_j q, qUp_k (by decide)]
    · have hi : i ≠ g 18 4 := hi
      rw [qUp_j hi, qUp_k (by decide), qUp_k (by decide), qUp_k (by decide), qUp_k (by decide)]
  · rcases hx with ⟨rfl, h1⟩ | ⟨rfl, h1, h2⟩ | ⟨rfl, h1, h2, h3⟩ | ⟨rfl, h1, h2, h3, h4⟩
    · have ek : kc = 1 := by rcases hk with ⟨zz, ez⟩ | ⟨zz, ez⟩ | ⟨zz, ez⟩ | ⟨zz, ez⟩ | zz; (· omega); (· exact absurd zz (by decide)); (· exact absurd zz (by decide)); (· exact absurd zz (by decide)); (· exact zz.elim)
      subst ek
      exact ⟨spc_no (by decide) (Or.inl ⟨fun q => h1 ⟨(inS_so o).mpr q.1, by have := q.2; omega⟩, rfl⟩) rfl rfl, I, fun _ _ => rfl⟩
    · have ek : kc = 2 := by rcases hk with ⟨zz, ez⟩ | ⟨zz, ez⟩ | ⟨zz, ez⟩ | ⟨zz, ez⟩ | zz; (· exact absurd zz (by decide)); (· omega); (· exact absurd zz (by decide)); (· exact absurd zz (by decide)); (· exact zz.elim)
      subst ek
      exact ⟨spc_no (by decide) (Or.inr ⟨⟨(inS_so o).mp h1.1, by omega⟩, Or.inl ⟨h2, rfl⟩⟩) rfl rfl, I, fun _ _ => rfl⟩
    · have ek : kc = 3 := by rcases hk with ⟨zz, ez⟩ | ⟨zz, ez⟩ | ⟨zz, ez⟩ | ⟨zz, ez⟩ | zz; (· exact absurd zz (by decide)); (· exact absurd zz (by decide)); (· omega); (· exact absurd zz (by decide)); (· exact zz.elim)
      subst ek
      exact ⟨spc_no (by decide) (Or.inr ⟨⟨(inS_so o).mp h1.1, by omega⟩, Or.inr ⟨h2, Or.inl ⟨fun q => q (hl_A.mp h3), rfl⟩⟩⟩) rfl rfl, I, fun _ _ => rfl⟩
    · have ek : kc = 4 := by rcases hk with ⟨zz, ez⟩ | ⟨zz, ez⟩ | ⟨zz, ez⟩ | ⟨zz, ez⟩ | zz; (· exact absurd zz (by decide)); (· exact absurd zz (by decide)); (· exact absurd zz (by decide)); (· omega); (· exact zz.elim)
      subst ek
      exact ⟨spc_no (by decide) (Or.inr ⟨⟨(inS_so o).mp h1.1, by omega⟩, Or.inr ⟨h2, Or.inr ⟨fun q => h3 (hl_A.mpr q), Or.inl ⟨fun q => h4 (by have a := q.1; rw [bkB_c] at a; have b := q.2.1; rw [bkA_c] at b; have d : g1 18 4 ≠ 30 := q.2.2; have d2 : g1 18 4 ≤ 30 := (hn 18 4).2; exact ⟨a, b, by omega⟩), rfl⟩⟩⟩⟩) rfl rfl, I, fun _ _ => rfl⟩
theorem C_planLength {g g1 : qHp} {kc rr b : Int} (I : cInv g) (hn : qNm g) (hm : cmI g) (hP0 : hpP [xIO, xNS] (cP_planLength g b) (cX_planLength g b) kc rr g1) : sp_plan b (vA g) (stA g) kc rr (vA g1) (stA g1) ∧ cInv g1 ∧ ∀ j, 23 ≤ j → g1 j = g j := by
  obtain ⟨o, hc, hc8, hB⟩ := id I
  rcases hP0 with ⟨rfl, ⟨h1, F, L, h2, h3⟩⟩ | ⟨E, hx, hk⟩
  · obtain ⟨J, v1, v2, v3⟩ := cInv_fr I F
    have hL := (leaG_A o h1).mp h2
    exact ⟨spc_ok (Or.inr ⟨(inS_so o).mp h1, Or.inr ⟨⟨L, hL⟩, rfl⟩⟩) ⟨⟨L, hL, h3⟩, v1, v2⟩, J, v3⟩
  · rcases hx with ⟨rfl, h1, rfl⟩ | ⟨rfl, h1, F, h2⟩
    · have ek : kc = 1 := by rcases hk with ⟨zz, ez⟩ | ⟨zz, ez⟩ | zz; (· omega); (· exact absurd zz (by decide)); (· exact zz.elim)
      subst ek
      exact ⟨spc_no (by decide) (Or.inl ⟨fun q => h1 ((inS_so o).mpr q), rfl⟩) rfl rfl, I, fun _ _ => rfl⟩
    · have ek : kc = 2 := by rcases hk with ⟨zz, ez⟩ | ⟨zz, ez⟩ | zz; (· exact absurd zz (by decide)); (· omega); (· exact zz.elim)
      subst ek
      obtain ⟨J, v1, v2, v3⟩ := cInv_fr I F
      have hno := noG_A o h1 h2
      exact ⟨spc_no (by decide) (Or.inr ⟨(inS_so o).mp h1, Or.inl ⟨fun ⟨L, q⟩ => leaA_no o.2.2.2.2.1 q hno, rfl⟩⟩) v1 v2, J, v3⟩
theorem C_planByTrying {g g1 : qHp} {kc rr b : Int} (I : cInv g) (hn : qNm g) (hm : cmI g) (hP0 : hpP [xIO, xNS] (cP_planByTrying g b) (cX_planByTrying g b) kc rr g1) : sp_plan b (vA g) (stA g) kc rr (vA g1) (stA g1) ∧ cInv g1 ∧ ∀ j, 23 ≤ j → g1 j = g j := by
  obtain ⟨o, hc, hc8, hB⟩ := id I
  rcases hP0 with ⟨rfl, ⟨h1, F, h2, ⟨L0, h3, h4⟩, h5⟩⟩ | ⟨E, hx, hk⟩
  · obtain ⟨J, v1, v2, v3⟩ := cInv_fr I F
    obtain ⟨n, hov, hlm⟩ := lmY_ov o h1
    have hov2 := hov
    obtain ⟨L, hL⟩ := lea_ex (aOK_A I) hov h3 (by omega)
    have hL2 := hL
    obtain ⟨n', a1, a2, a3, a4⟩ := hL
    have en := ov_u o.2.2.2.2.1 a1 hov2
    subst en
    have hn3 : n' ≤ 3 := by
      obtain ⟨u, q1, q2⟩ := hov2
      have := ix_lt q1
      have : (stA g u).length ≤ 4 := o.2.2.2.2.1.2.2.2.1 u
      omega
    have dg : ∀ L, plnA (vA g) (stA g) b L → digs L := fun L h => by
      obtain ⟨z, q, -⟩ := h
      exact run_dig o.1.2 (yOK_cut o) o.2.2.2.2.1 q
    have k1 := (key_need (nd := L.length) (dg L a2) (by omega)).1
    have k2 := (key_need (nd := L0.length) (dg L0 h3) (by omega)).1
    have k3 := a4 L0 h3 (by omega)
    have k4 := h5 L a2
    exact ⟨spc_ok (Or.inr ⟨(inS_so o).mp h1, Or.inr ⟨⟨L, hL2⟩, rfl⟩⟩) ⟨⟨L, hL2, by omega⟩, v1, v2⟩, J, v3⟩
  · rcases hx with ⟨rfl, h1, rfl⟩ | ⟨rfl, h1, F, h2⟩
    · have ek : kc = 1 := by rcases hk with ⟨zz, ez⟩ | ⟨zz, ez⟩ | zz; (· omega); (· exact absurd zz (by decide)); (· exact zz.elim)
      subst ek
      exact ⟨spc_no (by decide) (Or.inl ⟨fun q => h1 ((inS_so o).mpr q), rfl⟩) rfl rfl, I, fun _ _ => rfl⟩
    · have ek : kc = 2 := by rcases hk with ⟨zz, ez⟩ | ⟨zz, ez⟩ | zz; (· exact absurd zz (by decide)); (· omega); (· exact zz.elim)
      subst ek
      obtain ⟨J, v1, v2, v3⟩ := cInv_fr I F
      have hno := noG_A o h1 h2
      exact ⟨spc_no (by decide) (Or.inr ⟨(inS_so o).mp h1, Or.inl ⟨fun ⟨L, q⟩ => leaA_no o.2.2.2.2.1 q hno, rfl⟩⟩) v1 v2, J, v3⟩
theorem C_planBox {g g1 : qHp} {kc rr b i : Int} (I : cInv g) (hn : qNm g) (hm : cmI g) (hP0 : hpP [xIO, xNS] (cP_planBox g b i) (cX_planBox g b i) kc rr g1) : sp_planBox b i (vA g) (stA g) kc rr (vA g1) (stA g1) ∧ cInv g1 ∧ ∀ j, 23 ≤ j → g1 j = g j := by
  obtain ⟨o, hc, hc8, hB⟩ := id I
  rcases hP0 with ⟨rfl, ⟨h1, F, L, m, h2, h3, h4, h5⟩⟩ | ⟨E, hx, hk⟩
  · obtain ⟨J, v1, v2, v3⟩ := cInv_fr I F
    have hL := (leaG_A o h1).mp h2
    have hi := (List.getElem?_eq_some_iff.mp h4).1
    exact ⟨spc_ok (Or.inr ⟨(inS_so o).mp h1, Or.inr ⟨⟨L, hL, h3, by omega⟩, rfl⟩⟩) ⟨⟨L, m, hL, h4, h5⟩, v1, v2⟩, J, v3⟩
  · rcases hx with (⟨rfl, h1, rfl⟩ | ⟨rfl, h1, F, h2⟩) | ⟨rfl, h1, F, L, h2, h3⟩
    · have ek : kc = 1 := by rcases hk with ⟨zz, ez⟩ | ⟨zz, ez⟩ | zz; (· omega); (· exact absurd zz (by decide)); (· exact zz.elim)
      subst ek
      exact ⟨spc_no (by decide) (Or.inl ⟨fun q => h1 ((inS_so o).mpr q), rfl⟩) rfl rfl, I, fun _ _ => rfl⟩
    · have ek : kc = 2 := by rcases hk with ⟨zz, ez⟩ | ⟨zz, ez⟩ | zz; (· exact absurd zz (by decide)); (· omega); (· exact zz.elim)
      subst ek
      obtain ⟨J, v1, v2, v3⟩ := cInv_fr I F
      have hno := noG_A o h1 h2
      exact ⟨spc_no (by decide) (Or.inr ⟨(inS_so o).mp h1, Or.inl ⟨fun ⟨L, q, _⟩ => leaA_no o.2.2.2.2.1 q hno, rfl⟩⟩) v1 v2, J, v3⟩
    · have ek : kc = 2 := by rcases hk with ⟨zz, ez⟩ | ⟨zz, ez⟩ | zz; (· exact absurd zz (by decide)); (· omega); (· exact zz.elim)
      subst ek
      obtain ⟨J, v1, v2, v3⟩ := cInv_fr I F
      have hL := (leaG_A o h1).mp h2
      exact ⟨spc_no (by decide) (Or.inr ⟨(inS_so o).mp h1, Or.inl ⟨fun ⟨L', q, q2⟩ => h3 (by rw [leaA_u (aOK_A I).1 (aOK_A I).2.1 o.2.2.2.2.1 hL q]; exact q2), rfl⟩⟩) v1 v2, J, v3⟩
theorem C_planStack {g g1 : qHp} {kc rr b i : Int} (I : cInv g) (hn : qNm g) (hm : cmI g) (hP0 : hpP [xIO, xNS] (cP_planStack g b i) (cX_planStack g b i) kc rr g1) : sp_planStack b i (vA g) (stA g) kc rr (vA g1) (stA g1) ∧ cInv g1 ∧ ∀ j, 23 ≤ j → g1 j = g j := by
  obtain ⟨o, hc, hc8, hB⟩ := id I
  rcases hP0 with ⟨rfl, ⟨h1, F, L, m, h2, h3, h4, h5⟩⟩ | ⟨E, hx, hk⟩
  · obtain ⟨J, v1, v2, v3⟩ := cInv_fr I F
    have hL := (leaG_A o h1).mp h2
    have hi := (List.getElem?_eq_some_iff.mp h4).1
    exact ⟨spc_ok (Or.inr ⟨(inS_so o).mp h1, Or.inr ⟨⟨L, hL, h3, by omega⟩, rfl⟩⟩) ⟨⟨L, m, hL, h4, h5⟩, v1, v2⟩, J, v3⟩
  · rcases hx with (⟨rfl, h1, rfl⟩ | ⟨rfl, h1, F, h2⟩) | ⟨rfl, h1, F, L, h2, h3⟩
    · have ek : kc = 1 := by rcases hk with ⟨zz, ez⟩ | ⟨zz, ez⟩ | zz; (· omega); (· exact absurd zz (by decide)); (· exact zz.elim)
      subst ek
      exact ⟨spc_no (by decide) (Or.inl ⟨fun q => h1 ((inS_so o).mpr q), rfl⟩) rfl rfl, I, fun _ _ => rfl⟩
    · have ek : kc = 2 := by rcases hk with ⟨zz, ez⟩ | ⟨zz, ez⟩ | zz; (· exact absurd zz (by decide)); (· omega); (· exact zz.elim)
      subst ek
      obtain ⟨J, v1, v2, v3⟩ := cInv_fr I F
      have hno := noG_A o h1 h2
      exact ⟨spc_no (by decide) (Or.inr ⟨(inS_so o).mp h1, Or.inl ⟨fun ⟨L, q, _⟩ => leaA_no o.2.2.2.2.1 q hno, rfl⟩⟩) v1 v2, J, v3⟩
    · have ek : kc = 2 := by rcases hk with ⟨zz, ez⟩ | ⟨zz, ez⟩ | zz; (· exact absurd zz (by decide)); (· omega); (· exact zz.elim)
      subst ek
      obtain ⟨J, v1, v2, v3⟩ := cInv_fr I F
      have hL := (leaG_A o h1).mp h2
      exact ⟨spc_no (by decide) (Or.inr ⟨(inS_so o).mp h1, Or.inl ⟨fun ⟨L', q, q2⟩ => h3 (by rw [leaA_u (aOK_A I).1 (aOK_A I).2.1 o.2.2.2.2.1 hL q]; exact q2), rfl⟩⟩) v1 v2, J, v3⟩
theorem C_dig {g g1 : qHp} {kc rr b : Int} (I : cInv g) (hn : qNm g) (hm : cmI g) (hP0 : hpP [xIO, xNS] (cP_dig g b) (cX_dig g b) kc rr g1) : sp_dig b (vA g) (stA g) kc rr (vA g1) (stA g1) ∧ cInv g1 ∧ ∀ j, 23 ≤ j → g1 j = g j := by
  obtain ⟨o, hc, hc8, hB⟩ := id I
  rcases hP0 with ⟨rfl, ⟨h1, L, z, g2, F, h2, h3, Q, h4⟩⟩ | ⟨E, hx, hk⟩
  · have hL := (leaG_A o h1).mp h2
    obtain ⟨J, v1, v2, v3⟩ := cI_mv I F Q (fun x => inS_run h3)
    exact ⟨spc_ok (Or.inr ⟨(inS_so o).mp h1, Or.inr ⟨⟨L, hL⟩, rfl⟩⟩) ⟨L, hL, by rw [v2]; exact h3, h4, v1⟩, J, v3⟩
  · rcases hx with ⟨rfl, h1, rfl⟩ | ⟨rfl, h1, F, h2⟩
    · have ek : kc = 1 := by rcases hk with ⟨zz, ez⟩ | ⟨zz, ez⟩ | zz; (· omega); (· exact absurd zz (by decide)); (· exact zz.elim)
      subst ek
      exact ⟨spc_no (by decide) (Or.inl ⟨fun q => h1 ((inS_so o).mpr q), rfl⟩) rfl rfl, I, fun _ _ => rfl⟩
    · have ek : kc = 2 := by rcases hk with ⟨zz, ez⟩ | ⟨zz, ez⟩ | zz; (· exact absurd zz (by decide)); (· omega); (· exact zz.elim)
      subst ek
      obtain ⟨J, v1, v2, v3⟩ := cInv_fr I F
      have hno := noG_A o h1 h2
      exact ⟨spc_no (by decide) (Or.inr ⟨(inS_so o).mp h1, Or.inl ⟨fun ⟨L, q⟩ => leaA_no o.2.2.2.2.1 q hno, rfl⟩⟩) v1 v2, J, v3⟩
theorem C_pass {g g1 : qHp} {kc rr n : Int} (I : cInv g) (hn : qNm g) (hm : cmI g) (hP0 : hpP [xIA] (cP_pass g n) (cX_pass g n) kc rr g1) : sp_pass n (vA g) (stA g) kc rr (vA g1) (stA g1) ∧ cInv g1 ∧ ∀ j, 23 ≤ j → g1 j = g j := by
  obtain ⟨o, hc, hc8, hB⟩ := id I
  rcases hP0 with ⟨rfl, ⟨h1, h2, h3⟩⟩ | ⟨E, ⟨hx, rfl⟩, hk⟩
  · have hsub := (ps_O (aOK_A I) h2).2
    exact ⟨spc_ok (Or.inr ⟨⟨⟨h1.1, h1.2.1⟩, h1.2.2⟩, rfl⟩) h2, ⟨h3.1, h3.2.2.1 hc, by have := cntY_le o h3.1 hsub; omega, h3.2.2.2⟩, h3.2.1⟩
  · rcases hx with ⟨rfl, h1⟩
    · have ek : kc = 1 := by rcases hk with ⟨zz, ez⟩ | zz; (· omega); (· exact zz.elim)
      subst ek
      exact ⟨spc_no (by decide) (Or.inl ⟨fun q => h1 ⟨q.1.1, q.1.2, q.2⟩, rfl⟩) rfl rfl, I, fun _ _ => rfl⟩
