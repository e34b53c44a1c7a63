/-! the reference's calls, over the abstract yard, the rest -/
section RB
variable {g g1 g2 : qHp}
theorem qU_id (V : qHp) (k : Nat) (j : Int) : qUp V k j (V k j) = V := by
  funext k' j'
  by_cases q : k' = k ∧ j' = j
  · obtain ⟨rfl, rfl⟩ := q
    rw [qUp_s]
  · by_cases q2 : k' = k
    · have q3 : j' ≠ j := fun e => q ⟨q2, e⟩
      rw [q2, qUp_j q3]
    · rw [qUp_k q2]
theorem vB_d (G : qHp) : vB G = vV (G 23 1) (G 23 12) (G 23 18) (G 23 2) (G 23 4) (G 23 13) (G 24) (G 25) (G 27) (G 28) (G 32) (G 33) (G 34) (G 35) := rfl
theorem rF2 (o : yK g 0) (hio : insN g (stB g)) (F : fndF g g2) {cs : List Prop} {A : anS} {k : Int} {rr : Int} (hk : k ≠ 0) (hc : fstF cs 1 k) : spc cs A (vB g) (stB g) (qUp g2 23 0 k 23 0) rr (vB (qUp g2 23 0 k)) (stB (qUp g2 23 0 k)) ∧ rInv (qUp g2 23 0 k) ∧ ∀ j, j < 23 ∨ 36 ≤ j → qUp g2 23 0 k j = g j := by
  obtain ⟨J, v1, v2, -, v4⟩ := rI_fnd o hio F
  obtain ⟨e1, e2, e3, e4, e5⟩ := rN (k := k) J.1 J.2
  rw [e1]
  exact ⟨spc_no hk hc (e2.trans v1) (e3.trans v2), e4, fun j hj => (e5 j hj).trans (v4 j hj)⟩
theorem wf_B (o : yK g 0) : wfS (vB g 0 3) (stB g) := o.2.2.2.2.1
theorem lea_uB (o : yK g 0) {b : Int} {L L' : List Int} (h : leaN g b L) (h' : leaN g b L') : L = L' := leaA_u (V := vB g) o.1.2 (yOK_cut o) (wf_B o) (lea_B.mp h) (lea_B.mp h')
theorem rI_same (o : yK g 0) (hio : insN g (stB g)) (h23 : ∀ j, j = 2 ∨ j = 4 → g1 23 j = g 23 j) (h : ∀ k, k = 24 ∨ k = 26 ∨ k = 29 ∨ k = 30 → g1 k = g k) : rInv g1 ∧ stB g1 = stB g := by
  obtain ⟨k1, k2⟩ := yK_eq (g := g) (g' := g1) (y := 0) (y' := 0) (h23 2 (Or.inl rfl)) (h 24 (Or.inl rfl)) (fun j _ _ => by rw [h 29 (by decide)]) (fun j _ _ => by rw [h 30 (by decide)]) o
  refine ⟨⟨k1, fun x => ?_⟩, k2⟩
  show inS (stM g1 0) x ↔ _
  rw [k2, h23 4 (Or.inr rfl), h 26 (by decide)]
  exact hio x
theorem psh_iff {S : St} {s n x : Int} : inS (pshS S s n) x ↔ (inS S x ∨ x = n) := by
  constructor
  · rintro ⟨u, hu⟩
    unfold pshS at hu
    by_cases q : u = s
    · rw [if_pos q] at hu
      rcases List.mem_cons.mp hu with z | z
      · exact Or.inr z
      · exact Or.inl ⟨s, z⟩
    · rw [if_neg q] at hu
      exact Or.inl ⟨u, hu⟩
  · rintro (h | h)
    · exact psh_in h
    · refine ⟨s, ?_⟩
      unfold pshS
      rw [if_pos rfl, h]
      exact List.mem_cons_self
theorem abM_rows (g : qHp) (w s : Int) : abM g w s 25 = uI (g 25) (g 23 4) w ∧ abM g w s 26 = uI (g 26) (g 23 4) 1 ∧ abM g w s 27 = uI (g 27) (g 23 4) 45 ∧ abM g w s 30 = uI (g 30) (4 * s + g 29 s) (g 23 4) ∧ abM g w s 29 = uI (g 29) s (g 29 s + 1) ∧ abM g w s 23 4 = g 23 4 + 1 ∧ (∀ j, j ≠ 4 → abM g w s 23 j = g 23 j) ∧ ∀ k, k ≠ 25 → k ≠ 26 → k ≠ 27 → k ≠ 30 → k ≠ 29 → k ≠ 23 → abM g w s k = g k := by
  unfold abM
  refine ⟨?_, ?_, ?_, ?_, ?_, ?_, fun j hj => ?_, fun k h1 h2 h3 h4 h5 h6 => ?_⟩
  · rw [qUp_row (by decide), qUp_row (by decide), qUp_row (by decide), qUp_row (by decide), qUp_row (by decide), qUp_u]
  · rw [qUp_row (by decide), qUp_row (by decide), qUp_row (by decide), qUp_row (by decide), qUp_u, qUp_row (by decide)]
  · rw [qUp_row (by decide), qUp_row (by decide), qUp_row (by decide), qUp_u, qUp_row (by decide), qUp_row (by decide)]
  · rw [qUp_row (by decide), qUp_row (by decide), qUp_u, qUp_row (by decide), qUp_row (by decide), qUp_row (by decide)]
  · rw [qUp_row (by decide), qUp_u, qUp_row (by decide), qUp_row (by decide), qUp_row (by decide), qUp_row (by decide)]
  · rw [qUp_s]
  · rw [qUp_j hj, qUp_row (by decide), qUp_row (by decide), qUp_row (by decide), qUp_row (by decide), qUp_row (by decide)]
  · rw [qUp_row h6, qUp_row h5, qUp_row h4, qUp_row h3, qUp_row h2, qUp_row h1]
theorem bkM_rows (g : qHp) (b h l : Int) : bkM g b h l 32 = uI (g 32) (g 23 13) b ∧ bkM g b h l 33 = uI (g 33) (g 23 13) h ∧ bkM g b h l 34 = uI (g 34) (g 23 13) l ∧ bkM g b h l 35 = uI (g 35) (g 23 13) 98 ∧ bkM g b h l 23 13 = g 23 13 + 1 ∧ (∀ j, j ≠ 13 → bkM g b h l 23 j = g 23 j) ∧ ∀ k, k ≠ 32 → k ≠ 33 → k ≠ 34 → k ≠ 35 → k ≠ 23 → bkM g b h l k = g k := by
  unfold bkM
  refine ⟨?_, ?_, ?_, ?_, ?_, fun j hj => ?_, fun k h1 h2 h3 h4 h5 => ?_⟩
  · rw [qUp_row (by decide), qUp_row (by decide), qUp_row (by decide), qUp_row (by decide), qUp_u]
  · rw [qUp_row (by decide), qUp_row (by decide), qUp_row (by decide), qUp_u, qUp_row (by decide)]
  · rw [qUp_row (by decide), qUp_row (by decide), qUp_u, qUp_row (by decide), qUp_row (by decide)]
  · rw [qUp_row (by decide), qUp_u, qUp_row (by decide), qUp_row (by decide), qUp_row (by decide)]
  · rw [qUp_s]
  · rw [qUp_j hj, qUp_row (by decide), qUp_row (by decide), qUp_row (by decide), qUp_row (by decide)]
  · rw [qUp_row h5, qUp_row h4, qUp_row h3, qUp_row h2, qUp_row h1]
theorem vB_hold {x kd ut : Int} (hx : 0 ≤ x ∧ x < g 23 4) : vB (qUp (qUp g 27 x kd) 28 x ut) = qUp (qUp (vB g) 3 x kd) 4 x (if kd = 45 then 0 else ut) ∧ rInv (qUp (qUp g 27 x kd) 28 x ut) = rInv (qUp (qUp g 27 x kd) 28 x ut) := by
  have e : ∀ k, k ≠ 27 → k ≠ 28 → qUp (qUp g 27 x kd) 28 x ut k = g k := fun k h3 h4 => by rw [qUp_row h4, qUp_row h3]
  refine ⟨?_, rfl⟩
  rw [vB_d (qUp (qUp g 27 x kd) 28 x ut), vB_d g, e 23 (by decide) (by decide), e 24 (by decide) (by decide), e 25 (by decide) (by decide), e 32 (by decide) (by decide), e 33 (by decide) (by decide), e 34 (by decide) (by decide), e 35 (by decide) (by decide), qUp_row (show (27 : Nat) ≠ 28 by decide), qUp_u, qUp_u, qUp_row (show (28 : Nat) ≠ 27 by decide)]
  exact vV_hold hx (by rw [uI_s]) (fun j hj => uI_n hj)
theorem vB_rel {x : Int} (hx : 0 ≤ x ∧ x < g 23 4) : vB (qUp g 27 x 45) = qUp (qUp (vB g) 3 x 45) 4 x 0 := by
  have e : ∀ k, k ≠ 27 → qUp g 27 x 45 k = g k := fun k h3 => qUp_row h3
  rw [vB_d (qUp g 27 x 45), vB_d g, e 23 (by decide), e 24 (by decide), e 25 (by decide), e 28 (by decide), e 32 (by decide), e 33 (by decide), e 34 (by decide), e 35 (by decide), qUp_u]
  exact vV_hold hx (by rw [if_pos rfl]) (fun j hj => rfl)
end RB
theorem R_planLength {g g1 : qHp} {rr b : Int} (o : yK g 0) (hio : insN g (stB g)) (hz : g 23 0 = 0) (hn : qNm g) (hP0 : rP_planLength g b rr g1) : sp_plan b (vB g) (stB g) (g1 23 0) rr (vB g1) (stB g1) ∧ rInv g1 ∧ ∀ j, j < 23 ∨ 36 ≤ j → g1 j = g j := by
  rcases hP0 with ⟨h1, h2, rfl⟩ | ⟨h1, h2, h3, g2, F, rfl⟩ | ⟨h1, F, L, h2, h3, h4⟩
  · exact rF o hio (by decide) (Or.inl ⟨fun q => h1 ((hio _).mp q), rfl⟩)
  · exact rF2 o hio F (by decide) (Or.inr ⟨(hio _).mpr h1, Or.inl ⟨fun ⟨L, q⟩ => leaA_no (wf_B o) q (no_B.mp h3), rfl⟩⟩)
  · obtain ⟨J, v1, v2, v3, v4⟩ := rI_fnd o hio F
    rw [v3, hz]
    exact ⟨spc_ok (Or.inr ⟨(hio _).mpr h1, Or.inr ⟨⟨L, lea_B.mp h2⟩, rfl⟩⟩) ⟨⟨L, lea_B.mp h2, h3⟩, v1, v2⟩, J, v4⟩
theorem R_planByTrying {g g1 : qHp} {rr b : Int} (o : yK g 0) (hio : insN g (stB g)) (hz : g 23 0 = 0) (hn : qNm g) (hP0 : rP_planByTrying g b rr g1) : sp_plan b (vB g) (stB g) (g1 23 0) rr (vB g1) (stB g1) ∧ rInv g1 ∧ ∀ j, j < 23 ∨ 36 ≤ j → g1 j = g j := by
  rcases hP0 with ⟨h1, h2, rfl⟩ | ⟨h1, h2, h3, g2, F, rfl⟩ | ⟨h1, F, L, h2, h3, h4⟩
  · exact rF o hio (by decide) (Or.inl ⟨fun q => h1 ((hio _).mp q), rfl⟩)
  · exact rF2 o hio F (by decide) (Or.inr ⟨(hio _).mpr h1, Or.inl ⟨fun ⟨L, q⟩ => leaA_no (wf_B o) q (no_B.mp h3), rfl⟩⟩)
  · obtain ⟨J, v1, v2, v3, v4⟩ := rI_fnd o hio F
    rw [v3, hz]
    exact ⟨spc_ok (Or.inr ⟨(hio _).mpr h1, Or.inr ⟨⟨L, lea_B.mp h2⟩, rfl⟩⟩) ⟨⟨L, lea_B.mp h2, h3⟩, v1, v2⟩, J, v4⟩
theorem R_planBox {g g1 : qHp} {rr b i : Int} (o : yK g 0) (hio : insN g (stB g)) (hz : g 23 0 = 0) (hn : qNm g) (hP0 : rP_planBox g b i rr g1) : sp_planBox b i (vB g) (stB g) (g1 23 0) rr (vB g1) (stB g1) ∧ rInv g1 ∧ ∀ j, j < 23 ∨ 36 ≤ j → g1 j = g j := by
  obtain ⟨r0, ⟨h0, ⟨h1, rfl⟩ | ⟨h1, h2, g2, F, rfl⟩ | ⟨h1, F, L, h2, h3, h4⟩⟩, h5⟩ := hP0
  · exact rF o hio (by decide) (Or.inl ⟨fun q => h1 ((hio _).mp q), rfl⟩)
  · refine rF2 o hio F (by decide) (Or.inr ⟨(hio _).mpr h1, Or.inl ⟨fun ⟨L', q, q2⟩ => ?_, rfl⟩⟩)
    rcases h2 with h2 | ⟨L, h2, h3⟩
    · exact leaA_no (wf_B o) q (no_B.mp h2)
    · have e := lea_uB o h2 (lea_B.mpr q)
      rw [e] at h3
      exact h3 q2
  · obtain ⟨J, v1, v2, v3, v4⟩ := rI_fnd o hio F
    rw [v3, hz]
    have hi := (List.getElem?_eq_some_iff.mp h4).1
    exact ⟨spc_ok (Or.inr ⟨(hio _).mpr h1, Or.inr ⟨⟨L, lea_B.mp h2, h3, by omega⟩, rfl⟩⟩) ⟨⟨L, r0, lea_B.mp h2, h4, h5⟩, v1, v2⟩, J, v4⟩
theorem R_planStack {g g1 : qHp} {rr b i : Int} (o : yK g 0) (hio : insN g (stB g)) (hz : g 23 0 = 0) (hn : qNm g) (hP0 : rP_planStack g b i rr g1) : sp_planStack b i (vB g) (stB g) (g1 23 0) rr (vB g1) (stB g1) ∧ rInv g1 ∧ ∀ j, j < 23 ∨ 36 ≤ j → g1 j = g j := by
  obtain ⟨r0, ⟨h0, ⟨h1, rfl⟩ | ⟨h1, h2, g2, F, rfl⟩ | ⟨h1, F, L, h2, h3, h4⟩⟩, h5⟩ := hP0
  · exact rF o hio (by decide) (Or.inl ⟨fun q => h1 ((hio _).mp q), rfl⟩)
  · refine rF2 o hio F (by decide) (Or.inr ⟨(hio _).mpr h1, Or.inl ⟨fun ⟨L', q, q2⟩ => ?_, rfl⟩⟩)
    rcases h2 with h2 | ⟨L, h2, h3⟩
    · exact leaA_no (wf_B o) q (no_B.mp h2)
    · have e := lea_uB o h2 (lea_B.mpr q)
      rw [e] at h3
      exact h3 q2
  · obtain ⟨J, v1, v2, v3, v4⟩ := rI_fnd o hio F
    rw [v3, hz]
    have hi := (List.getElem?_eq_some_iff.mp h4).1
    exact ⟨spc_ok (Or.inr ⟨(hio _).mpr h1, Or.inr ⟨⟨L, lea_B.mp h2, h3, by omega⟩, rfl⟩⟩) ⟨⟨L, r0, lea_B.mp h2, h4, h5⟩, v1, v2⟩, J, v4⟩
theorem R_dig {g g1 : qHp} {rr b : Int} (o : yK g 0) (hio : insN g (stB g)) (hz : g 23 0 = 0) (hn : qNm g) (hP0 : rP_dig g b rr g1) : sp_dig b (vB g) (stB g) (g1 23 0) rr (vB g1) (stB g1) ∧ rInv g1 ∧ ∀ j, j < 23 ∨ 36 ≤ j → g1 j = g j := by
  obtain ⟨g2, L, z, hQ, h2, h3, hM, h5⟩ := hP0
  have r12 : -2147483648 ≤ g 23 12 ∧ g 23 12 ≤ 2147483647 := hn 23 12
  have nil : rr = 0 → L = [] := fun q => List.length_eq_zero_iff.mp (by omega)
  rcases hQ with ⟨h1, q, rfl⟩ | ⟨h1, q, hno, g3, F, rfl⟩ | ⟨h1, F, L', h6, h7, h8⟩
  · have e := nil q
    subst e
    have h3 : stM g 0 = z := h3
    subst h3
    obtain ⟨e1, e2, e3, e4, e5⟩ := rN (k := 1) o hio
    obtain ⟨J, v1, v2, v3, v4⟩ := rI_mk e4.2 hM (fun x => by rw [e3])
    rw [v3, e1]
    have ev : vB g1 = vB g := by
      rw [v1, e2, qUp_j (by decide)]
      show qUp (vB g) 0 1 (w32 (g 23 12 + 0)) = _
      rw [Int.add_zero, w32_id r12]
      exact qU_id (vB g) 0 1
    exact ⟨spc_no (by decide) (Or.inl ⟨fun q => h1 ((hio _).mp q), rfl⟩) ev v2, J, fun j hj => (v4 j hj).trans (e5 j hj)⟩
  · have e := nil q
    subst e
    have h3 : stM g 0 = z := h3
    subst h3
    obtain ⟨J0, w1, w2, w3, w4⟩ := rI_fnd o hio F
    obtain ⟨e1, e2, e3, e4, e5⟩ := rN (k := 2) J0.1 J0.2
    obtain ⟨J, v1, v2, v3, v4⟩ := rI_mk e4.2 hM (fun x => by rw [e3, w2])
    rw [v3, e1]
    have ev : vB g1 = vB g := by
      rw [v1, e2, w1, qUp_j (by decide), F.2.2 23 (by decide) (by decide) (by decide)]
      show qUp (vB g) 0 1 (w32 (g 23 12 + 0)) = _
      rw [Int.add_zero, w32_id r12]
      exact qU_id (vB g) 0 1
    exact ⟨spc_no (by decide) (Or.inr ⟨(hio _).mpr h1, Or.inl ⟨fun ⟨L, q⟩ => leaA_no (wf_B o) q (no_B.mp hno), rfl⟩⟩) ev v2, J, fun j hj => (v4 j hj).trans ((e5 j hj).trans (w4 j hj))⟩
  · obtain ⟨J0, w1, w2, w3, w4⟩ := rI_fnd o hio F
    have hL := h5 (w3.trans hz)
    obtain ⟨J, v1, v2, v3, v4⟩ := rI_mk J0.2 hM (fun x => by rw [w2]; exact inS_run h3)
    rw [v3, w3, hz]
    rw [F.2.2 23 (by decide) (by decide) (by decide)] at v1
    exact ⟨spc_ok (Or.inr ⟨(hio _).mpr h1, Or.inr ⟨⟨L, lea_B.mp hL⟩, rfl⟩⟩) ⟨L, lea_B.mp hL, by rw [v2]; exact h3, h2, by rw [v1, w1]; rfl⟩, J, fun j hj => (v4 j hj).trans (w4 j hj)⟩
theorem R_move {g g1 : qHp} {rr b s : Int} (o : yK g 0) (hio : insN g (stB g)) (hz : g 23 0 = 0) (hn : qNm g) (hP0 : rP_move g b s rr g1) : sp_move b s (vB g) (stB g) (g1 23 0) rr (vB g1) (stB g1) ∧ rInv g1 ∧ ∀ j, j < 23 ∨ 36 ≤ j → g1 j = g j := by
  rcases hP0 with ⟨⟨⟨h1, h1b⟩, h2⟩, h3, h4⟩ | ⟨h1, rfl⟩ | ⟨⟨⟨h1, h1b⟩, h2⟩, rfl⟩
  · have Q := (mkQ_s (mkQ_0 (hn 23 12) o) h2).2.2
    rw [← h4] at Q
    obtain ⟨J, v1, v2, v3, v4⟩ := rI_mk hio Q (fun x => inS_do h2)
    have m3 := (mvM_ok o h2).2.2.1 23 (by decide) (by decide)
    rw [v3, hz]
    refine ⟨spc_ok (Or.inr ⟨⟨(hio _).mpr h1, h1b⟩, Or.inr ⟨h2, rfl⟩⟩) ⟨by rw [h3, m3]; rfl, by rw [v1, Int.zero_add]; rfl, v2⟩, J, v4⟩
  · exact rF o hio (by decide) (Or.inl ⟨fun q => h1 ⟨(hio _).mp q.1, q.2⟩, rfl⟩)
  · exact rF o hio (by decide) (Or.inr ⟨⟨(hio _).mpr h1, h1b⟩, Or.inl ⟨h2, rfl⟩⟩)
theorem R_addStack {g g1 : qHp} {rr rc : Int} (o : yK g 0) (hio : insN g (stB g)) (hz : g 23 0 = 0) (hn : qNm g) (hP0 : rP_addStack g rc rr g1) : sp_addStack rc (vB g) (stB g) (g1 23 0) rr (vB g1) (stB g1) ∧ rInv g1 ∧ ∀ j, j < 23 ∨ 36 ≤ j → g1 j = g j := by
  rcases hP0 with ⟨⟨h1, h2⟩, h3, h4⟩ | ⟨h1, rfl⟩ | ⟨⟨h1, h2⟩, rfl⟩
  · have r2 : 0 ≤ g 23 2 ∧ g 23 2 ≤ 4 := o.1
    have e24 : g1 24 = uI (g 24) (g 23 2) rc := by rw [h4, qUp_row (by decide), qUp_u]
    have e2 : g1 23 2 = g 23 2 + 1 := by rw [h4, qUp_s]
    have e23 : ∀ j, j ≠ 2 → g1 23 j = g 23 j := fun j hj => by rw [h4, qUp_j hj, qUp_row (by decide)]
    have e : ∀ k, k ≠ 24 → k ≠ 23 → g1 k = g k := fun k a c => by rw [h4, qUp_row c, qUp_row a]
    have hs : stM g1 0 = stM g 0 := by
      show stOf (hM g1 0) (pM g1 0) = stOf (hM g 0) (pM g 0)
      unfold hM pM
      rw [e 29 (by decide) (by decide), e 30 (by decide) (by decide)]
    have hk : yK g1 0 := by
      have Y := yOK_stack (rc := rc) o (by omega) h1
      unfold yK
      rw [hs, e2, e24]
      unfold hM pM at Y ⊢
      rw [e 29 (by decide) (by decide), e 30 (by decide) (by decide)]
      exact Y
    have hv : vB g1 = qUp (qUp (vB g) 0 3 (g 23 2 + 1)) 1 (g 23 2) rc := by
      rw [vB_d g1, vB_d g, e2, e24, e23 1 (by decide), e23 12 (by decide), e23 18 (by decide), e23 4 (by decide), e23 13 (by decide), e 25 (by decide) (by decide), e 27 (by decide) (by decide), e 28 (by decide) (by decide), e 32 (by decide) (by decide), e 33 (by decide) (by decide), e 34 (by decide) (by decide), e 35 (by decide) (by decide)]
      exact vV_stack (by omega)
    rw [e23 0 (by decide), hz]
    refine ⟨spc_ok (Or.inr ⟨h1, Or.inr ⟨h2, rfl⟩⟩) ⟨h3, hv, hs⟩, ⟨hk, fun x => ?_⟩, fun j hj => e j (by omega) (by omega)⟩
    show inS (stM g1 0) x ↔ _
    rw [hs, e23 4 (by decide), e 26 (by decide) (by decide)]
    exact hio x
  · exact rF o hio (by decide) (Or.inl ⟨h1, rfl⟩)
  · exact rF o hio (by decide) (Or.inr ⟨h1, Or.inl ⟨fun q => q h2, rfl⟩⟩)
theorem R_addBox {g g1 : qHp} {rr w s : Int} (o : yK g 0) (hio : insN g (stB g)) (hz : g 23 0 = 0) (hn : qNm g) (hP0 : rP_addBox g w s rr g1) : sp_addBox w s (vB g) (stB g) (g1 23 0) rr (vB g1) (stB g1) ∧ rInv g1 ∧ ∀ j, j < 23 ∨ 36 ≤ j → g1 j = g j := by
  rcases hP0 with ⟨⟨h1, h2, h3, h4⟩, h5, rfl⟩ | ⟨h1, rfl⟩ | ⟨⟨h1, h2⟩, rfl⟩ | ⟨⟨h1, h2, h3⟩, rfl⟩ | ⟨⟨h1, h2, h3, h4⟩, rfl⟩
  · obtain ⟨e25, e26, e27, e30, e29, e4, e23, e⟩ := abM_rows g w s
    have r4 : 0 ≤ g 23 4 ∧ g 23 4 ≤ 20 := hn 23 4
    have hno : ¬ inS (stB g) (g 23 4) := fun q => by have := ((hio _).mp q).2.1; omega
    have hht : hM g 0 s < g 24 s := h3.1
    obtain ⟨Y, hs⟩ := yOK_put (s := s) (n := g 23 4) o h1 hht (by omega) hno
    have eh : hM (abM g w s) 0 = uI (hM g 0) s (hM g 0 s + 1) := by
      funext j
      rw [hM0, hM0 g s, e29]
      unfold uI
      rw [hM0]
    have ep : pM (abM g w s) 0 = uI (pM g 0) (s * 4 + hM g 0 s) (g 23 4) := by
      funext j
      rw [pM0, e30, hM0]
      unfold uI
      rw [pM0, show 4 * s + g 29 s = s * 4 + g 29 s by omega]
    have hs' : stM (abM g w s) 0 = pshS (stM g 0) s (g 23 4) := by
      show stOf (hM (abM g w s) 0) (pM (abM g w s) 0) = _
      rw [eh, ep]
      exact hs
    have hk : yK (abM g w s) 0 := by
      have Y2 := Y
      rw [← eh, ← ep, ← e 24 (by decide) (by decide) (by decide) (by decide) (by decide) (by decide), ← e23 2 (by decide)] at Y2
      exact yK_of Y2
    have hv : vB (abM g w s) = qUp (qUp (vB g) 0 4 (g 23 4 + 1)) 2 (g 23 4) w := by
      rw [vB_d (abM g w s), vB_d g, e4, e25, e27, e23 1 (by decide), e23 12 (by decide), e23 18 (by decide), e23 2 (by decide), e23 13 (by decide), e 24 (by decide) (by decide) (by decide) (by decide) (by decide) (by decide), e 28 (by decide) (by decide) (by decide) (by decide) (by decide) (by decide), e 32 (by decide) (by decide) (by decide) (by decide) (by decide) (by decide), e 33 (by decide) (by decide) (by decide) (by decide) (by decide) (by decide), e 34 (by decide) (by decide) (by decide) (by decide) (by decide) (by decide), e 35 (by decide) (by decide) (by decide) (by decide) (by decide) (by decide)]
      exact vV_box r4.1 (fun j _ _ => rfl)
    rw [e23 0 (by decide), hz]
    refine ⟨spc_ok (Or.inr ⟨h1, Or.inr ⟨h2, Or.inr ⟨(cap_B o hio h1).mp h3, Or.inr ⟨⟨by rw [cnt_B hio hn]; exact h4.1, h4.2⟩, rfl⟩⟩⟩⟩) ⟨h5, hv, hs'⟩, ⟨hk, fun x => ?_⟩, fun j hj => e j (by omega) (by omega) (by omega) (by omega) (by omega) (by omega)⟩
    show inS (stM (abM g w s) 0) x ↔ _
    rw [hs', psh_iff, e4, e26]
    have h0 := hio x
    by_cases q : x = g 23 4
    · rw [q, uI_s]
      exact ⟨fun _ => ⟨r4.1, by omega, rfl⟩, fun _ => Or.inr rfl⟩
    · rw [uI_n q]
      constructor
      · rintro (z | z)
        · have := h0.mp z
          exact ⟨this.1, by omega, this.2.2⟩
        · exact absurd z q
      · rintro ⟨a, b, c⟩
        exact Or.inl (h0.mpr ⟨a, by omega, c⟩)
  · exact rF o hio (by decide) (Or.inl ⟨h1, rfl⟩)
  · exact rF o hio (by decide) (Or.inr ⟨h1, Or.inl ⟨h2, rfl⟩⟩)
  · exact rF o hio (by decide) (Or.inr ⟨h1, Or.inr ⟨h2, Or.inl ⟨fun q => h3 ((cap_B o hio h1).mpr q), rfl⟩⟩⟩)
  · exact rF o hio (by decide) (Or.inr ⟨h1, Or.inr ⟨h2, Or.inr ⟨(cap_B o hio h1).mp h3, Or.inl ⟨fun q => h4 ⟨by rw [← cnt_B hio hn]; exact q.1, q.2⟩, rfl⟩⟩⟩⟩)
theorem R_hold {g g1 : qHp} {rr b kd ut : Int} (o : yK g 0) (hio : insN g (stB g)) (hz : g 23 0 = 0) (hn : qNm g) (hP0 : rP_hold g b kd ut rr g1) : sp_hold b kd ut (vB g) (stB g) (g1 23 0) rr (vB g1) (stB g1) ∧ rInv g1 ∧ ∀ j, j < 23 ∨ 36 ≤ j → g1 j = g j := by
  rcases hP0 with ⟨⟨h1, h2, h3⟩, h4, rfl⟩ | ⟨⟨h1, h2, h3, h3b⟩, h4, rfl⟩ | ⟨h1, rfl⟩ | ⟨⟨h1, h2⟩, rfl⟩
  · have hx : 0 ≤ b ∧ b < g 23 4 := ⟨h1.1, h1.2.1⟩
    have hk : kd ≠ 45 := by omega
    have v1 := (vB_hold (g := g) (kd := kd) (ut := ut) hx).1
    rw [if_neg hk] at v1
    have hr := fstB_rng (bkN g b) (g 23 13)
    have e6 : fstB (bkN g b) (g 23 13) ≠ -1 → vB g 6 (fstB (bkN g b) (g 23 13)) = g 33 (fstB (bkN g b) (g 23 13)) := fun q => cGet_in (by omega)
    obtain ⟨J, v2⟩ := rI_same (g1 := qUp (qUp g 27 b kd) 28 b ut) o hio (fun j _ => by rw [qUp_k (by decide), qUp_k (by decide)]) (fun k hk => by rw [qUp_row (by omega), qUp_row (by omega)])
    rw [show qUp (qUp g 27 b kd) 28 b ut 23 0 = 0 by rw [qUp_k (by decide), qUp_k (by decide), hz]]
    refine ⟨spc_ok (Or.inr ⟨(hio _).mpr h1, Or.inr ⟨h2, rfl⟩⟩) ⟨Or.inl ⟨?_, h4, v1⟩, v2⟩, J, fun j hj => by rw [qUp_row (by omega), qUp_row (by omega)]⟩
    rw [bkN_B]
    by_cases q : fstB (bkN g b) (g 23 13) = -1
    · exact Or.inl q
    · rw [e6 q]
      exact h3
  · have hx : 0 ≤ b ∧ b < g 23 4 := ⟨h1.1, h1.2.1⟩
    have hk : kd ≠ 45 := by omega
    have v1 := (vB_hold (g := g) (kd := kd) (ut := ut) hx).1
    rw [if_neg hk] at v1
    have hr := fstB_rng (bkN g b) (g 23 13)
    have e6 : fstB (bkN g b) (g 23 13) ≠ -1 → vB g 6 (fstB (bkN g b) (g 23 13)) = g 33 (fstB (bkN g b) (g 23 13)) := fun q => cGet_in (by omega)
    have e13 : qUp (qUp g 27 b kd) 28 b ut 23 13 = g 23 13 := by rw [qUp_k (by decide), qUp_k (by decide)]
    have t1 := vB_turn (g := qUp (qUp g 27 b kd) 28 b ut) (a := fstB (bkN g b) (g 23 13)) (t := 103) (by rw [e13]; omega)
    obtain ⟨J, v2⟩ := rI_same (g1 := qUp (qUp (qUp g 27 b kd) 28 b ut) 35 (fstB (bkN g b) (g 23 13)) 103) o hio (fun j _ => by rw [qUp_k (by decide), qUp_k (by decide), qUp_k (by decide)]) (fun k hk => by rw [qUp_row (by omega), qUp_row (by omega), qUp_row (by omega)])
    rw [show qUp (qUp (qUp g 27 b kd) 28 b ut) 35 (fstB (bkN g b) (g 23 13)) 103 23 0 = 0 by rw [qUp_k (by decide), qUp_k (by decide), qUp_k (by decide), hz]]
    refine ⟨spc_ok (Or.inr ⟨(hio _).mpr h1, Or.inr ⟨h2, rfl⟩⟩) ⟨Or.inr ⟨?_, h4, by rw [t1, v1, bkN_B]⟩, v2⟩, J, fun j hj => by rw [qUp_row (by omega), qUp_row (by omega), qUp_row (by omega)]⟩
    rw [bkN_B, e6 h3]
    exact ⟨h3, h3b⟩
  · exact rF o hio (by decide) (Or.inl ⟨fun q => h1 ((hio _).mp q), rfl⟩)
  · exact rF o hio (by decide) (Or.inr ⟨(hio _).mpr h1, Or.inl ⟨h2, rfl⟩⟩)
theorem R_release {g g1 : qHp} {rr b : Int} (o : yK g 0) (hio : insN g (stB g)) (hz : g 23 0 = 0) (hn : qNm g) (hP0 : rP_release g b rr g1) : sp_release b (vB g) (stB g) (g1 23 0) rr (vB g1) (stB g1) ∧ rInv g1 ∧ ∀ j, j < 23 ∨ 36 ≤ j → g1 j = g j := by
  rcases hP0 with ⟨⟨h1, h2⟩, h3, rfl⟩ | ⟨h1, rfl⟩ | ⟨⟨h1, h2⟩, rfl⟩
  · have kb := kd_B ⟨h1.1, h1.2.1⟩
    obtain ⟨J, v2⟩ := rI_same (g1 := qUp g 27 b 45) o hio (fun j _ => by rw [qUp_k (by decide)]) (fun k hk => by rw [qUp_row (by omega)])
    rw [show qUp g 27 b 45 23 0 = 0 by rw [qUp_k (by decide), hz]]
    exact ⟨spc_ok (Or.inr ⟨(hio _).mpr h1, Or.inr ⟨by rw [kb.1]; exact h2, rfl⟩⟩) ⟨by rw [h3]; exact (kb.2 h2).symm, vB_rel ⟨h1.1, h1.2.1⟩, v2⟩, J, fun j hj => by rw [qUp_row (by omega)]⟩
  · exact rF o hio (by decide) (Or.inl ⟨fun q => h1 ((hio _).mp q), rfl⟩)
  · have kb := kd_B ⟨h1.1, h1.2.1⟩
    exact rF o hio (by decide) (Or.inr ⟨(hio _).mpr h1, Or.inl ⟨fun q => q (kb.1.trans h2), rfl⟩⟩)
theorem R_book {g g1 : qHp} {rr b h l : Int} (o : yK g 0) (hio : insN g (stB g)) (hz : g 23 0 = 0) (hn : qNm g) (hP0 : rP_book g b h l rr g1) : sp_book b h l (vB g) (stB g) (g1 23 0) rr (vB g1) (stB g1) ∧ rInv g1 ∧ ∀ j, j < 23 ∨ 36 ≤ j → g1 j = g j := by
  rcases hP0 with ⟨⟨⟨h1, h1b⟩, h2, h3, h4⟩, h5, rfl⟩ | ⟨h1, rfl⟩ | ⟨⟨⟨h1, h1b⟩, h2⟩, rfl⟩ | ⟨⟨⟨h1, h1b⟩, h2, h3⟩, rfl⟩ | ⟨⟨⟨h1, h1b⟩, h2, h3, h4⟩, rfl⟩
  · obtain ⟨e32, e33, e34, e35, e13, e23, e⟩ := bkM_rows g b h l
    have hx : 0 ≤ b ∧ b < g 23 4 := ⟨h1.1, h1.2.1⟩
    have hv : vB (bkM g b h l) = qUp (qUp (qUp (qUp (qUp (vB g) 0 5 (g 23 13 + 1)) 5 (g 23 13) b) 6 (g 23 13) h) 7 (g 23 13) l) 8 (g 23 13) 98 := by
      rw [vB_d (bkM g b h l), vB_d g, e13, e32, e33, e34, e35, e23 1 (by decide), e23 12 (by decide), e23 18 (by decide), e23 2 (by decide), e23 4 (by decide), e 24 (by decide) (by decide) (by decide) (by decide) (by decide), e 25 (by decide) (by decide) (by decide) (by decide) (by decide), e 27 (by decide) (by decide) (by decide) (by decide) (by decide), e 28 (by decide) (by decide) (by decide) (by decide) (by decide)]
      exact vV_book (hn 23 13).1
    obtain ⟨J, v2⟩ := rI_same (g1 := bkM g b h l) o hio (fun j hj => e23 j (by omega)) (fun k hk => e k (by omega) (by omega) (by omega) (by omega) (by omega))
    rw [e23 0 (by decide), hz]
    exact ⟨spc_ok (Or.inr ⟨⟨(hio _).mpr h1, h1b⟩, Or.inr ⟨h2, Or.inr ⟨fun q => h3 ((hl_B hx).mpr q), Or.inr ⟨⟨by rw [bkN_B]; exact h4.1, by rw [bkO_B]; exact h4.2.1, h4.2.2⟩, rfl⟩⟩⟩⟩) ⟨h5, hv, v2⟩, J, fun j hj => e j (by omega) (by omega) (by omega) (by omega) (by omega)⟩
  · exact rF o hio (by decide) (Or.inl ⟨fun q => h1 ⟨(hio _).mp q.1, q.2⟩, rfl⟩)
  · exact rF o hio (by decide) (Or.inr ⟨⟨(hio _).mpr h1, h1b⟩, Or.inl ⟨h2, rfl⟩⟩)
  · exact rF o hio (by decide) (Or.inr ⟨⟨(hio _).mpr h1, h1b⟩, Or.inr ⟨h2, Or.inl ⟨fun q => q ((hl_B ⟨h1.1, h1.2.1⟩).mp h3), rfl⟩⟩⟩)
  · exact rF o hio (by decide) (Or.inr ⟨⟨(hio _).mpr h1, h1b⟩, Or.inr ⟨h2, Or.inr ⟨fun q => h3 ((hl_B ⟨h1.1, h1.2.1⟩).mpr q), Or.inl ⟨fun q => h4 ⟨by rw [← bkN_B]; exact q.1, by rw [← bkO_B]; exact q.2.1, q.2.2⟩, rfl⟩⟩⟩⟩)
theorem R_cancel {g g1 : qHp} {rr a : Int} (o : yK g 0) (hio : insN g (stB g)) (hz : g 23 0 = 0) (hn : qNm g) (hP0 : rP_cancel g a rr g1) : sp_cancel a (vB g) (stB g) (g1 23 0) rr (vB g1) (stB g1) ∧ rInv g1 ∧ ∀ j, j < 23 ∨ 36 ≤ j → g1 j = g j := by
  rcases hP0 with ⟨⟨h1, h2⟩, h3, rfl⟩ | ⟨h1, rfl⟩ | ⟨⟨h1, h2⟩, rfl⟩
  · have t1 := vB_turn (g := g) (t := 99) h1
    obtain ⟨J, v2⟩ := rI_same (g1 := qUp g 35 a 99) o hio (fun j _ => by rw [qUp_k (by decide)]) (fun k hk => by rw [qUp_row (by omega)])
    rw [show qUp g 35 a 99 23 0 = 0 by rw [qUp_k (by decide), hz]]
    refine ⟨spc_ok (Or.inr ⟨h1, Or.inr ⟨(cGet_in h1).trans h2, rfl⟩⟩) ⟨?_, t1, v2⟩, J, fun j hj => by rw [qUp_row (by omega)]⟩
    rw [h3, ← t1, cn_B, qUp_k (by decide)]
  · exact rF o hio (by decide) (Or.inl ⟨h1, rfl⟩)
  · exact rF o hio (by decide) (Or.inr ⟨h1, Or.inl ⟨fun q => h2 ((cGet_in h1).symm.trans q), rfl⟩⟩)
theorem R_pass {g g1 : qHp} {rr n : Int} (o : yK g 0) (hio : insN g (stB g)) (hz : g 23 0 = 0) (hn : qNm g) (hP0 : rP_pass g n rr g1) : sp_pass n (vB g) (stB g) (g1 23 0) rr (vB g1) (stB g1) ∧ rInv g1 ∧ ∀ j, j < 23 ∨ 36 ≤ j → g1 j = g j := by
  rcases hP0 with ⟨h1, h2, h3⟩ | ⟨h1, h4⟩
  · rw [h3.2.2.2.2, hz]
    exact ⟨spc_ok (Or.inr ⟨⟨h1.1, by have := h1.2; show n ≤ 999 - g 23 1; omega⟩, rfl⟩) h2, ⟨h3.1, h3.2.1⟩, h3.2.2.1⟩
  · subst h4
    have hx : ¬ ((1 ≤ n ∧ n ≤ 24) ∧ n ≤ 999 - vB g 0 0) := fun q => h1 ⟨q.1, by have : n ≤ 999 - g 23 1 := q.2; omega⟩
    exact rF o hio (by decide) (Or.inl ⟨hx, rfl⟩)
