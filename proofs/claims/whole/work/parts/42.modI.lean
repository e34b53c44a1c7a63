/-! the reference: appointments looked at, hours -/
def lvC (g g' : qHp) (a r : Int) : Prop := srvA (vB g) (stB g) a r (vB g') (stB g') ∧ yK g' 0 ∧ insN g' (stB g') ∧ (∀ k, k < 23 ∨ 36 ≤ k → g' k = g k) ∧ g' 23 0 = g 23 0 ∧ (r = 0 ∨ r = 1)
theorem vB_turn {g : qHp} {a t : Int} (h : 0 ≤ a ∧ a < g 23 13) : vB (qUp g 35 a t) = qUp (vB g) 8 a t := by
  have e : ∀ k, k ≠ 35 → qUp g 35 a t k = g k := fun k hk => qUp_row hk
  unfold vB
  rw [e 23 (by decide), e 24 (by decide), e 25 (by decide), e 27 (by decide), e 28 (by decide), e 32 (by decide), e 33 (by decide), e 34 (by decide), qUp_u]
  exact vV_st h
theorem fndF_B {g g1 : qHp} (F : fndF g g1) : vB g1 = vB g := vB_eq (fun j _ => by rw [F.2.2 23 (by decide) (by decide) (by decide)]) (fun k h23 _ h29 h30 h31 _ => F.2.2 k h29 h30 h31)
theorem tn_K {g : qHp} {a t : Int} (o : yK g 0) : yK (qUp g 35 a t) 0 ∧ stM (qUp g 35 a t) 0 = stM g 0 := yK_eq (by rw [qUp_row (by decide)]) (qUp_row (by decide)) (fun j _ _ => by rw [qUp_row (by decide)]) (fun j _ _ => by rw [qUp_row (by decide)]) o
theorem lv_m {g g1 : qHp} {a : Int} (o : yK g 0) (hio : insN g (stB g)) (F : fndF g g1) (ha : 0 ≤ a ∧ a < g 23 13) (hm : vB g 3 (vB g 5 a) ≠ 45 ∨ noA (vB g) (stB g) (vB g 5 a)) : lvC g (qUp g1 35 a 109) a 0 := by
  obtain ⟨o1, e1⟩ := fndF_yK F o
  obtain ⟨o2, e2⟩ := tn_K (a := a) (t := 109) o1
  have e23 : g1 23 = g 23 := F.2.2 23 (by decide) (by decide) (by decide)
  refine ⟨Or.inr (Or.inl ⟨by omega, hm, rfl, by rw [vB_turn (by rw [e23]; exact ha), fndF_B F], e2.trans e1⟩), o2, fun x => ?_, fun k hk => by rw [qUp_row (by omega), F.2.2 k (by omega) (by omega) (by omega)], by rw [qUp_row (by decide), e23], Or.inl rfl⟩
  show inS (stM (qUp g1 35 a 109) 0) x ↔ _
  rw [e2, e1, qUp_row (by decide), qUp_row (by decide), e23, F.2.2 26 (by decide) (by decide) (by decide)]
  exact hio x
theorem lv_pre {g g1 : qHp} {a b : Int} {L : List Int} (o : yK g 0) (F : fndF g g1) (hL : leaN g b L) : L.length ≤ 4 ∧ yK (qUp g1 35 a 100) 0 ∧ ∃ z, runN g b L (stM g 0) z ∧ ovR z b 0 ∧ runR (qUp g1 35 a 100 23 2) (cut4 (qUp g1 35 a 100 24)) (wM g) (pnM g) b L (stM (qUp g1 35 a 100) 0) z := by
  obtain ⟨o1, e1⟩ := fndF_yK F o
  obtain ⟨o2, e2⟩ := tn_K (a := a) (t := 100) o1
  obtain ⟨q1, q2, z, q3, q4⟩ := leaN_len o hL
  refine ⟨q1, o2, z, q3, q4, ?_⟩
  rw [e2, e1, qUp_row (by decide), qUp_row (by decide), F.2.2 23 (by decide) (by decide) (by decide), F.2.2 24 (by decide) (by decide) (by decide)]
  exact q3
theorem lv_top {g3 : qHp} {b : Int} {z : St} (o : yK g3 0) (e : stM g3 0 = z) (h : ovR z b 0) : (z (soS (stM g3 0) b)).head? = some b ∧ (0 ≤ soS (stM g3 0) b ∧ soS (stM g3 0) b < 4) ∧ 0 < g3 29 (soS (stM g3 0) b) := by
  obtain ⟨s, hs⟩ := ov0_hd h
  rw [← e] at hs ⊢
  obtain ⟨l, hl⟩ := hd_cons hs
  have hm : b ∈ stM g3 0 s := by rw [hl]; exact List.mem_cons_self
  have es := soS_at o hm
  have hsc := o.2.2.2.2.1.2.2.2.2 s b hm
  have hc := o.1
  rw [es]
  refine ⟨hs, by omega, ?_⟩
  have h29 := (o.2.1 s hsc.1 (by omega)).1
  have ez : hM g3 0 s = g3 29 s := by show g3 29 (4 * 0 + s) = _; congr 1; omega
  by_cases q : hM g3 0 s = 0
  · rw [stM_nil q] at hm
    cases hm
  · omega
theorem lv_d {g g1 g3 : qHp} {a s u : Int} {L : List Int} {z : St} (o : yK g 0) (hio : insN g (stB g)) (F : fndF g g1) (ha : 0 ≤ a ∧ a < g 23 13) (hh : vB g 3 (vB g 5 a) = 45) (hL : leaN g (vB g 5 a) L) (hrun : runN g (vB g 5 a) L (stM g 0) z) (Q : mkQ (qUp g1 35 a 100) g3 L.length z) (hs : (z s).head? = some (vB g 5 a)) (hu : u = w64 (g 23 18 + vB g 2 (vB g 5 a))) : lvC g (qUp (qUp (qUp g3 29 s (g3 29 s - 1)) 26 (vB g 5 a) 0) 23 18 u) a 1 := by
  obtain ⟨a1, a2, a3, a4, a5⟩ := Q
  have e23 : g1 23 = g 23 := F.2.2 23 (by decide) (by decide) (by decide)
  have f : ∀ k, k ≠ 23 → k ≠ 29 → k ≠ 30 → k ≠ 35 → k ≠ 31 → g3 k = g k := fun k h1 h2 h3 h4 h5 => by rw [a1 k h1 h2 h3, qUp_row h4, F.2.2 k h2 h3 h5]
  have f23 : ∀ j, j ≠ 12 → g3 23 j = g 23 j := fun j hj => by rw [a2 j hj, qUp_row (by decide), e23]
  have f12 : g3 23 12 = w32 (g 23 12 + L.length) := by rw [a3, qUp_row (by decide), e23]
  have f35 : g3 35 = uI (g 35) a 100 := by rw [a1 35 (by decide) (by decide) (by decide), qUp_u, F.2.2 35 (by decide) (by decide) (by decide)]
  have hs' := hs
  rw [← a5] at hs'
  obtain ⟨k1, k2, k3, k4, k5, k6, k7⟩ := tk_ok a4 hs'
  have r : ∀ k, k ≠ 23 → k ≠ 26 → k ≠ 29 → (qUp (qUp (qUp g3 29 s (g3 29 s - 1)) 26 (vB g 5 a) 0) 23 18 u) k = g3 k := fun k h1 h2 h3 => by rw [qUp_row h1, qUp_row h2, qUp_row h3]
  have r23 : ∀ j, j ≠ 18 → (qUp (qUp (qUp g3 29 s (g3 29 s - 1)) 26 (vB g 5 a) 0) 23 18 u) 23 j = g3 23 j := fun j hj => by rw [qUp_j hj, qUp_row (by decide), qUp_row (by decide)]
  have eh : hM (qUp (qUp (qUp g3 29 s (g3 29 s - 1)) 26 (vB g 5 a) 0) 23 18 u) 0 = uI (hM g3 0) s (hM g3 0 s - 1) := by
    have e40 : ∀ j : Int, 4 * 0 + j = j := fun j => by omega
    funext j
    show (qUp (qUp (qUp g3 29 s (g3 29 s - 1)) 26 (vB g 5 a) 0) 23 18 u) 29 (4 * 0 + j) = uI _ s (g3 29 (4 * 0 + s) - 1) j
    rw [e40, e40, qUp_k (by decide), qUp_k (by decide)]
    by_cases q : j = s
    · subst q
      rw [qUp_s, uI_s]
    · rw [qUp_j q, uI_n q]
      show g3 29 j = g3 29 (4 * 0 + j)
      rw [e40]
  have ep : pM (qUp (qUp (qUp g3 29 s (g3 29 s - 1)) 26 (vB g 5 a) 0) 23 18 u) 0 = pM g3 0 := by
    funext j
    show (qUp (qUp (qUp g3 29 s (g3 29 s - 1)) 26 (vB g 5 a) 0) 23 18 u) 30 (16 * 0 + j) = g3 30 (16 * 0 + j)
    rw [r 30 (by decide) (by decide) (by decide)]
  have es : stM (qUp (qUp (qUp g3 29 s (g3 29 s - 1)) 26 (vB g 5 a) 0) 23 18 u) 0 = tkS z (vB g 5 a) := by
    show stOf (hM _ 0) (pM _ 0) = _
    rw [eh, ep, k2]
    show tkS (stM g3 0) _ = _
    rw [a5]
  have hz : wfS (g 23 2) z := wf_run (yOK_cut o) o.2.2.2.2.1 hrun
  have hv : vB (qUp (qUp (qUp g3 29 s (g3 29 s - 1)) 26 (vB g 5 a) 0) 23 18 u) = qUp (qUp (qUp (vB g) 0 1 (w32 (g 23 12 + L.length))) 0 2 u) 8 a 100 := by
    have h1 : vB (qUp (qUp (qUp g3 29 s (g3 29 s - 1)) 26 (vB g 5 a) 0) 23 18 u) = vV (g 23 1) (w32 (g 23 12 + L.length)) u (g 23 2) (g 23 4) (g 23 13) (g 24) (g 25) (g 27) (g 28) (g 32) (g 33) (g 34) (uI (g 35) a 100) := by
      have vd : ∀ G : qHp, vB G = vV (G 23 1) (G 23 12) (G 23 18) (G 23 2) (G 23 4) (G 23 13) (G 24) (G 25) (G 27) (G 28) (G 32) (G 33) (G 34) (G 35) := fun _ => rfl
      rw [vd (qUp (qUp (qUp g3 29 s (g3 29 s - 1)) 26 (vB g 5 a) 0) 23 18 u), r23 1 (by decide), r23 12 (by decide), qUp_s, r23 2 (by decide), r23 4 (by decide), r23 13 (by decide), r 24 (by decide) (by decide) (by decide), r 25 (by decide) (by decide) (by decide), r 27 (by decide) (by decide) (by decide), r 28 (by decide) (by decide) (by decide), r 32 (by decide) (by decide) (by decide), r 33 (by decide) (by decide) (by decide), r 34 (by decide) (by decide) (by decide), r 35 (by decide) (by decide) (by decide), f23 1 (by decide), f12, f23 2 (by decide), f23 4 (by decide), f23 13 (by decide), f 24 (by decide) (by decide) (by decide) (by decide) (by decide), f 25 (by decide) (by decide) (by decide) (by decide) (by decide), f 27 (by decide) (by decide) (by decide) (by decide) (by decide), f 28 (by decide) (by decide) (by decide) (by decide) (by decide), f 32 (by decide) (by decide) (by decide) (by decide) (by decide), f 33 (by decide) (by decide) (by decide) (by decide) (by decide), f 34 (by decide) (by decide) (by decide) (by decide) (by decide), f35]
    rw [h1, vV_st ha, vV_num]
    rfl
  refine ⟨Or.inr (Or.inr ⟨by omega, hh, L, z, hL, hrun, rfl, ?_, es⟩), ?_, fun x => ?_, fun k hk => ?_, ?_, Or.inr rfl⟩
  · rw [hv, hu]
    rfl
  · have k1' := k1
    rw [← eh, ← ep, ← r 24 (by decide) (by decide) (by decide), ← r23 2 (by decide)] at k1'
    exact yK_of k1'
  · show inS (stM _ 0) x ↔ _
    rw [es, r23 4 (by decide), f23 4 (by decide)]
    have e26 : (qUp (qUp (qUp g3 29 s (g3 29 s - 1)) 26 (vB g 5 a) 0) 23 18 u) 26 x = if x = vB g 5 a then 0 else g 26 x := by
      rw [qUp_k (by decide)]
      by_cases q : x = vB g 5 a
      · rw [if_pos q, q, qUp_s]
      · rw [if_neg q, qUp_j q, qUp_k (by decide), f 26 (by decide) (by decide) (by decide) (by decide) (by decide)]
    rw [e26]
    have h1 := inS_tk hz hs (x := x)
    have h2 := inS_run hrun (y := x)
    have h3 := hio x
    by_cases q : x = vB g 5 a
    · rw [if_pos q]
      constructor
      · intro h
        exact absurd q (h1.mp h).2
      · rintro ⟨-, -, h⟩
        omega
    · rw [if_neg q]
      exact ⟨fun h => h3.mp (h2.mp (h1.mp h).1), fun h => h1.mpr ⟨h2.mpr (h3.mpr h), q⟩⟩
  · rw [r k (by omega) (by omega) (by omega), f k (by omega) (by omega) (by omega) (by omega) (by omega)]
  · rw [r23 0 (by decide), f23 0 (by decide)]
/-- what holds while hours pass -/
def psJ (g g1 : qHp) : Prop := yK g1 0 ∧ insN g1 (stB g1) ∧ (∀ k, k < 23 ∨ 36 ≤ k → g1 k = g k) ∧ bInv (vB g1) (stB g1) ∧ g1 23 0 = g 23 0
theorem bo_pre {g : qHp} {l h : Int} (B : bInv (vB g) (stB g)) : fstB (bkO g l h) (g 23 13) = -1 ∨ ((0 ≤ fstB (bkO g l h) (g 23 13) ∧ fstB (bkO g l h) (g 23 13) < g 23 13) ∧ vB g 8 (fstB (bkO g l h) (g 23 13)) = 98 ∧ inS (stB g) (g 32 (fstB (bkO g l h) (g 23 13)))) := by
  rcases fstB_spec (bkO g l h) (g 23 13) with ⟨q, -⟩ | ⟨q1, q2, q3, -⟩
  · exact Or.inl q
  · have e35 : g 35 (fstB (bkO g l h) (g 23 13)) = 98 := by
      have q4 : (decide (g 35 (fstB (bkO g l h) (g 23 13)) = 98) && (decide (g 34 (fstB (bkO g l h) (g 23 13)) = l) && decide (g 33 (fstB (bkO g l h) (g 23 13)) = h))) = true := q3
      rw [Bool.and_eq_true] at q4
      exact of_decide_eq_true q4.1
    have e8 : vB g 8 (fstB (bkO g l h) (g 23 13)) = 98 := by
      show cGet (g 23 13) (g 35) 99 (fstB (bkO g l h) (g 23 13)) = 98
      rw [cGet_in ⟨q1, q2⟩, e35]
    have k := B.1 _ q1 q2 e8
    rw [vB_5 ⟨q1, q2⟩] at k
    exact Or.inr ⟨⟨q1, q2⟩, e8, k⟩
theorem pj_srv {g g1 g2 : qHp} {a r : Int} (Q : psJ g g1) (ha : a = -1 ∨ ((0 ≤ a ∧ a < g1 23 13) ∧ vB g1 8 a = 98 ∧ inS (stB g1) (g1 32 a))) (C : lvC g1 g2 a r) : psJ g g2 ∧ g2 23 1 = g1 23 1 ∧ (r = 0 ∨ r = 1) := by
  obtain ⟨q1, q2, q3, q4, q5⟩ := Q
  obtain ⟨c1, c2, c3, c4, c5, c6⟩ := C
  have b := srv_b (V := vB g1) q1.1.2 (yOK_cut q1) q1.2.2.2.2.1 q4 (by rcases ha with h | ⟨h1, h2, -⟩; (· exact Or.inl h); (· exact Or.inr ⟨h1.1, h1.2, h2⟩)) c1
  exact ⟨⟨c2, c3, fun k hk => by rw [c4 k hk, q3 k hk], b.1, by rw [c5, q5]⟩, b.2.2.2.2.2.1, c6⟩
theorem pj_eh {g g1 g2 : qHp} {h x : Int} (Q : psJ g g1) (hx : x = g1 23 4) (e27 : ∀ j, g2 27 j = if (0 ≤ j ∧ j < x ∧ g1 28 j = h) then 45 else g1 27 j) (e : ∀ k, k ≠ 27 → g2 k = qUp g1 23 1 h k) : psJ g g2 ∧ vB g2 = ehA (vB g1) h ∧ stB g2 = stB g1 ∧ g2 23 1 = h := by
  obtain ⟨q1, q2, q3, q4, q5⟩ := Q
  have r : ∀ k, k ≠ 23 → k ≠ 27 → g2 k = g1 k := fun k h1 h2 => by rw [e k h2, qUp_row h1]
  have r23 : ∀ j, j ≠ 1 → g2 23 j = g1 23 j := fun j hj => by rw [e 23 (by decide), qUp_j hj]
  have r1 : g2 23 1 = h := by rw [e 23 (by decide), qUp_s]
  obtain ⟨k1, k2⟩ := yK_eq (g := g1) (g' := g2) (y := 0) (y' := 0) (r23 2 (by decide)) (r 24 (by decide) (by decide)) (fun j _ _ => by rw [r 29 (by decide) (by decide)]) (fun j _ _ => by rw [r 30 (by decide) (by decide)]) q1
  have hv : vB g2 = ehA (vB g1) h := by
    unfold vB
    rw [r1, r23 12 (by decide), r23 18 (by decide), r23 2 (by decide), r23 4 (by decide), r23 13 (by decide), r 24 (by decide) (by decide), r 25 (by decide) (by decide), r 28 (by decide) (by decide), r 32 (by decide) (by decide), r 33 (by decide) (by decide), r 34 (by decide) (by decide), r 35 (by decide) (by decide)]
    refine vV_eh (fun j a c => ?_) (fun j _ _ _ => rfl)
    rw [e27]
    by_cases q : g1 28 j = h
    · rw [if_pos ⟨a, by omega, q⟩]
      by_cases q2 : g1 27 j = 45
      · rw [if_neg (fun z => z.1 q2), q2]
      · rw [if_pos ⟨q2, q⟩]
    · rw [if_neg (fun z => q z.2.2), if_neg (fun z => q z.2)]
  refine ⟨⟨k1, fun y => ?_, fun k hk => by rw [r k (by omega) (by omega), q3 k hk], by rw [hv]; show bInv _ (stM g2 0); rw [k2]; exact (bInv_eh q4).1, by rw [r23 0 (by decide), q5]⟩, hv, k2, r1⟩
  show inS (stM g2 0) y ↔ _
  rw [k2, r23 4 (by decide), r 26 (by decide) (by decide)]
  exact q2 y
theorem srv_0 (V : qHp) (S : St) : srvA V S (-1) 0 V S := Or.inl ⟨rfl, rfl, rfl, rfl⟩
set_option maxRecDepth 20000 in
theorem KX6_leaves (g : qHp) (a : Int) (ha : -2147483648 ≤ a ∧ a < 2147483648) (o : yK g 0) (hio : insN g (stB g)) (ha2 : 0 ≤ a ∧ a < g 23 13) (hin : inS (stB g) (g 32 a)) : qC yX6_leaves (.code yX6_leaves cX6_leaves 4 (some .boolean)) 6 0 (fun ad => [.ref (ad 23), .int (iI a)]) g (qPi (fun (r : Int) (g' : qHp) => lvC g g' a r)) qNo := by
  refine q_meth (by decide +kernel) rfl (fun _ => (Nat.le_of_ble_eq_true rfl)) (fun X ω C => ?_)
  refine q_nm (fun hn => ?_)
  have r23_13 : 0 ≤ g 23 13 ∧ g 23 13 ≤ 30 := hn 23 13
  refine q_loc [(0, .ref (ω.1 23)), (1, .int (iI a))] ⟨rfl, rfl, trivial⟩ ?_
  refine q_aload_n C 0 dX6_leaves_0 rfl rfl ?_
  refine q_getr C (b := 23) 14 rfl (by decide) rfl in_X6 (by decide) fl_X6_36 rfl dX6_leaves_1 ?_
  refine q_iload_n C 1 dX6_leaves_4 rfl rfl ?_
  refine q_iald C (b := 32) (n := 30) 0 19 rfl (by decide) (by decide) (by omega) (fun _ => rfl) dX6_leaves_5 (fun v5 e5 l5 u5 => ?_)
  refine q_istoreV_n C 2 dX6_leaves_6 rfl (by decide) (fun v6 e6 => ?_)
  have hin6 : inS (stM g 0) v6 := by rw [e6, e5]; exact hin
  have hv5 : vB g 5 a = v6 := by rw [vB_5 ha2, e6, e5]
  refine q_aload_n C 0 dX6_leaves_7 rfl rfl ?_
  refine q_getr C (b := 23) 7 rfl (by decide) rfl in_X6 (by decide) fl_X6_20 rfl dX6_leaves_8 ?_
  refine q_iload_n C 2 dX6_leaves_11 rfl rfl ?_
  refine q_cald C (b := 27) (n := 20) 0 65535 rfl (by decide) (by decide) (by omega) (fun _ => rfl) dX6_leaves_12 (fun v12 e12 l12 u12 => ?_)
  have hk : vB g 3 (vB g 5 a) = v12 := by
    rw [hv5, e12]
    exact cGet_in ⟨by omega, ((hio v6).mp hin6).2.1⟩
  refine q_bipush C dX6_leaves_13 (by decide +kernel) ?_
  refine q_icmp_ne C 26 dX6_leaves_15 (by decide) (by omega) (by omega) (fun c15 => ?_) (fun c15 => ?_)
  · refine q_iconst C dX6_leaves_26 ?_
    refine q_istoreV_n C 3 dX6_leaves_27 rfl (by decide) (fun v27 e27 => ?_)
    refine q_aload_n C 0 dX6_leaves_28 rfl rfl ?_
    refine q_getr C (b := 23) 17 rfl (by decide) rfl in_X6 (by decide) fl_X6_45 rfl dX6_leaves_29 ?_
    refine q_iload_n C 1 dX6_leaves_32 rfl rfl ?_
    refine q_iload_n C 3 dX6_leaves_33 rfl rfl ?_
    refine q_iconst C dX6_leaves_34 ?_
    refine q_icmp_ne C 43 dX6_leaves_35 (by decide) (by omega) (by omega) (fun c35 => ?_) (fun c35 => ?_)
    · exfalso; omega
    · refine q_bipush C dX6_leaves_38 (by decide +kernel) ?_
      refine q_goto C 45 dX6_leaves_40 (by decide) ?_
      refine q_cast C (b := 35) (n := 30) rfl (by decide) (by decide) (by omega) (by omega) (show 0 ≤ _ ∧ _ ≤ 65535 from (by omega)) dX6_leaves_45 ?_
      refine q_iload_n C 3 dX6_leaves_46 rfl rfl ?_
      refine q_iconst C dX6_leaves_47 ?_
      refine q_icmp_ne C 53 dX6_leaves_48 (by decide) (by omega) (by omega) (fun c48 => ?_) (fun c48 => ?_)
      · exfalso; omega
      · refine q_iconst C dX6_leaves_51 ?_
        exact q_iretZ C dX6_leaves_52 (by omega) (by decide) (lv_m o hio (fndF_0 g) ha2 (Or.inl (by rw [hk]; omega)))
  · refine q_aload_n C 0 dX6_leaves_18 rfl rfl ?_
    refine q_iload_n C 2 dX6_leaves_19 rfl rfl ?_
    refine q_Vi0 C (KX6_plans _ _ (by omega) o hio hin6) mX6_plans ml_X6_132 dX6_leaves_20 (by decide) (by decide) rfl rfl rfl (Nat.le_of_ble_eq_true rfl) rfl (by decide) rfl rfl (fun v20 g20 l20 u20 h20 => ?_)
    refine q_goto C 27 dX6_leaves_23 (by decide) ?_
    refine q_istoreV_n C 3 dX6_leaves_27 rfl (by decide) (fun v27 e27 => ?_)
    refine q_aload_n C 0 dX6_leaves_28 rfl rfl ?_
    refine q_getr C (b := 23) 17 rfl (by decide) rfl in_X6 (by decide) fl_X6_45 rfl dX6_leaves_29 ?_
    refine q_iload_n C 1 dX6_leaves_32 rfl rfl ?_
    refine q_iload_n C 3 dX6_leaves_33 rfl rfl ?_
    refine q_iconst C dX6_leaves_34 ?_
    refine q_icmp_ne C 43 dX6_leaves_35 (by decide) (by omega) (by omega) (fun c35 => ?_) (fun c35 => ?_)
    · refine q_bipush C dX6_leaves_43 (by decide +kernel) ?_
      refine q_cast C (b := 35) (n := 30) rfl (by decide) (by decide) (by omega) (by omega) (show 0 ≤ _ ∧ _ ≤ 65535 from (by omega)) dX6_leaves_45 ?_
      refine q_iload_n C 3 dX6_leaves_46 rfl rfl ?_
      refine q_iconst C dX6_leaves_47 ?_
      refine q_icmp_ne C 53 dX6_leaves_48 (by decide) (by omega) (by omega) (fun c48 => ?_) (fun c48 => ?_)
      · obtain ⟨F, ⟨L, z1, z2, z3⟩ | ⟨z1, z2⟩⟩ := h20
        rotate_left
        · exfalso; omega
        obtain ⟨p1, p2, zz, p3, p4, p5⟩ := lv_pre (a := a) o F z1
        refine q_aload_n C 0 dX6_leaves_53 rfl rfl ?_
        refine q_iload_n C 3 dX6_leaves_54 rfl rfl ?_
        refine q_Vw0 C (KX6_makes _ _ (by omega) p2 _ _ v6 L (by omega) p1 (by omega) (fun i hi => by rw [qUp_k (by decide)]; exact z3 i hi) p5) mX6_makes ml_X6_141 dX6_leaves_55 (by decide) (by decide) rfl rfl rfl (Nat.le_of_ble_eq_true rfl) rfl (by decide) rfl rfl (fun g55 h55 => ?_)
        have o3 := h55.2.2.2.1
        have T := lv_top o3 h55.2.2.2.2 p4
        refine q_aload_n C 0 dX6_leaves_58 rfl rfl ?_
        refine q_getr C (b := 23) 9 rfl (by decide) rfl in_X6 (by decide) fl_X6_27 rfl dX6_leaves_59 ?_
        refine q_aload_n C 0 dX6_leaves_62 rfl rfl ?_
        refine q_iconst C dX6_leaves_63 ?_
        refine q_iload_n C 2 dX6_leaves_64 rfl rfl ?_
        refine q_Vf0 C (KX6_placeOf _ _ (by omega) _ (by omega) (by omega) o3.2.2.1) mX6_placeOf ml_X6_62 dX6_leaves_65 (by decide) (by decide) rfl rfl rfl (Nat.le_of_ble_eq_true rfl) rfl (by decide) rfl rfl (fun v65 l65 u65 h65 => ?_)
        rw [← h65] at T
        refine q_dup2 C dX6_leaves_68 rfl rfl ?_
        refine q_iald C (b := 29) (n := 24) 0 4 rfl (by decide) (by decide) (by omega) (fun _ => rfl) dX6_leaves_69 (fun v69 e69 l69 u69 => ?_)
        refine q_iconst C dX6_leaves_70 ?_
        refine q_isub C dX6_leaves_71 ?_
        refine q_iast C (b := 29) (n := 24) rfl (by decide) (by decide) (by omega)  (show 0 ≤ _ ∧ _ ≤ 4 from (by omega)) dX6_leaves_72 ?_
        refine q_aload_n C 0 dX6_leaves_73 rfl rfl ?_
        refine q_getr C (b := 23) 6 rfl (by decide) rfl in_X6 (by decide) fl_X6_16 rfl dX6_leaves_74 ?_
        refine q_iload_n C 2 dX6_leaves_77 rfl rfl ?_
        refine q_iconst C dX6_leaves_78 ?_
        refine q_zast C (b := 26) (n := 20) rfl (by decide) (by decide) (by omega) (by omega) (show 0 ≤ _ ∧ _ ≤ 1 from (by omega)) dX6_leaves_79 ?_
        refine q_aload_n C 0 dX6_leaves_80 rfl rfl ?_
        refine q_dup C dX6_leaves_81 rfl ?_
        refine q_getl C (b := 23) 18 18 (-9223372036854775808) 9223372036854775807 rfl (by decide) rfl in_X6 (by decide) fl_X6_155 rfl rfl rfl dX6_leaves_82 (fun v82 e82 l82 u82 => ?_)
        refine q_aload_n C 0 dX6_leaves_85 rfl rfl ?_
        refine q_getr C (b := 23) 5 rfl (by decide) rfl in_X6 (by decide) fl_X6_13 rfl dX6_leaves_86 ?_
        refine q_iload_n C 2 dX6_leaves_89 rfl rfl ?_
        refine q_iald C (b := 25) (n := 20) 0 30 rfl (by decide) (by decide) (by omega) (fun _ => rfl) dX6_leaves_90 (fun v90 e90 l90 u90 => ?_)
        refine q_i2l C dX6_leaves_91 (by omega) ?_
        refine q_ladd C dX6_leaves_92 ?_
        refine q_putl C (b := 23) 18 18 (-9223372036854775808) 9223372036854775807 (w64 (v82 + v90)) rfl (by decide) rfl in_X6 tyX6_ok nmX6 (by decide) fl_X6_155 rfl (by decide +kernel) rfl rfl rfl (w64_lI _) (w64_rng _) dX6_leaves_93 ?_
        refine q_iconst C dX6_leaves_96 ?_
        have q90 : v90 = vB g 2 (vB g 5 a) := by
          rw [hv5, e90, qUp_k (by decide), qUp_k (by decide), h55.1 25 (by decide) (by decide) (by decide), qUp_k (by decide), F.2.2 25 (by decide) (by decide) (by decide)]
          exact (cGet_in ⟨by omega, ((hio v6).mp hin6).2.1⟩).symm
        have q82 : v82 = g 23 18 := by
          rw [e82, qUp_k (by decide), qUp_k (by decide), h55.2.1 18 (by decide), qUp_k (by decide), F.2.2 23 (by decide) (by decide) (by decide)]
        have D := lv_d (u := w64 (v82 + v90)) (s := v65) o hio F ha2 (by rw [hk]; omega) (by rw [hv5]; exact z1) (by rw [hv5]; exact p3) h55 (by rw [hv5]; exact T.1) (by rw [q82, q90])
        rw [hv5] at D
        exact q_iretZ C dX6_leaves_97 (by omega) (by decide) (by rw [e69]; exact D)
      · exfalso; omega
    · refine q_bipush C dX6_leaves_38 (by decide +kernel) ?_
      refine q_goto C 45 dX6_leaves_40 (by decide) ?_
      refine q_cast C (b := 35) (n := 30) rfl (by decide) (by decide) (by omega) (by omega) (show 0 ≤ _ ∧ _ ≤ 65535 from (by omega)) dX6_leaves_45 ?_
      refine q_iload_n C 3 dX6_leaves_46 rfl rfl ?_
      refine q_iconst C dX6_leaves_47 ?_
      refine q_icmp_ne C 53 dX6_leaves_48 (by decide) (by omega) (by omega) (fun c48 => ?_) (fun c48 => ?_)
      · exfalso; omega
      · refine q_iconst C dX6_leaves_51 ?_
        obtain ⟨F, ⟨L, z1, z2, z3⟩ | ⟨z1, z2⟩⟩ := h20
        · exfalso; omega
        exact q_iretZ C dX6_leaves_52 (by omega) (by decide) (lv_m o hio F ha2 (Or.inr (by rw [hv5]; exact z2)))
set_option maxRecDepth 20000 in
theorem KX6_pass (g : qHp) (n : Int) (hn : -2147483648 ≤ n ∧ n < 2147483648) (o : yK (c0 g) 0) (hio : insN (c0 g) (stB (c0 g))) (hB : bInv (vB (c0 g)) (stB (c0 g))) : qC yX6_pass (.code yX6_pass cX6_pass 6 (some .int)) 7 0 (fun ad => [.ref (ad 23), .int (iI n)]) g (qPi (fun (r : Int) (g' : qHp) => (((1 ≤ n ∧ n ≤ 24) ∧ (c0 g) 23 1 + n ≤ 999) ∧ psA n.toNat (vB (c0 g)) (stB (c0 g)) r (vB g') (stB g') ∧ psJ (c0 g) g') ∨ (¬ ((1 ≤ n ∧ n ≤ 24) ∧ (c0 g) 23 1 + n ≤ 999) ∧ g' = qUp (c0 g) 23 0 1))) qNo := by
  refine q_meth (by decide +kernel) rfl (fun _ => (Nat.le_of_ble_eq_true rfl)) (fun X ω C => ?_)
  refine q_loc [(0, .ref (ω.1 23)), (1, .int (iI n))] ⟨rfl, rfl, trivial⟩ ?_
  refine q_aload_n C 0 dX6_pass_0 rfl rfl ?_
  refine q_iconst C dX6_pass_1 ?_
  refine q_puti C (b := 23) 0 0 0 4 _ rfl (by decide) rfl in_X6 tyX6_ok nmX6 (by decide) fl_X6_48 rfl (by decide +kernel) rfl rfl rfl rfl (by omega) dX6_pass_2 ?_
  refine q_hp (g2 := c0 g) rfl ?_
  generalize c0 g = g0 at *
  refine q_nm (fun hn => ?_)
  have r23_1 : 0 ≤ g0 23 1 ∧ g0 23 1 ≤ 999 := hn 23 1
  have r23_4 : 0 ≤ g0 23 4 ∧ g0 23 4 ≤ 20 := hn 23 4
  refine q_iload_n C 1 dX6_pass_5 rfl rfl ?_
  refine q_iconst C dX6_pass_6 ?_
  refine q_bipush C dX6_pass_7 (by decide +kernel) ?_
  refine q_Sf0 C (KX6_in _ _ (by omega) _ (by omega) _ (by omega)) mX6_in ml_X6_55 dX6_pass_9 (by decide) (by decide) rfl rfl rfl (Nat.le_of_ble_eq_true rfl) (fun v9 l9 u9 h9 => ?_)
  refine q_ifeq C 27 dX6_pass_12 (by decide) (by omega) (fun c12 => ?_) (fun c12 => ?_)
  · refine q_aload_n C 0 dX6_pass_27 rfl rfl ?_
    refine q_iconst C dX6_pass_28 ?_
    refine q_Vi0 C (KX6_fails _ _ (by omega) (by omega)) mX6_fails ml_X6_110 dX6_pass_29 (by decide) (by decide) rfl rfl rfl (Nat.le_of_ble_eq_true rfl) rfl (by decide) rfl rfl (fun v29 g29 l29 u29 h29 => ?_)
    obtain ⟨h29, rfl⟩ := h29
    exact q_iretI C dX6_pass_32 (by omega) (by decide) (Or.inr ⟨by omega, rfl⟩)
  · refine q_aload_n C 0 dX6_pass_15 rfl rfl ?_
    refine q_geti C (b := 23) 1 1 0 999 rfl (by decide) rfl in_X6 (by decide) fl_X6_126 rfl rfl rfl dX6_pass_16 (fun v16 e16 l16 u16 => ?_)
    refine q_iload_n C 1 dX6_pass_19 rfl rfl ?_
    refine q_iadd C dX6_pass_20 ?_
    refine q_sipush C dX6_pass_21 (by decide +kernel) ?_
    refine q_icmp_le C 33 dX6_pass_24 (by decide) (by omega) (by omega) (fun c24 => ?_) (fun c24 => ?_)
    · refine q_iconst C dX6_pass_33 ?_
      refine q_istoreV_n C 2 dX6_pass_34 rfl (by decide) (fun v34 e34 => ?_)
      refine q_iconst C dX6_pass_35 ?_
      refine q_istoreV_n C 3 dX6_pass_36 rfl (by decide) (fun v36 e36 => ?_)
      have loopA : ∀ (nA : Nat) (i : Int) (g1 : qHp) (acc : Int), ((n - i) < (nA : Int)) → (0 ≤ i ∧ i ≤ n) → (psA i.toNat (vB g0) (stB g0) acc (vB g1) (stB g1) ∧ psJ g0 g1 ∧ g1 23 1 = g0 23 1 + i ∧ (0 ≤ acc ∧ acc ≤ 3 * i)) → qT X ω 6 0 (qEnd X ω (qPi (fun (r : Int) (g' : qHp) => (((1 ≤ n ∧ n ≤ 24) ∧ g0 23 1 + n ≤ 999) ∧ psA n.toNat (vB g0) (stB g0) r (vB g') (stB g') ∧ psJ g0 g') ∨ (¬ ((1 ≤ n ∧ n ≤ 24) ∧ g0 23 1 + n ≤ 999) ∧ g' = qUp g0 23 0 1))) qNo 0) g1 37 [(0, .ref (ω.1 23)), (1, .int (iI n)), (2, .int (iI acc)), (3, .int (iI i))] [] := by
        intro nA
        induction nA with
        | zero => intro i g1 acc hmA hi hI; exfalso; omega
        | succ nA ihA =>
          intro i g1 acc hmA hi hI
          obtain ⟨hP, hQ, hH, hA⟩ := hI
          refine q_iload_n C 3 dX6_pass_37 rfl rfl ?_
          refine q_iload_n C 1 dX6_pass_38 rfl rfl ?_
          refine q_icmp_ge C 159 dX6_pass_39 (by decide) (by omega) (by omega) (fun c39 => ?_) (fun c39 => ?_)
          · refine q_iload_n C 2 dX6_pass_159 rfl rfl ?_
            have q : i = n := by omega
            subst q
            exact q_iretI C dX6_pass_160 (by omega) (by decide) (Or.inl ⟨by omega, hP, hQ⟩)
          · refine q_nm (fun hnA => ?_)
            refine q_aload_n C 0 dX6_pass_42 rfl rfl ?_
            refine q_dup C dX6_pass_43 rfl ?_
            refine q_geti C (b := 23) 1 1 0 999 rfl (by decide) rfl in_X6 (by decide) fl_X6_126 rfl rfl rfl dX6_pass_44 (fun v44 e44 l44 u44 => ?_)
            refine q_iconst C dX6_pass_47 ?_
            refine q_iadd C dX6_pass_48 ?_
            refine q_puti C (b := 23) 1 1 0 999 _ rfl (by decide) rfl in_X6 tyX6_ok nmX6 (by decide) fl_X6_126 rfl (by decide +kernel) rfl rfl rfl rfl (by omega) dX6_pass_49 ?_
            refine q_iconst C dX6_pass_52 ?_
            refine q_istoreV C dX6_pass_53 (by decide) (fun v53 e53 => ?_)
            have k4 : 0 ≤ g1 23 4 ∧ g1 23 4 ≤ 20 := hnA 23 4
            have loopC : ∀ (nC : Nat) (x : Int) (g2 : qHp), ((g1 23 4 - x) < (nC : Int)) → (0 ≤ x ∧ x ≤ g1 23 4) → ((∀ j, g2 27 j = if (0 ≤ j ∧ j < x ∧ g1 28 j = v44 + 1) then 45 else g1 27 j) ∧ ∀ k, k ≠ 27 → g2 k = qUp g1 23 1 (v44 + 1) k) → qT X ω 6 0 (qEnd X ω (qPi (fun (r : Int) (g' : qHp) => (((1 ≤ n ∧ n ≤ 24) ∧ g0 23 1 + n ≤ 999) ∧ psA n.toNat (vB g0) (stB g0) r (vB g') (stB g') ∧ psJ g0 g') ∨ (¬ ((1 ≤ n ∧ n ≤ 24) ∧ g0 23 1 + n ≤ 999) ∧ g' = qUp g0 23 0 1))) qNo 0) g2 55 [(0, .ref (ω.1 23)), (1, .int (iI n)), (2, .int (iI acc)), (3, .int (iI i)), (4, .int (iI x))] [] := by
              intro nC
              induction nC with
              | zero => intro x g2 hmC hx hX; exfalso; omega
              | succ nC ihC =>
                intro x g2 hmC hx hX
                have x4 : g2 23 4 = g1 23 4 := by rw [hX.2 23 (by decide), qUp_j (by decide)]
                have x1 : g2 23 1 = v44 + 1 := by rw [hX.2 23 (by decide), qUp_s]
                have x28 : g2 28 = g1 28 := by rw [hX.2 28 (by decide), qUp_row (by decide)]
                refine q_iload C dX6_pass_55 rfl ?_
                refine q_aload_n C 0 dX6_pass_57 rfl rfl ?_
                refine q_geti C (b := 23) 4 4 0 20 rfl (by decide) rfl in_X6 (by decide) fl_X6_52 rfl rfl rfl dX6_pass_58 (fun v58 e58 l58 u58 => ?_)
                rw [x4] at e58
                refine q_icmp_ge C 103 dX6_pass_61 (by decide) (by omega) (by omega) (fun c61 => ?_) (fun c61 => ?_)
                · have EH := pj_eh hQ (by omega : x = g1 23 4) hX.1 hX.2
                  refine q_iconst C dX6_pass_103 ?_
                  refine q_istoreV C dX6_pass_104 (by decide) (fun v104 e104 => ?_)
                  have loopB : ∀ (nB : Nat) (l : Int) (g3 : qHp) (bcc : Int), ((3 - l) < (nB : Int)) → (0 ≤ l ∧ l ≤ 3) → ((∃ r1, lnA (v44 + 1) l.toNat (ehA (vB g1) (v44 + 1)) (stB g1) r1 (vB g3) (stB g3) ∧ bcc = acc + r1 ∧ 0 ≤ r1 ∧ r1 ≤ l) ∧ psJ g0 g3 ∧ g3 23 1 = v44 + 1) → qT X ω 6 0 (qEnd X ω (qPi (fun (r : Int) (g' : qHp) => (((1 ≤ n ∧ n ≤ 24) ∧ g0 23 1 + n ≤ 999) ∧ psA n.toNat (vB g0) (stB g0) r (vB g') (stB g') ∧ psJ g0 g') ∨ (¬ ((1 ≤ n ∧ n ≤ 24) ∧ g0 23 1 + n ≤ 999) ∧ g' = qUp g0 23 0 1))) qNo 0) g3 106 [(0, .ref (ω.1 23)), (1, .int (iI n)), (2, .int (iI bcc)), (3, .int (iI i)), (4, .int (iI l))] [] := by
                    intro nB
                    induction nB with
                    | zero => intro l g3 bcc hmB ht hJ; exfalso; omega
                    | succ nB ihB =>
                      intro l g3 bcc hmB ht hJ
                      obtain ⟨⟨r1, j1, j2, j3, j4⟩, hQ2, hH2⟩ := hJ
                      refine q_iload C dX6_pass_106 rfl ?_
                      refine q_iconst C dX6_pass_108 ?_
                      refine q_icmp_ge C 153 dX6_pass_109 (by decide) (by omega) (by omega) (fun c109 => ?_) (fun c109 => ?_)
                      · refine q_iinc C dX6_pass_153 rfl (by decide) (fun v153 e153 => ?_)
                        refine q_goto C 37 dX6_pass_156 (by decide) ?_
                        refine q_loc [(0, .ref (ω.1 23)), (1, .int (iI n)), (2, .int (iI bcc)), (3, .int (iI v153))] ⟨rfl, rfl, rfl, rfl, trivial⟩ ?_
                        exact ihA v153 _ bcc (by omega) (by omega) (by subst e153; have q : l = 3 := by {omega}; subst q; exact ⟨by rw [j2]; exact ps_s (by omega) hP (by have e0 : vB g1 0 0 + 1 = v44 + 1 := (by rw [e44]; rfl); rw [e0]; exact j1), hQ2, by omega, by omega, by omega⟩)
                      · refine q_aload_n C 0 dX6_pass_112 rfl rfl ?_
                        refine q_iload C dX6_pass_113 rfl ?_
                        refine q_aload_n C 0 dX6_pass_115 rfl rfl ?_
                        refine q_geti C (b := 23) 1 1 0 999 rfl (by decide) rfl in_X6 (by decide) fl_X6_126 rfl rfl rfl dX6_pass_116 (fun v116 e116 l116 u116 => ?_)
                        refine q_Vf0 C (KX6_bookedIn _ _ (by omega) _ (by omega)) mX6_bookedIn ml_X6_148 dX6_pass_119 (by decide) (by decide) rfl rfl rfl (Nat.le_of_ble_eq_true rfl) rfl (by decide) rfl rfl (fun v119 l119 u119 h119 => ?_)
                        have q116 : v116 = v44 + 1 := by rw [e116, hH2]
                        rw [q116] at h119
                        have bp := bo_pre (l := l) (h := v44 + 1) hQ2.2.2.2.1
                        rw [← h119] at bp
                        refine q_istoreV C dX6_pass_122 (by decide) (fun v122 e122 => ?_)
                        refine q_iload_n C 2 dX6_pass_124 rfl rfl ?_
                        refine q_iload C dX6_pass_125 rfl ?_
                        refine q_iconst C dX6_pass_127 ?_
                        refine q_icmp_eq C 144 dX6_pass_128 (by decide) (by omega) (by omega) (fun c128 => ?_) (fun c128 => ?_)
                        · refine q_iconst C dX6_pass_144 ?_
                          refine q_iadd C dX6_pass_145 ?_
                          refine q_istoreV_n C 2 dX6_pass_146 rfl (by decide) (fun v146 e146 => ?_)
                          have FIN : (∃ r1, lnA (v44 + 1) (l + 1).toNat (ehA (vB g1) (v44 + 1)) (stB g1) r1 (vB g3) (stB g3) ∧ v146 = acc + r1 ∧ 0 ≤ r1 ∧ r1 ≤ l + 1) ∧ psJ g0 g3 ∧ g3 23 1 = v44 + 1 := ⟨⟨r1 + 0, ln_s ht.1 j1 (by rw [bkO_B, ← h119, show v119 = -1 by omega]; exact srv_0 _ _), by omega, by omega, by omega⟩, hQ2, hH2⟩
                          refine q_iinc C dX6_pass_147 rfl (by decide) (fun v147 e147 => ?_)
                          refine q_goto C 106 dX6_pass_150 (by decide) ?_
                          refine q_loc [(0, .ref (ω.1 23)), (1, .int (iI n)), (2, .int (iI v146)), (3, .int (iI i)), (4, .int (iI v147))] ⟨rfl, rfl, rfl, rfl, rfl, trivial⟩ ?_
                          exact ihB v147 _ v146 (by omega) (by omega) (by subst e147; exact FIN)
                        · have bq : (0 ≤ v122 ∧ v122 < g3 23 13) ∧ vB g3 8 v122 = 98 ∧ inS (stB g3) (g3 32 v122) := by
                            rw [e122]
                            rcases bp with z1 | z1
                            · omega
                            · exact z1
                          refine q_aload_n C 0 dX6_pass_131 rfl rfl ?_
                          refine q_iload C dX6_pass_132 rfl ?_
                          refine q_Vi0 C (KX6_leaves _ _ (by omega) hQ2.1 hQ2.2.1 (by omega) bq.2.2) mX6_leaves ml_X6_159 dX6_pass_134 (by decide) (by decide) rfl rfl rfl (Nat.le_of_ble_eq_true rfl) rfl (by decide) rfl rfl (fun v134 g134 l134 u134 h134 => ?_)
                          have PS := pj_srv hQ2 (Or.inr bq) h134
                          have LN := ln_s ht.1 j1 (by rw [bkO_B, ← h119, ← e122]; exact h134.1)
                          have h134r := PS.2.2
                          refine q_ifeq C 144 dX6_pass_137 (by decide) (by omega) (fun c137 => ?_) (fun c137 => ?_)
                          · refine q_iconst C dX6_pass_144 ?_
                            refine q_iadd C dX6_pass_145 ?_
                            refine q_istoreV_n C 2 dX6_pass_146 rfl (by decide) (fun v146 e146 => ?_)
                            have FIN : (∃ r1, lnA (v44 + 1) (l + 1).toNat (ehA (vB g1) (v44 + 1)) (stB g1) r1 (vB g134) (stB g134) ∧ v146 = acc + r1 ∧ 0 ≤ r1 ∧ r1 ≤ l + 1) ∧ psJ g0 g134 ∧ g134 23 1 = v44 + 1 := ⟨⟨r1 + v134, LN, by omega, by omega, by omega⟩, PS.1, by rw [PS.2.1]; exact hH2⟩
                            refine q_iinc C dX6_pass_147 rfl (by decide) (fun v147 e147 => ?_)
                            refine q_goto C 106 dX6_pass_150 (by decide) ?_
                            refine q_loc [(0, .ref (ω.1 23)), (1, .int (iI n)), (2, .int (iI v146)), (3, .int (iI i)), (4, .int (iI v147))] ⟨rfl, rfl, rfl, rfl, rfl, trivial⟩ ?_
                            exact ihB v147 _ v146 (by omega) (by omega) (by subst e147; exact FIN)
                          · refine q_iconst C dX6_pass_140 ?_
                            refine q_goto C 145 dX6_pass_141 (by decide) ?_
                            refine q_iadd C dX6_pass_145 ?_
                            refine q_istoreV_n C 2 dX6_pass_146 rfl (by decide) (fun v146 e146 => ?_)
                            have FIN : (∃ r1, lnA (v44 + 1) (l + 1).toNat (ehA (vB g1) (v44 + 1)) (stB g1) r1 (vB g134) (stB g134) ∧ v146 = acc + r1 ∧ 0 ≤ r1 ∧ r1 ≤ l + 1) ∧ psJ g0 g134 ∧ g134 23 1 = v44 + 1 := ⟨⟨r1 + v134, LN, by omega, by omega, by omega⟩, PS.1, by rw [PS.2.1]; exact hH2⟩
                            refine q_iinc C dX6_pass_147 rfl (by decide) (fun v147 e147 => ?_)
                            refine q_goto C 106 dX6_pass_150 (by decide) ?_
                            refine q_loc [(0, .ref (ω.1 23)), (1, .int (iI n)), (2, .int (iI v146)), (3, .int (iI i)), (4, .int (iI v147))] ⟨rfl, rfl, rfl, rfl, rfl, trivial⟩ ?_
                            exact ihB v147 _ v146 (by omega) (by omega) (by subst e147; exact FIN)
                  refine q_loc [(0, .ref (ω.1 23)), (1, .int (iI n)), (2, .int (iI acc)), (3, .int (iI i)), (4, .int (iI v104))] ⟨rfl, rfl, rfl, rfl, rfl, trivial⟩ ?_
                  exact loopB ((3 - v104).toNat + 1) v104 _ acc (by omega) (by omega) (by subst e104; exact ⟨⟨0, ⟨rfl, EH.2.1, EH.2.2.1⟩, by omega, by omega, by omega⟩, EH.1, EH.2.2.2⟩)
                · refine q_aload_n C 0 dX6_pass_64 rfl rfl ?_
                  refine q_getr C (b := 23) 7 rfl (by decide) rfl in_X6 (by decide) fl_X6_20 rfl dX6_pass_65 ?_
                  refine q_iload C dX6_pass_68 rfl ?_
                  refine q_aload_n C 0 dX6_pass_70 rfl rfl ?_
                  refine q_getr C (b := 23) 8 rfl (by decide) rfl in_X6 (by decide) fl_X6_24 rfl dX6_pass_71 ?_
                  refine q_iload C dX6_pass_74 rfl ?_
                  refine q_iald C (b := 28) (n := 20) 0 1000 rfl (by decide) (by decide) (by omega) (fun _ => rfl) dX6_pass_76 (fun v76 e76 l76 u76 => ?_)
                  rw [x28] at e76
                  refine q_aload_n C 0 dX6_pass_77 rfl rfl ?_
                  refine q_geti C (b := 23) 1 1 0 999 rfl (by decide) rfl in_X6 (by decide) fl_X6_126 rfl rfl rfl dX6_pass_78 (fun v78 e78 l78 u78 => ?_)
                  rw [x1] at e78
                  refine q_icmp_ne C 89 dX6_pass_81 (by decide) (by omega) (by omega) (fun c81 => ?_) (fun c81 => ?_)
                  · refine q_aload_n C 0 dX6_pass_89 rfl rfl ?_
                    refine q_getr C (b := 23) 7 rfl (by decide) rfl in_X6 (by decide) fl_X6_20 rfl dX6_pass_90 ?_
                    refine q_iload C dX6_pass_93 rfl ?_
                    refine q_cald C (b := 27) (n := 20) 0 65535 rfl (by decide) (by decide) (by omega) (fun _ => rfl) dX6_pass_95 (fun v95 e95 l95 u95 => ?_)
                    refine q_cast C (b := 27) (n := 20) rfl (by decide) (by decide) (by omega) (by omega) (show 0 ≤ _ ∧ _ ≤ 65535 from (by omega)) dX6_pass_96 ?_
                    have hX2 : (∀ j, (qUp g2 27 x v95) 27 j = if (0 ≤ j ∧ j < x + 1 ∧ g1 28 j = v44 + 1) then 45 else g1 27 j) ∧ ∀ k, k ≠ 27 → (qUp g2 27 x v95) k = qUp g1 23 1 (v44 + 1) k := by
                      refine ⟨fun j => ?_, fun k hk => by rw [qUp_row hk]; exact hX.2 k hk⟩
                      by_cases q : j = x
                      · subst q
                        rw [qUp_s]
                        first
                          | (rw [if_pos (by omega)])
                          | (rw [if_neg (by omega)]; rw [e95, hX.1, if_neg (by omega)])
                      · rw [qUp_j q, hX.1]
                        by_cases q2 : 0 ≤ j ∧ j < x ∧ g1 28 j = v44 + 1
                        · rw [if_pos q2, if_pos (by omega)]
                        · rw [if_neg q2, if_neg (by omega)]
                    refine q_iinc C dX6_pass_97 rfl (by decide) (fun v97 e97 => ?_)
                    refine q_goto C 55 dX6_pass_100 (by decide) ?_
                    refine q_loc [(0, .ref (ω.1 23)), (1, .int (iI n)), (2, .int (iI acc)), (3, .int (iI i)), (4, .int (iI v97))] ⟨rfl, rfl, rfl, rfl, rfl, trivial⟩ ?_
                    exact ihC v97 _ (by omega) (by omega) (by subst e97; exact hX2)
                  · refine q_bipush C dX6_pass_84 (by decide +kernel) ?_
                    refine q_goto C 96 dX6_pass_86 (by decide) ?_
                    refine q_cast C (b := 27) (n := 20) rfl (by decide) (by decide) (by omega) (by omega) (show 0 ≤ _ ∧ _ ≤ 65535 from (by omega)) dX6_pass_96 ?_
                    have hX2 : (∀ j, (qUp g2 27 x 45) 27 j = if (0 ≤ j ∧ j < x + 1 ∧ g1 28 j = v44 + 1) then 45 else g1 27 j) ∧ ∀ k, k ≠ 27 → (qUp g2 27 x 45) k = qUp g1 23 1 (v44 + 1) k := by
                      refine ⟨fun j => ?_, fun k hk => by rw [qUp_row hk]; exact hX.2 k hk⟩
                      by_cases q : j = x
                      · subst q
                        rw [qUp_s]
                        first
                          | (rw [if_pos (by omega)])
                          | (rw [if_neg (by omega)]; rw [e95, hX.1, if_neg (by omega)])
                      · rw [qUp_j q, hX.1]
                        by_cases q2 : 0 ≤ j ∧ j < x ∧ g1 28 j = v44 + 1
                        · rw [if_pos q2, if_pos (by omega)]
                        · rw [if_neg q2, if_neg (by omega)]
                    refine q_iinc C dX6_pass_97 rfl (by decide) (fun v97 e97 => ?_)
                    refine q_goto C 55 dX6_pass_100 (by decide) ?_
                    refine q_loc [(0, .ref (ω.1 23)), (1, .int (iI n)), (2, .int (iI acc)), (3, .int (iI i)), (4, .int (iI v97))] ⟨rfl, rfl, rfl, rfl, rfl, trivial⟩ ?_
                    exact ihC v97 _ (by omega) (by omega) (by subst e97; exact hX2)
            refine q_loc [(0, .ref (ω.1 23)), (1, .int (iI n)), (2, .int (iI acc)), (3, .int (iI i)), (4, .int (iI v53))] ⟨rfl, rfl, rfl, rfl, rfl, trivial⟩ ?_
            exact loopC ((g1 23 4 - v53).toNat + 1) v53 _ (by omega) (by omega) ⟨fun j => by rw [if_neg (by omega), qUp_k (by decide)], fun k _ => rfl⟩
      refine q_loc [(0, .ref (ω.1 23)), (1, .int (iI n)), (2, .int (iI v34)), (3, .int (iI v36))] ⟨rfl, rfl, rfl, rfl, trivial⟩ ?_
      exact loopA ((n - v36).toNat + 1) v36 _ v34 (by omega) (by omega) (by subst e36; subst e34; exact ⟨⟨rfl, rfl, rfl⟩, ⟨o, hio, fun _ _ => rfl, hB, rfl⟩, by omega, by omega, by omega⟩)
    · refine q_aload_n C 0 dX6_pass_27 rfl rfl ?_
      refine q_iconst C dX6_pass_28 ?_
      refine q_Vi0 C (KX6_fails _ _ (by omega) (by omega)) mX6_fails ml_X6_110 dX6_pass_29 (by decide) (by decide) rfl rfl rfl (Nat.le_of_ble_eq_true rfl) rfl (by decide) rfl rfl (fun v29 g29 l29 u29 h29 => ?_)
      obtain ⟨h29, rfl⟩ := h29
      exact q_iretI C dX6_pass_32 (by omega) (by decide) (Or.inr ⟨by omega, rfl⟩)
