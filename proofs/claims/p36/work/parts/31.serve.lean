/-! Quaylock: serving appointments, passing hours -/
def bInv (V : qHp) (S : St) : Prop := (∀ i, 0 ≤ i → i < V 0 5 → V 8 i = 98 → inS S (V 5 i)) ∧ ∀ i j, 0 ≤ i → i < V 0 5 → 0 ≤ j → j < V 0 5 → V 8 i = 98 → V 8 j = 98 → V 5 i = V 5 j → i = j
theorem bInv_eh {V : qHp} {S : St} {h : Int} (B : bInv V S) : bInv (ehA V h) S ∧ ehA V h 0 3 = V 0 3 ∧ ehA V h 1 = V 1 ∧ ehA V h 0 0 = h := by
  have e5 : ehA V h 5 = V 5 := by
    funext j
    simp [ehA]
  have e8 : ehA V h 8 = V 8 := by
    funext j
    simp [ehA]
  have e0 : ehA V h 0 5 = V 0 5 := by simp [ehA]
  refine ⟨⟨fun i a b c => ?_, fun i j a b a2 b2 c d e => ?_⟩, by simp [ehA], by funext j; simp [ehA], by simp [ehA]⟩
  · rw [e0] at b
    rw [e8] at c
    rw [e5]
    exact B.1 i a b c
  · rw [e0] at b b2
    rw [e8] at c d
    rw [e5] at e
    exact B.2 i j a b a2 b2 c d e
theorem srv_b {V V' : qHp} {S S' : St} {a r : Int} (hc : V 0 3 ≤ 4) (hr : ∀ t, V 1 t ≤ 4) (hw : wfS (V 0 3) S) (B : bInv V S) (ha : a = -1 ∨ (0 ≤ a ∧ a < V 0 5 ∧ V 8 a = 98)) (h : srvA V S a r V' S') : bInv V' S' ∧ wfS (V' 0 3) S' ∧ V' 0 3 = V 0 3 ∧ V' 1 = V 1 ∧ V' 0 5 = V 0 5 ∧ V' 0 0 = V 0 0 ∧ (r = 0 ∨ r = 1) := by
  rcases h with ⟨h1, h2, rfl, rfl⟩ | ⟨h1, h2, h3, rfl, rfl⟩ | ⟨h1, h2, L, z, h3, h4, h5, rfl, rfl⟩
  · exact ⟨B, hw, rfl, rfl, rfl, rfl, Or.inl h2⟩
  · have e0 : qUp V 8 a 109 0 = V 0 := qUp_row (by decide)
    have e5 : qUp V 8 a 109 5 = V 5 := qUp_row (by decide)
    have e8 : ∀ i, qUp V 8 a 109 8 i = 98 → V 8 i = 98 := by
      intro i q
      by_cases ia : i = a
      · rw [ia, qUp_s] at q
        omega
      · rw [qUp_j ia] at q
        exact q
    refine ⟨⟨fun i p q u => ?_, fun i j p q p2 q2 u u2 v => ?_⟩, by rw [e0]; exact hw, by rw [e0], qUp_row (by decide), by rw [e0], by rw [e0], Or.inl h3⟩
    · rw [e0] at q
      rw [e5]
      exact B.1 i p q (e8 i u)
    · rw [e0] at q q2
      rw [e5] at v
      exact B.2 i j p q p2 q2 (e8 i u) (e8 j u2) v
  · rcases ha with ha | ⟨ha, ha2, ha3⟩
    · exact absurd ha h1
    have hz : wfS (V 0 3) z := wf_run hr hw h4
    obtain ⟨n, -, ⟨z', p1, p2⟩, -⟩ := h3
    have ez := run_det hc hr hw h4 p1
    subst ez
    obtain ⟨s, hh⟩ := ov0_hd p2
    have e5 : qUp (qUp (qUp V 0 1 (w32 (V 0 1 + L.length))) 0 2 (w64 (V 0 2 + V 2 (V 5 a)))) 8 a 100 5 = V 5 := by rw [qUp_row (by decide), qUp_row (by decide), qUp_row (by decide)]
    have e03 : ∀ j, j ≠ 1 → j ≠ 2 → qUp (qUp (qUp V 0 1 (w32 (V 0 1 + L.length))) 0 2 (w64 (V 0 2 + V 2 (V 5 a)))) 8 a 100 0 j = V 0 j := fun j j1 j2 => by rw [qUp_k (by decide), qUp_j j2, qUp_j j1]
    have e8 : ∀ i, qUp (qUp (qUp V 0 1 (w32 (V 0 1 + L.length))) 0 2 (w64 (V 0 2 + V 2 (V 5 a)))) 8 a 100 8 i = 98 → V 8 i = 98 ∧ i ≠ a := by
      intro i q
      by_cases ia : i = a
      · rw [ia, qUp_s] at q
        omega
      · rw [qUp_j ia, qUp_k (by decide), qUp_k (by decide)] at q
        exact ⟨q, ia⟩
    refine ⟨⟨fun i p q u => ?_, fun i j p q p2 q2 u u2 v => ?_⟩, by rw [e03 3 (by decide) (by decide)]; exact tk_wf hz hh, e03 3 (by decide) (by decide), by rw [qUp_row (by decide), qUp_row (by decide), qUp_row (by decide)], e03 5 (by decide) (by decide), e03 0 (by decide) (by decide), Or.inr h5⟩
    · rw [e03 5 (by decide) (by decide)] at q
      rw [e5]
      obtain ⟨u1, u2⟩ := e8 i u
      refine (inS_tk hz hh).mpr ⟨(inS_run h4).mpr (B.1 i p q u1), fun w => u2 (B.2 i a p q ha ha2 u1 ha3 w)⟩
    · rw [e03 5 (by decide) (by decide)] at q q2
      rw [e5] at v
      exact B.2 i j p q p2 q2 (e8 i u).1 (e8 j u2).1 v
def cntY (g : qHp) : Int := cntI (fun x => decide (g 9 x ≠ -1)) 20
theorem cntI_off {p q : Int → Bool} {b : Int} : ∀ {n : Nat}, 0 ≤ b → b < n → p b = true → q b = false → (∀ i, i ≠ b → q i = p i) → cntI q n = cntI p n - 1
  | 0, h0, h1, _, _, _ => by omega
  | n + 1, h0, h1, hp, hq, h => by
    unfold cntI
    by_cases e : b = n
    · rw [← e, hp, hq, cntI_congr (p := q) (q := p) (n := n) (fun i a c => h i (by omega))]
      simp
    · rw [cntI_off (n := n) h0 (by omega) hp hq h, h n (fun z => e z.symm)]
      omega
theorem cntY_rng (g : qHp) : 0 ≤ cntY g ∧ cntY g ≤ 20 := by
  have := cntI_rng (fun x => decide (g 9 x ≠ -1)) 20
  exact this
theorem cntY_eq {g g' : qHp} (o : yOK (g 5 5) (g 6) (g 7) (g 8) (g 9)) (o' : yOK (g' 5 5) (g' 6) (g' 7) (g' 8) (g' 9)) (h : ∀ x, inS (stA g') x ↔ inS (stA g) x) : cntY g' = cntY g := by
  refine cntI_congr (fun x a b => ?_)
  have e : ∀ so : Int → Int, ySt so x = so x := fun so => by unfold ySt; rw [if_pos ⟨a, by omega⟩]
  have h1 := inS_so o (x := x)
  have h2 := inS_so o' (x := x)
  rw [e] at h1 h2
  exact decide_eq_decide.mpr (h2.trans ((h x).trans h1.symm))
def srvC (g g' : qHp) (a r : Int) : Prop := srvA (vA g) (stA g) a r (vA g') (stA g') ∧ yOK (g' 5 5) (g' 6) (g' 7) (g' 8) (g' 9) ∧ (∀ k, 23 ≤ k → g' k = g k) ∧ (g 5 6 = cntY g → g' 5 6 = cntY g') ∧ (r = 0 ∨ r = 1)
theorem vA_5 {g : qHp} {a : Int} (h : 0 ≤ a ∧ a < g 18 4) : vA g 5 a = g 19 a := cGet_in h
/-- missed, with nothing looked for or nothing found -/
theorem srv_m {g g1 : qHp} {a : Int} (o : yOK (g 5 5) (g 6) (g 7) (g 8) (g 9)) (h : frK g g1) (ha : 0 ≤ a ∧ a < g 18 4) (hm : vA g 3 (vA g 5 a) ≠ 45 ∨ noA (vA g) (stA g) (vA g 5 a)) : srvC g (qUp g1 22 a 109) a 0 := by
  have e18 : g1 18 = g 18 := h 18 (by omega)
  obtain ⟨f1, f2⟩ := vA_fr h
  obtain ⟨t1, t2⟩ := vA_turn (g := g1) (a := a) (t := 109) (by rw [e18]; exact ha)
  have e : ∀ k, k ≠ 22 → qUp g1 22 a 109 k = g1 k := fun k hk => qUp_row hk
  refine ⟨Or.inr (Or.inl ⟨by omega, hm, rfl, by rw [t1, f1], by rw [t2, f2]⟩), ?_, fun k hk => by rw [e k (by omega), h k (by omega)], ?_, Or.inl rfl⟩
  · rw [e 5 (by decide), e 6 (by decide), e 7 (by decide), e 8 (by decide), e 9 (by decide), h 5 (by omega), h 6 (by omega), h 7 (by omega), h 8 (by omega), h 9 (by omega)]
    exact o
  · unfold cntY
    rw [e 5 (by decide), e 9 (by decide), h 5 (by omega), h 9 (by omega)]
    exact fun q => q
/-- done -/
theorem srv_d {g g1 g2 : qHp} {a s u : Int} {L : List Int} {z : St} (o : yOK (g 5 5) (g 6) (g 7) (g 8) (g 9)) (h : frK g g1) (ha : 0 ≤ a ∧ a < g 18 4) (hh : vA g 3 (vA g 5 a) = 45) (hL : leaA (vA g) (stA g) (vA g 5 a) L) (hrun : runA (vA g) (vA g 5 a) L (stA g) z) (Q : mvQ g1 g2 L.length z) (hs : (z s).head? = some (vA g 5 a)) (hu : u = w64 (g 0 6 + vA g 2 (vA g 5 a))) : srvC g (qUp (qUp (tk5 g2 s) 0 6 u) 22 a 100) a 1 := by
  obtain ⟨f1, f2⟩ := vA_fr h
  obtain ⟨m1, m2⟩ := vA_mv Q
  obtain ⟨a1, a2, a3, a4, a5, a6, a7⟩ := Q
  have e18 : g2 18 4 = g 18 4 := by rw [a1 18 (by decide) (by decide) (by decide) (by decide) (by decide), h 18 (by omega)]
  have o1 : g1 5 = g 5 := h 5 (by omega)
  rw [← m2] at hs
  obtain ⟨k1, k2, k3, k4, k5, k6⟩ := vA_tk a6 hs
  obtain ⟨r1, r2, r3, r4, r5⟩ := tk5_rows g2 s
  obtain ⟨u1, u2⟩ := vA_gone (g := tk5 g2 s) u
  have d18 : qUp (tk5 g2 s) 0 6 u 18 4 = g 18 4 := by rw [qUp_k (by decide), r5 18 (by decide) (by decide) (by decide), e18]
  obtain ⟨t1, t2⟩ := vA_turn (g := qUp (tk5 g2 s) 0 6 u) (a := a) (t := 100) (by rw [d18]; exact ha)
  have e : ∀ k, k ≠ 22 → k ≠ 0 → qUp (qUp (tk5 g2 s) 0 6 u) 22 a 100 k = tk5 g2 s k := fun k hk h0 => by rw [qUp_row hk, qUp_row h0]
  have h01 : vA g 0 1 = g1 0 5 := by rw [h 0 (by omega)]; rfl
  have h02 : vA g 0 2 = g 0 6 := rfl
  refine ⟨Or.inr (Or.inr ⟨by omega, hh, L, z, hL, hrun, rfl, by rw [t1, u1, k1, m1, f1, h01, h02, hu], by rw [t2, u2, k2, m2]⟩), ?_, fun k hk => by rw [e k (by omega) (by omega), r5 k (by omega) (by omega) (by omega), a1 k (by omega) (by omega) (by omega) (by omega) (by omega), h k (by omega)], ?_, Or.inr rfl⟩
  · rw [e 5 (by decide) (by decide), e 6 (by decide) (by decide), e 7 (by decide) (by decide), e 8 (by decide) (by decide), e 9 (by decide) (by decide)]
    exact k3
  · intro q
    have c1 : cntY g2 = cntY g := by
      refine cntY_eq o a6 (fun x => ?_)
      show inS (stOf (g2 7) (g2 8)) x ↔ _
      rw [a7]
      exact inS_run hrun
    have c0 := cntY_rng g
    have hb := a6.2.2.2.2.1.2.2.1
    obtain ⟨l, hl⟩ := hd_cons hs
    have hbr := hb s (vA g 5 a) (by show _ ∈ stA g2 s; rw [hl]; exact List.mem_cons_self)
    have hsr := a6.2.2.2.2.1.2.2.2.2 s (vA g 5 a) (by show _ ∈ stA g2 s; rw [hl]; exact List.mem_cons_self)
    have c2 : cntY (qUp (qUp (tk5 g2 s) 0 6 u) 22 a 100) = cntY g2 - 1 := by
      unfold cntY
      rw [e 9 (by decide) (by decide), k6]
      refine cntI_off (b := vA g 5 a) hbr.1 (by omega) ?_ ?_ (fun i hi => ?_)
      · exact decide_eq_true (by rw [k5]; omega)
      · exact decide_eq_false (by rw [uI_s]; omega)
      · show decide (uI (g2 9) (vA g 5 a) (-1) i ≠ -1) = _
        rw [uI_n hi]
    rw [e 5 (by decide) (by decide), r2, a5, o1, c2, c1, q]
    exact w32_id (by omega)
set_option maxRecDepth 20000 in
theorem KX5_serve (g : qHp) (a : Int) (ha : -2147483648 ≤ a ∧ a < 2147483648) (hyo : yOK (g 5 5) (g 6) (g 7) (g 8) (g 9)) (ha2 : a ≠ -1 → (0 ≤ a ∧ a < g 18 4) ∧ inY g (g 19 a)) : qC yX5_serve (.code yX5_serve cX5_serve 3 (some .int)) 5 0 (fun ad => [.ref (ad 0), .int (iI a)]) g (qPi (fun (r : Int) (g' : qHp) => srvC g g' a r)) qNo := by
  refine q_meth (by decide +kernel) rfl (fun _ => (Nat.le_of_ble_eq_true rfl)) (fun X ω C => ?_)
  refine q_nm (fun hn => ?_)
  have r0_6 : (-9223372036854775808) ≤ g 0 6 ∧ g 0 6 ≤ 9223372036854775807 := hn 0 6
  refine q_loc [(0, .ref (ω.1 0)), (1, .int (iI a))] ⟨rfl, rfl, trivial⟩ ?_
  refine q_iload_n C 1 dX5_serve_0 rfl rfl ?_
  refine q_iconst C dX5_serve_1 ?_
  refine q_icmp_ne C 7 dX5_serve_2 (by decide) (by omega) (by omega) (fun c2 => ?_) (fun c2 => ?_)
  · obtain ⟨har, hin⟩ := ha2 (by omega)
    have h5a := vA_5 har
    refine q_aload_n C 0 dX5_serve_7 rfl rfl ?_
    refine q_getr C (b := 0) 3 rfl (by decide) rfl in_X5 (by decide) fl_X5_37 rfl dX5_serve_8 ?_
    refine q_iload_n C 1 dX5_serve_11 rfl rfl ?_
    refine q_Vf0 C (KX1_boxOf _ _ (by omega)) mX1_boxOf ml_X5_280 dX5_serve_12 (by decide) (by decide) rfl rfl rfl (Nat.le_of_ble_eq_true rfl) rfl (by decide) rfl rfl (fun v12 l12 u12 h12 => ?_)
    refine q_istoreV_n C 2 dX5_serve_15 rfl (by decide) (fun v15 e15 => ?_)
    have q15 : v15 = g 19 a := by omega
    rw [← q15] at h5a hin
    have hb := ySt_in hin
    refine q_aload_n C 0 dX5_serve_16 rfl rfl ?_
    refine q_getr C (b := 0) 0 rfl (by decide) rfl in_X5 (by decide) fl_X5_15 rfl dX5_serve_17 ?_
    refine q_iload_n C 2 dX5_serve_20 rfl rfl ?_
    refine q_Vf0 C (KX0_isHeld _ _ (by omega)) mX0_isHeld ml_X5_137 dX5_serve_21 (by decide) (by decide) rfl rfl rfl (Nat.le_of_ble_eq_true rfl) rfl (by decide) rfl rfl (fun v21 l21 u21 h21 => ?_)
    refine q_ifne C 38 dX5_serve_24 (by decide) (by omega) (fun c24 => ?_) (fun c24 => ?_)
    · refine q_aload_n C 0 dX5_serve_38 rfl rfl ?_
      refine q_getr C (b := 0) 3 rfl (by decide) rfl in_X5 (by decide) fl_X5_37 rfl dX5_serve_39 ?_
      refine q_iload_n C 1 dX5_serve_42 rfl rfl ?_
      refine q_bipush C dX5_serve_43 (by decide +kernel) ?_
      refine q_Vv0 C (KX1_turn _ _ (by omega) _ (by omega) (by omega)) mX1_turn ml_X5_224 dX5_serve_45 (by decide) (by decide) rfl rfl rfl (Nat.le_of_ble_eq_true rfl) rfl (by decide) rfl rfl ?_
      refine q_iconst C dX5_serve_48 ?_
      rw [if_pos har]
      refine q_iretI C dX5_serve_49 (by omega) (by decide) (srv_m hyo (fun _ _ => rfl) har (Or.inl ?_))
      rw [h5a]
      show cGet (g 1 3) (g 3) 45 v15 ≠ 45
      omega
    · refine q_aload_n C 0 dX5_serve_27 rfl rfl ?_
      refine q_getr C (b := 0) 2 rfl (by decide) rfl in_X5 (by decide) fl_X5_30 rfl dX5_serve_28 ?_
      refine q_iload_n C 2 dX5_serve_31 rfl rfl ?_
      refine q_Vi0 C (KX3_find _ _ (by omega) hyo hb.1 (by rw [← hb.2]; exact hin) _ rfl) mX3_find ml_X5_269 dX5_serve_32 (by decide) (by decide) rfl rfl rfl (Nat.le_of_ble_eq_true rfl) rfl (by decide) rfl rfl (fun v32 g32 l32 u32 h32 => ?_)
      refine q_ifne C 50 dX5_serve_35 (by decide) (by omega) (fun c35 => ?_) (fun c35 => ?_)
      · have p3 : ∃ L, leaG g v15 (lmY g v15) L ∧ g32 15 3 = keyN L.length L := by rcases h32.2 with ⟨z, z2⟩ | ⟨z, z2⟩; (· exact z2); (· omega)
        obtain ⟨L, p3, p4⟩ := p3
        have p2 : frK g g32 := h32.1
        have F := lea_fs hyo hin p3
        have hA := (leaG_A hyo hin).mp p3
        have p3' := p3
        obtain ⟨⟨z, qr1, q2⟩, -⟩ := p3'
        have e5 := p2 5 (by omega)
        have e6 := p2 6 (by omega)
        have e7 := p2 7 (by omega)
        have e8 := p2 8 (by omega)
        have e9 := p2 9 (by omega)
        have hyo2 : yOK (g32 5 5) (g32 6) (g32 7) (g32 8) (g32 9) := by
          rw [e5, e6, e7, e8, e9]
          exact hyo
        have hrun2 : runR (g32 5 5) (cut4 (g32 6)) (cGet (g 1 3) (g 2) 0) (pinB g) v15 L (stOf (g32 7) (g32 8)) z := by
          rw [e5, e6, e7, e8]
          exact qr1
        have hkd : vA g 3 (vA g 5 a) = 45 := by
          rw [h5a]
          show cGet (g 1 3) (g 3) 45 v15 = 45
          omega
        refine q_aload_n C 0 dX5_serve_50 rfl rfl ?_
        refine q_Vw0 C (KX5_makePlannedMoves g32 hyo2 _ _ v15 L z F.1 F.2.1 p4 hrun2) mX5_makePlannedMoves ml_X5_187 dX5_serve_51 (by decide) (by decide) rfl rfl rfl (Nat.le_of_ble_eq_true rfl) rfl (by decide) rfl rfl (fun g51 h51 => ?_)
        obtain ⟨s, hs⟩ := ov0_hd q2
        have hs' := hs
        rw [← h51.2.2.2.2.2.2] at hs'
        have T := vA_tk h51.2.2.2.2.2.1 hs'
        refine q_aload_n C 0 dX5_serve_54 rfl rfl ?_
        refine q_getr C (b := 0) 1 rfl (by decide) rfl in_X5 (by decide) fl_X5_21 rfl dX5_serve_55 ?_
        refine q_aload_n C 0 dX5_serve_58 rfl rfl ?_
        refine q_getr C (b := 0) 1 rfl (by decide) rfl in_X5 (by decide) fl_X5_21 rfl dX5_serve_59 ?_
        refine q_iload_n C 2 dX5_serve_62 rfl rfl ?_
        refine q_Vf0 C (KX4_stackWith_5 _ _ (by omega)) mX4_stackWith ml_X5_95 dX5_serve_63 (by decide) (by decide) rfl rfl rfl (Nat.le_of_ble_eq_true rfl) rfl (by decide) rfl rfl (fun v63 l63 u63 h63 => ?_)
        have hs63 : v63 = s := by
          rw [h63]
          unfold ySt
          rw [if_pos hb.1]
          exact T.2.2.2.2.1
        refine q_Vv0 C (KX4_take_5 _ _ (by omega) (by rw [hs63]; exact T.2.2.2.1)) mX4_take ml_X5_283 dX5_serve_66 (by decide) (by decide) rfl rfl rfl (Nat.le_of_ble_eq_true rfl) rfl (by decide) rfl rfl ?_
        have R := tk5_rows g51 v63
        have q06 : tk5 g51 v63 0 6 = g 0 6 := by rw [R.2.2.2.2 0 (by decide) (by decide) (by decide), h51.2.1 6 (by decide), p2 0 (by omega)]
        have q1 : tk5 g51 v63 1 = g 1 := by rw [R.2.2.2.2 1 (by decide) (by decide) (by decide), h51.1 1 (by decide) (by decide) (by decide) (by decide) (by decide), p2 1 (by omega)]
        have q2' : tk5 g51 v63 2 = g 2 := by rw [R.2.2.2.2 2 (by decide) (by decide) (by decide), h51.1 2 (by decide) (by decide) (by decide) (by decide) (by decide), p2 2 (by omega)]
        have q18 : tk5 g51 v63 18 = g 18 := by rw [R.2.2.2.2 18 (by decide) (by decide) (by decide), h51.1 18 (by decide) (by decide) (by decide) (by decide) (by decide), p2 18 (by omega)]
        refine q_hp (show _ = tk5 g51 v63 from rfl) ?_
        refine q_aload_n C 0 dX5_serve_69 rfl rfl ?_
        refine q_dup C dX5_serve_70 rfl ?_
        refine q_getl C (b := 0) 6 6 (-9223372036854775808) 9223372036854775807 rfl (by decide) rfl in_X5 (by decide) fl_X5_249 rfl rfl rfl dX5_serve_71 (fun v71 e71 l71 u71 => ?_)
        refine q_aload_n C 0 dX5_serve_74 rfl rfl ?_
        refine q_getr C (b := 0) 0 rfl (by decide) rfl in_X5 (by decide) fl_X5_15 rfl dX5_serve_75 ?_
        refine q_iload_n C 2 dX5_serve_78 rfl rfl ?_
        refine q_Vf0 C (KX0_weightOf _ _ (by omega)) mX0_weightOf ml_X5_101 dX5_serve_79 (by decide) (by decide) rfl rfl rfl (Nat.le_of_ble_eq_true rfl) rfl (by decide) rfl rfl (fun v79 l79 u79 h79 => ?_)
        have q79 : v79 = vA g 2 (vA g 5 a) := by
          rw [h79, q1, q2', h5a]
          rfl
        have q79r : 0 ≤ v79 ∧ v79 ≤ 30 := by
          rw [h79, q1, q2']
          unfold cGet
          split
          · exact hn 2 v15
          · omega
        refine q_i2l C dX5_serve_82 (by omega) ?_
        refine q_ladd C dX5_serve_83 ?_
        refine q_putl C (b := 0) 6 6 (-9223372036854775808) 9223372036854775807 (w64 _) rfl (by decide) rfl in_X5 tyX5_ok nmX5 (by decide) fl_X5_249 rfl (by decide +kernel) rfl rfl rfl (w64_lI _) (by have := w64_rng (v71 + v79); omega) dX5_serve_84 ?_
        refine q_aload_n C 0 dX5_serve_87 rfl rfl ?_
        refine q_getr C (b := 0) 3 rfl (by decide) rfl in_X5 (by decide) fl_X5_37 rfl dX5_serve_88 ?_
        refine q_iload_n C 1 dX5_serve_91 rfl rfl ?_
        refine q_bipush C dX5_serve_92 (by decide +kernel) ?_
        refine q_Vv0 C (KX1_turn _ _ (by omega) _ (by omega) (by omega)) mX1_turn ml_X5_224 dX5_serve_94 (by decide) (by decide) rfl rfl rfl (Nat.le_of_ble_eq_true rfl) rfl (by decide) rfl rfl ?_
        refine q_iconst C dX5_serve_97 ?_
        rw [if_pos (by rw [qUp_k (by decide), q18]; exact har)]
        refine q_iretI C dX5_serve_98 (by omega) (by decide) (srv_d hyo p2 har hkd (by rw [h5a]; exact hA) (by rw [h5a]; exact qr1) h51 (by rw [h5a, hs63]; exact hs) ?_)
        rw [e71, q06, q79]
      · refine q_aload_n C 0 dX5_serve_38 rfl rfl ?_
        refine q_getr C (b := 0) 3 rfl (by decide) rfl in_X5 (by decide) fl_X5_37 rfl dX5_serve_39 ?_
        refine q_iload_n C 1 dX5_serve_42 rfl rfl ?_
        refine q_bipush C dX5_serve_43 (by decide +kernel) ?_
        refine q_Vv0 C (KX1_turn _ _ (by omega) _ (by omega) (by omega)) mX1_turn ml_X5_224 dX5_serve_45 (by decide) (by decide) rfl rfl rfl (Nat.le_of_ble_eq_true rfl) rfl (by decide) rfl rfl ?_
        refine q_iconst C dX5_serve_48 ?_
        rw [if_pos (by rw [h32.1 18 (by omega)]; exact har)]
        refine q_iretI C dX5_serve_49 (by omega) (by decide) (srv_m hyo h32.1 har (Or.inr ?_))
        rw [h5a]
        exact noG_A hyo hin (by rcases h32.2 with ⟨z, z2⟩ | ⟨z, z2⟩; (· omega); (· exact z2))
  · refine q_iconst C dX5_serve_5 ?_
    exact q_iretI C dX5_serve_6 (by omega) (by decide) ⟨Or.inl ⟨by omega, rfl, rfl, rfl⟩, hyo, fun _ _ => rfl, fun q => q, Or.inl rfl⟩
