/-! the reference: the plan, and its moves made -/
def leaN (g : qHp) (b : Int) (L : List Int) : Prop := ∃ n : Nat, ovR (stM g 0) b n ∧ leastP (g 23 2) (cut4 (g 24)) (wM g) (pnM g) b (stM g 0) (n + 1) L
def noN (g : qHp) (b : Int) : Prop := ∃ n : Nat, ovR (stM g 0) b n ∧ ∀ L, plnN g b L → ¬ (L.length : Int) ≤ n + 1
theorem nod_in {g : qHp} {b : Int} (o : yK g 0) (hin : inS (stM g 0) b) : b ∈ stM g 0 (soS (stM g 0) b) ∧ (0 ≤ soS (stM g 0) b ∧ soS (stM g 0) b < g 23 2) ∧ ixO b (stM g 0 (soS (stM g 0) b)) < 4 ∧ ovR (stM g 0) b (ixO b (stM g 0 (soS (stM g 0) b))) := by
  obtain ⟨s, hs⟩ := hin
  have e := soS_at o hs
  have h4 : (stM g 0 s).length ≤ 4 := o.2.2.2.2.1.2.2.2.1 s
  have hl := ix_lt hs
  have hc := o.2.2.2.2.1.2.2.2.2 s b hs
  rw [e]
  exact ⟨hs, hc, by omega, s, hs, rfl⟩
/-- the first plan found is the least -/
theorem lea_of {g : qHp} {b : Int} {n : Nat} {L : List Int} (o : yK g 0) (hn : ovR (stM g 0) b n) (hn3 : n ≤ 3) (hL : plnN g b L) (hl : (L.length : Int) ≤ n + 1) (h0 : ∀ L', plnN g b L' → ¬ (L'.length : Int) < L.length) (h1 : ∀ L', plnN g b L' → L'.length = L.length → ¬ lexL L' L) : leaN g b L := by
  have dg : ∀ L', plnN g b L' → digs L' := fun L' h => by
    obtain ⟨z, q, -⟩ := h
    exact run_dig o.1.2 (yOK_cut o) o.2.2.2.2.1 q
  refine ⟨n, hn, hL, hl, fun L' hL' hl' => ?_⟩
  have a := h0 L' hL'
  have k := key_rng (dg L hL) (by omega)
  have k' := key_rng (dg L' hL') (by omega)
  by_cases e : L'.length = L.length
  · rcases lex_tri e with q | q | q
    · rw [q]
      exact Int.le_refl _
    · exact absurd q (h1 L' hL' e)
    · have m := lex_key (dg L hL) (dg L' hL') (by omega) e.symm q
      unfold keyN
      rw [e]
      omega
  · unfold keyN
    omega
/-- what making a plan's moves does -/
def mkQ (g g' : qHp) (n : Int) (z : St) : Prop := (∀ k, k ≠ 23 → k ≠ 29 → k ≠ 30 → g' k = g k) ∧ (∀ j, j ≠ 12 → g' 23 j = g 23 j) ∧ g' 23 12 = w32 (g 23 12 + n) ∧ yK g' 0 ∧ stM g' 0 = z
theorem mkQ_0 {g : qHp} (hn : -2147483648 ≤ g 23 12 ∧ g 23 12 ≤ 2147483647) (o : yK g 0) : mkQ g g 0 (stM g 0) := ⟨fun _ _ _ _ => rfl, fun _ _ => rfl, by rw [Int.add_zero, w32_id hn], o, rfl⟩
theorem mkQ_s {g g1 : qHp} {n : Int} {y : St} {w : Int → Int} {pn : Int → Bool} {s t x : Int} (Q : mkQ g g1 n y) (k : okM (g 23 2) (cut4 (g 24)) w pn y s t x) : okM (g1 23 2) (cut4 (g1 24)) w pn (stM g1 0) (soS (stM g1 0) x) t x ∧ soS (stM g1 0) x = s ∧ mkQ g (qUp (mvM g1 0 (soS (stM g1 0) x) t x) 23 12 (w32 (mvM g1 0 (soS (stM g1 0) x) t x 23 12 + 1))) (n + 1) (doM y s t x) := by
  obtain ⟨q1, q2, q3, q4, q5⟩ := Q
  have k1 : okM (g1 23 2) (cut4 (g1 24)) w pn (stM g1 0) s t x := by
    rw [q2 2 (by decide), q1 24 (by decide) (by decide) (by decide), q5]
    exact k
  obtain ⟨l, hl⟩ := hd_cons k1.2.2.2.2.2.1
  have es : soS (stM g1 0) x = s := soS_at q4 (by rw [hl]; exact List.mem_cons_self)
  rw [es]
  obtain ⟨m1, m2, m3, -⟩ := mvM_ok q4 k1
  have e23 : mvM g1 0 s t x 23 = g1 23 := m3 23 (by decide) (by decide)
  refine ⟨k1, rfl, fun k a c d => ?_, fun j a => ?_, ?_, ?_⟩
  · rw [qUp_row a, m3 k c d, q1 k a c d]
  · rw [qUp_j a, e23, q2 j a]
  · rw [qUp_s, e23, q3, w32_ad, Int.add_assoc]
  · have h := yK_eq (g := mvM g1 0 s t x) (g' := qUp (mvM g1 0 s t x) 23 12 (w32 (mvM g1 0 s t x 23 12 + 1))) (y := 0) (y' := 0) (qUp_j (by decide)) (qUp_row (by decide)) (fun j _ _ => by rw [qUp_k (by decide)]) (fun j _ _ => by rw [qUp_k (by decide)]) m2
    exact ⟨h.1, by rw [h.2, m1, q5]⟩
set_option maxRecDepth 20000 in
theorem KX6_aboveOf (g : qHp) (b : Int) (hb : -2147483648 ≤ b ∧ b < 2147483648) (o : yK g 0) (hin : inS (stM g 0) b) : qC yX6_aboveOf (.code yX6_aboveOf cX6_aboveOf 2 (some .int)) 2 0 (fun ad => [.ref (ad 23), .int (iI b)]) g (qPi (fun (r : Int) (g' : qHp) => (r = (ixO b (stM g 0 (soS (stM g 0) b)) : Nat) ∧ 0 ≤ r ∧ r ≤ 3) ∧ g' = g)) qNo := by
  refine q_meth (by decide +kernel) rfl (fun _ => (Nat.le_of_ble_eq_true rfl)) (fun X ω C => ?_)
  obtain ⟨x1, x2, x3, -⟩ := nod_in o hin
  have hc4 := o.1
  refine q_loc [(0, .ref (ω.1 23)), (1, .int (iI b))] ⟨rfl, rfl, trivial⟩ ?_
  refine q_aload_n C 0 dX6_aboveOf_0 rfl rfl ?_
  refine q_getr C (b := 23) 9 rfl (by decide) rfl in_X6 (by decide) fl_X6_27 rfl dX6_aboveOf_1 ?_
  refine q_aload_n C 0 dX6_aboveOf_4 rfl rfl ?_
  refine q_iconst C dX6_aboveOf_5 ?_
  refine q_iload_n C 1 dX6_aboveOf_6 rfl rfl ?_
  refine q_Vf0 C (KX6_placeOf _ _ (by omega) _ (by omega) (by omega) o.2.2.1) mX6_placeOf ml_X6_62 dX6_aboveOf_7 (by decide) (by decide) rfl rfl rfl (Nat.le_of_ble_eq_true rfl) rfl (by decide) rfl rfl (fun v7 l7 u7 h7 => ?_)
  refine q_iald C (b := 29) (n := 24) 0 4 rfl (by decide) (by decide) (by omega) (fun _ => rfl) dX6_aboveOf_10 (fun v10 e10 l10 u10 => ?_)
  refine q_aload_n C 0 dX6_aboveOf_11 rfl rfl ?_
  refine q_iconst C dX6_aboveOf_12 ?_
  refine q_iload_n C 1 dX6_aboveOf_13 rfl rfl ?_
  refine q_Vf0 C (KX6_levelOf _ _ (by omega) _ (by omega) (by omega) _ o hin) mX6_levelOf ml_X6_98 dX6_aboveOf_14 (by decide) (by decide) rfl rfl rfl (Nat.le_of_ble_eq_true rfl) rfl (by decide) rfl rfl (fun v14 l14 u14 h14 => ?_)
  have q10 : v10 = hM g 0 (soS (stM g 0) b) := by rw [e10, h7]; show g 29 _ = g 29 _; congr 1; omega
  obtain ⟨h14, h14b⟩ := h14
  rw [← q10] at h14
  refine q_isub C dX6_aboveOf_17 ?_
  refine q_iconst C dX6_aboveOf_18 ?_
  refine q_isub C dX6_aboveOf_19 ?_
  exact q_iretI C dX6_aboveOf_20 (by omega) (by decide) ⟨by omega, rfl⟩
set_option maxRecDepth 20000 in
theorem KX6_plans (g : qHp) (b : Int) (hb : -2147483648 ≤ b ∧ b < 2147483648) (o : yK g 0) (hio : insN g (stM g 0)) (hin : inS (stM g 0) b) : qC yX6_plans (.code yX6_plans cX6_plans 3 (some .int)) 5 0 (fun ad => [.ref (ad 23), .int (iI b)]) g (qPi (fun (r : Int) (g' : qHp) => fndF g g' ∧ ((∃ L, leaN g b L ∧ r = (L.length : Int) ∧ ∀ i : Nat, i < L.length → L[i]? = some (g' 31 (i : Int))) ∨ (r = -1 ∧ noN g b)))) qNo := by
  refine q_meth (by decide +kernel) rfl (fun _ => (Nat.le_of_ble_eq_true rfl)) (fun X ω C => ?_)
  obtain ⟨x1, x2, x3, x4⟩ := nod_in o hin
  refine q_loc [(0, .ref (ω.1 23)), (1, .int (iI b))] ⟨rfl, rfl, trivial⟩ ?_
  refine q_iconst C dX6_plans_0 ?_
  refine q_istoreV_n C 2 dX6_plans_1 rfl (by decide) (fun v1 e1 => ?_)
  have loopA : ∀ (nA : Nat) (mn : Int) (g1 : qHp), ((10 - mn) < (nA : Int)) → (0 ≤ mn ∧ mn ≤ (ixO b (stM g 0 (soS (stM g 0) b)) : Nat) + 2) → (fndF g g1 ∧ ∀ L, plnN g b L → ¬ (L.length : Int) < mn) → qT X ω 3 0 (qEnd X ω (qPi (fun (r : Int) (g' : qHp) => fndF g g' ∧ ((∃ L, leaN g b L ∧ r = (L.length : Int) ∧ ∀ i : Nat, i < L.length → L[i]? = some (g' 31 (i : Int))) ∨ (r = -1 ∧ noN g b)))) qNo 0) g1 2 [(0, .ref (ω.1 23)), (1, .int (iI b)), (2, .int (iI mn))] [] := by
    intro nA
    induction nA with
    | zero => intro mn g1 hmA hm2 hI; exfalso; omega
    | succ nA ihA =>
      intro mn g1 hmA hm2 hI
      obtain ⟨F, hno⟩ := hI
      obtain ⟨o1, es⟩ := fndF_yK F o
      have hin1 : inS (stM g1 0) b := by rw [es]; exact hin
      have hio1 : insN g1 (stM g1 0) := by
        intro x
        rw [es, F.2.2 23 (by decide) (by decide) (by decide), F.2.2 26 (by decide) (by decide) (by decide)]
        exact hio x
      refine q_iload_n C 2 dX6_plans_2 rfl rfl ?_
      refine q_aload_n C 0 dX6_plans_3 rfl rfl ?_
      refine q_iload_n C 1 dX6_plans_4 rfl rfl ?_
      refine q_Vf0 C (KX6_aboveOf _ _ (by omega) o1 hin1) mX6_aboveOf ml_X6_101 dX6_plans_5 (by decide) (by decide) rfl rfl rfl (Nat.le_of_ble_eq_true rfl) rfl (by decide) rfl rfl (fun v5 l5 u5 h5 => ?_)
      rw [es] at h5
      refine q_iconst C dX6_plans_8 ?_
      refine q_iadd C dX6_plans_9 ?_
      refine q_icmp_gt C 30 dX6_plans_10 (by decide) (by omega) (by omega) (fun c10 => ?_) (fun c10 => ?_)
      · refine q_iconst C dX6_plans_30 ?_
        exact q_iretI C dX6_plans_31 (by omega) (by decide) ⟨F, Or.inr ⟨rfl, _, x4, fun L hL q => hno L hL (by omega)⟩⟩
      · refine q_aload_n C 0 dX6_plans_13 rfl rfl ?_
        refine q_iload_n C 1 dX6_plans_14 rfl rfl ?_
        refine q_iload_n C 2 dX6_plans_15 rfl rfl ?_
        refine q_Vi0 C (KX6_finds _ _ (by omega) _ (by omega) o1 hio1 (by omega) hin1) mX6_finds ml_X6_105 dX6_plans_16 (by decide) (by decide) rfl rfl rfl (Nat.le_of_ble_eq_true rfl) rfl (by decide) rfl rfl (fun v16 g16 l16 u16 h16 => ?_)
        refine q_ifeq C 24 dX6_plans_19 (by decide) (by omega) (fun c19 => ?_) (fun c19 => ?_)
        · refine q_iinc C dX6_plans_24 rfl (by decide) (fun v24 e24 => ?_)
          refine q_goto C 2 dX6_plans_27 (by decide) ?_
          refine q_loc [(0, .ref (ω.1 23)), (1, .int (iI b)), (2, .int (iI v24))] ⟨rfl, rfl, rfl, trivial⟩ ?_
          exact ihA v24 _ (by omega) (by omega) ⟨fndF_tr F h16.1, fun L hL q => by rcases h16.2 with ⟨z1, -⟩ | ⟨-, z2⟩; (· omega); (· have a := z2 L ((fndF_pln F o).mpr hL); have c := hno L hL; omega)⟩
        · refine q_iload_n C 2 dX6_plans_22 rfl rfl ?_
          rcases h16 with ⟨F2, ⟨z1, L, hL, hl, hc, hx⟩ | ⟨z1, -⟩⟩
          · have hL2 := (fndF_pln F o).mp hL
            exact q_iretI C dX6_plans_23 (by omega) (by decide) ⟨fndF_tr F F2, Or.inl ⟨L, lea_of o x4 (by omega) hL2 (by omega) (fun L' hL' q => hno L' hL' (by omega)) (fun L' hL' e => hx L' ((fndF_pln F o).mpr hL') e), hl.symm, hc⟩⟩
          · omega
  refine q_loc [(0, .ref (ω.1 23)), (1, .int (iI b)), (2, .int (iI v1))] ⟨rfl, rfl, rfl, trivial⟩ ?_
  exact loopA ((10 - v1).toNat + 1) v1 _ (by omega) (by omega) ⟨fndF_0 g, fun L _ => by omega⟩
set_option maxRecDepth 20000 in
theorem KX6_makes (g : qHp) (n : Int) (hn : -2147483648 ≤ n ∧ n < 2147483648) (o : yK g 0) (w : Int → Int) (pn : Int → Bool) (b : Int) (L : List Int) (z : St) (hl : L.length ≤ 4) (hnl : n = L.length) (hc : ∀ i : Nat, i < L.length → L[i]? = some (g 31 (i : Int))) (hrun : runR (g 23 2) (cut4 (g 24)) w pn b L (stM g 0) z) : qC yX6_makes (.code yX6_makes cX6_makes 3 none) 2 0 (fun ad => [.ref (ad 23), .int (iI n)]) g (qPv (fun g' : qHp => mkQ g g' L.length z)) qNo := by
  refine q_meth (by decide +kernel) rfl (fun _ => (Nat.le_of_ble_eq_true rfl)) (fun X ω C => ?_)
  refine q_nm (fun hn => ?_)
  have r23_12 : (-2147483648) ≤ g 23 12 ∧ g 23 12 ≤ 2147483647 := hn 23 12
  refine q_loc [(0, .ref (ω.1 23)), (1, .int (iI n))] ⟨rfl, rfl, trivial⟩ ?_
  refine q_iconst C dX6_makes_0 ?_
  refine q_istoreV_n C 2 dX6_makes_1 rfl (by decide) (fun v1 e1 => ?_)
  have loopA : ∀ (nA : Nat) (i : Int) (g1 : qHp) (PP : List Int) (RR : List Int) (y : St), (((L.length : Int) - i) < (nA : Int)) → (0 ≤ i ∧ i = PP.length ∧ PP.length ≤ L.length) → (L = PP ++ RR ∧ runR (g 23 2) (cut4 (g 24)) w pn b RR y z ∧ mkQ g g1 i y) → qT X ω 3 0 (qEnd X ω (qPv (fun g' : qHp => mkQ g g' L.length z)) qNo 0) g1 2 [(0, .ref (ω.1 23)), (1, .int (iI n)), (2, .int (iI i))] [] := by
    intro nA
    induction nA with
    | zero => intro i g1 PP RR y hmA hi hI; exfalso; omega
    | succ nA ihA =>
      intro i g1 PP RR y hmA hi hI
      refine q_iload_n C 2 dX6_makes_2 rfl rfl ?_
      refine q_iload_n C 1 dX6_makes_3 rfl rfl ?_
      refine q_icmp_ge C 44 dX6_makes_4 (by decide) (by omega) (by omega) (fun c4 => ?_) (fun c4 => ?_)
      · obtain ⟨hL, hr1, Q⟩ := hI
        have hz : RR = [] := by
          have e := congrArg List.length hL
          rw [List.length_append] at e
          exact List.length_eq_zero_iff.mp (by omega)
        subst hz
        have hr1 : y = z := hr1
        subst hr1
        have e : i = (L.length : Int) := by omega
        subst e
        exact q_retV C dX6_makes_44 (by decide) Q
      · obtain ⟨hL, hr1, Q⟩ := hI
        obtain ⟨mm, R2, hR, hat, hL2⟩ := cons_at hL (by omega)
        subst hR
        obtain ⟨a', ⟨s, t, x, hmv, hxb, ok, rfl⟩, hr2⟩ := hr1
        have o1 := Q.2.2.2.1
        have S := mkQ_s Q ok
        have hmm : g1 31 i = mm := by
          have q := hc PP.length (by omega)
          rw [hat] at q
          rw [Q.1 31 (by decide) (by decide) (by decide), hi.2.1]
          simpa using q.symm
        obtain ⟨k1, k2, k3, k4, -⟩ := id ok
        have hc4 := o.1
        refine q_aload_n C 0 dX6_makes_7 rfl rfl ?_
        refine q_iconst C dX6_makes_8 ?_
        refine q_aload_n C 0 dX6_makes_9 rfl rfl ?_
        refine q_getr C (b := 23) 11 rfl (by decide) rfl in_X6 (by decide) fl_X6_33 rfl dX6_makes_10 ?_
        refine q_iload_n C 2 dX6_makes_13 rfl rfl ?_
        refine q_iald C (b := 31) (n := 6) 0 79 rfl (by decide) (by decide) (by omega) (fun _ => rfl) dX6_makes_14 (fun v14 e14 l14 u14 => ?_)
        refine q_iconst C dX6_makes_15 ?_
        have hx4 : v14 / 4 = x := by omega
        refine q_idiv C dX6_makes_16 (by omega) (by omega) ?_
        refine q_aload_n C 0 dX6_makes_17 rfl rfl ?_
        refine q_getr C (b := 23) 11 rfl (by decide) rfl in_X6 (by decide) fl_X6_33 rfl dX6_makes_18 ?_
        refine q_iload_n C 2 dX6_makes_21 rfl rfl ?_
        refine q_iald C (b := 31) (n := 6) 0 79 rfl (by decide) (by decide) (by omega) (fun _ => rfl) dX6_makes_22 (fun v22 e22 l22 u22 => ?_)
        refine q_iconst C dX6_makes_23 ?_
        refine q_irem C dX6_makes_24 (by omega) (by omega) ?_
        have ht4 : v22 % 4 = t := by omega
        have ok1 : okM (g1 23 2) (cut4 (g1 24)) w pn (stM g1 0) (soS (stM g1 0) (v14 / 4)) (v22 % 4) (v14 / 4) := by rw [hx4, ht4]; exact S.1
        refine q_Vv0 C (KX6_moves _ _ (by omega) _ (by omega) _ (by omega) (by omega) o1 _ _ ok1) mX6_moves ml_X6_95 dX6_makes_25 (by decide) (by decide) rfl rfl rfl (Nat.le_of_ble_eq_true rfl) rfl (by decide) rfl rfl ?_
        refine q_aload_n C 0 dX6_makes_28 rfl rfl ?_
        refine q_dup C dX6_makes_29 rfl ?_
        refine q_geti C (b := 23) 12 12 (-2147483648) 2147483647 rfl (by decide) rfl in_X6 (by decide) fl_X6_108 rfl rfl rfl dX6_makes_30 (fun v30 e30 l30 u30 => ?_)
        refine q_iconst C dX6_makes_33 ?_
        refine q_iadd C dX6_makes_34 ?_
        refine q_puti C (b := 23) 12 12 (-2147483648) 2147483647 (w32 (mvM g1 0 (soS (stM g1 0) (v14 / 4)) (v22 % 4) (v14 / 4) 23 12 + 1)) rfl (by decide) rfl in_X6 tyX6_ok nmX6 (by decide) fl_X6_108 rfl (by decide +kernel) rfl rfl rfl (by rw [e30]; exact w32_iI _) (w32_rng _) dX6_makes_35 ?_
        have S2 := S.2.2
        rw [← hx4, ← ht4] at S2
        refine q_iinc C dX6_makes_38 rfl (by decide) (fun v38 e38 => ?_)
        refine q_goto C 2 dX6_makes_41 (by decide) ?_
        refine q_loc [(0, .ref (ω.1 23)), (1, .int (iI n)), (2, .int (iI v38))] ⟨rfl, rfl, rfl, trivial⟩ ?_
        exact ihA v38 _ (PP ++ [mm]) R2 (doM y s (v22 % 4) (v14 / 4)) (by omega) (by have e := congrArg List.length hL2; rw [List.length_append] at e; rw [List.length_append] at e ⊢; simp only [List.length_cons, List.length_nil] at e ⊢; omega) ⟨hL2, by rw [hx4, ht4]; exact hr2, by rw [e38]; exact S2⟩
  refine q_loc [(0, .ref (ω.1 23)), (1, .int (iI n)), (2, .int (iI v1))] ⟨rfl, rfl, rfl, trivial⟩ ?_
  exact loopA (((L.length : Int) - v1).toNat + 1) v1 _ [] L _ (by omega) (by subst e1; exact ⟨by omega, rfl, by simp⟩) (by subst e1; exact ⟨rfl, hrun, mkQ_0 r23_12 o⟩)
