/-! the reference: moves and copies of its yards -/
theorem soS_rng (z : St) (x : Int) : soS z x = -1 ∨ ((0 ≤ soS z x ∧ soS z x < 4) ∧ x ∈ z (soS z x)) := by
  unfold soS
  by_cases h0 : x ∈ z 0
  · rw [if_pos h0]
    exact Or.inr ⟨by decide, h0⟩
  · rw [if_neg h0]
    by_cases h1 : x ∈ z 1
    · rw [if_pos h1]
      exact Or.inr ⟨by decide, h1⟩
    · rw [if_neg h1]
      by_cases h2 : x ∈ z 2
      · rw [if_pos h2]
        exact Or.inr ⟨by decide, h2⟩
      · rw [if_neg h2]
        by_cases h3 : x ∈ z 3
        · rw [if_pos h3]
          exact Or.inr ⟨by decide, h3⟩
        · rw [if_neg h3]
          exact Or.inl rfl
theorem yOK_soS {c : Int} {r h p so : Int → Int} (o : yOK c r h p so) : yOK c r h p (soS (stOf h p)) := by
  have o0 := o
  obtain ⟨o1, o2, o3, o4, o5, o6, o7⟩ := o
  refine ⟨o1, o2, o3, o4, o5, fun s x hx => ?_, fun x a b hx => ?_⟩
  · have hs := o5.2.2.2.2 s x hx
    have hb := o5.2.2.1 s x hx
    rw [soS_so o0]
    unfold ySt
    rw [if_pos hb]
    exact o6 s x hx
  · rcases soS_rng (stOf h p) x with q | q
    · exact absurd q hx
    · exact q.2
/-- yard y of the reference is in order -/
def yK (g : qHp) (y : Int) : Prop := yOK (g 23 2) (g 24) (hM g y) (pM g y) (soS (stM g y))
theorem yK_of {g : qHp} {y : Int} {so : Int → Int} (o : yOK (g 23 2) (g 24) (hM g y) (pM g y) so) : yK g y := yOK_soS o
/-- yards that agree on their cells -/
theorem yK_eq {g g' : qHp} {y y' : Int} (e1 : g' 23 2 = g 23 2) (e2 : g' 24 = g 24) (e3 : ∀ j, 0 ≤ j → j < 4 → g' 29 (4 * y' + j) = g 29 (4 * y + j)) (e4 : ∀ j, 0 ≤ j → j < 16 → g' 30 (16 * y' + j) = g 30 (16 * y + j)) (o : yK g y) : yK g' y' ∧ stM g' y' = stM g y := by
  have h := yOK_eq (r' := g 24) (h' := hM g' y') (p' := pM g' y') (so' := soS (stM g y)) (fun _ _ _ => rfl) e3 e4 (fun _ _ _ => rfl) o
  refine ⟨?_, h.2⟩
  have h1 := h.1
  rw [← e1, ← e2] at h1
  exact yK_of h1
def mvM (g : qHp) (y p s b : Int) : qHp := qUp (qUp (qUp g 29 (4 * y + p) (g 29 (4 * y + p) - 1)) 30 (16 * y + 4 * s + g 29 (4 * y + s)) b) 29 (4 * y + s) (g 29 (4 * y + s) + 1)
theorem mvM_ok {g : qHp} {w : Int → Int} {pn : Int → Bool} {y p s b : Int} (o : yK g y) (k : okM (g 23 2) (cut4 (g 24)) w pn (stM g y) p s b) : stM (mvM g y p s b) y = doM (stM g y) p s b ∧ yK (mvM g y p s b) y ∧ (∀ k, k ≠ 29 → k ≠ 30 → mvM g y p s b k = g k) ∧ (0 ≤ p ∧ p < 4) ∧ (0 ≤ s ∧ s < 4) ∧ (0 ≤ b ∧ b < 20) ∧ p ≠ s ∧ g 29 (4 * y + s) < 4 ∧ 0 < g 29 (4 * y + p) ∧ soS (stM g y) b = p := by
  obtain ⟨q1, q2, q3, q4, q5, q6, q7, q8, q9⟩ := okM_in o k
  have m := yOK_mv o k
  have r : ∀ k, k ≠ 29 → k ≠ 30 → mvM g y p s b k = g k := by
    intro k h1 h2
    unfold mvM
    rw [qUp_row h1, qUp_row h2, qUp_row h1]
  have e1 : hM (mvM g y p s b) y = uI (uI (hM g y) p (hM g y p - 1)) s (hM g y s + 1) := by
    funext j
    show mvM g y p s b 29 (4 * y + j) = _
    unfold mvM
    by_cases js : j = s
    · subst js
      rw [qUp_s, uI_s]
    · rw [qUp_j (by omega), qUp_k (by decide), uI_n js]
      by_cases jp : j = p
      · subst jp
        rw [qUp_s, uI_s]
      · rw [qUp_j (by omega), uI_n jp]
  have e2 : pM (mvM g y p s b) y = uI (pM g y) (s * 4 + hM g y s) b := by
    funext j
    show mvM g y p s b 30 (16 * y + j) = uI (pM g y) (s * 4 + g 29 (4 * y + s)) b j
    unfold mvM
    by_cases js : j = s * 4 + g 29 (4 * y + s)
    · rw [js, uI_s, qUp_k (by decide), show 16 * y + (s * 4 + g 29 (4 * y + s)) = 16 * y + 4 * s + g 29 (4 * y + s) by omega, qUp_s]
    · rw [qUp_k (by decide), qUp_j (by omega), qUp_k (by decide), uI_n js]
  have e3 : stM (mvM g y p s b) y = doM (stM g y) p s b := by
    show stOf (hM (mvM g y p s b) y) (pM (mvM g y p s b) y) = _
    rw [e1, e2]
    exact m.2
  refine ⟨e3, ?_, r, q1, q2, q9, q3, q7, q4, q8⟩
  have m1 := m.1
  rw [← e1, ← e2, ← r 24 (by decide) (by decide), show g 23 2 = mvM g y p s b 23 2 by rw [r 23 (by decide) (by decide)]] at m1
  exact yK_of m1
/-- the other yards stay -/
theorem mvM_ot {g : qHp} {y y' p s b : Int} (hp : 0 ≤ p ∧ p < 4) (hs : 0 ≤ s ∧ s < 4) (h4 : 0 ≤ g 29 (4 * y + s) ∧ g 29 (4 * y + s) < 4) (hy : y' ≠ y) (o : yK g y') : yK (mvM g y p s b) y' ∧ stM (mvM g y p s b) y' = stM g y' := by
  have r : ∀ k, k ≠ 29 → k ≠ 30 → mvM g y p s b k = g k := by
    intro k h1 h2
    unfold mvM
    rw [qUp_row h1, qUp_row h2, qUp_row h1]
  refine yK_eq (by rw [r 23 (by decide) (by decide)]) (r 24 (by decide) (by decide)) (fun j a c => ?_) (fun j a c => ?_) o
  · unfold mvM
    rw [qUp_j (by omega), qUp_k (by decide), qUp_j (by omega)]
  · unfold mvM
    rw [qUp_k (by decide), qUp_j (by omega), qUp_k (by decide)]
/-- yard t is made like yard f -/
def cpQ (g g' : qHp) (f t : Int) : Prop := (∀ j, 0 ≤ j → j < 4 → g' 29 (4 * t + j) = g 29 (4 * f + j)) ∧ (∀ j, 0 ≤ j → j < 16 → g' 30 (16 * t + j) = g 30 (16 * f + j)) ∧ (∀ j, ¬ (4 * t ≤ j ∧ j < 4 * t + 4) → g' 29 j = g 29 j) ∧ (∀ j, ¬ (16 * t ≤ j ∧ j < 16 * t + 16) → g' 30 j = g 30 j) ∧ ∀ k, k ≠ 29 → k ≠ 30 → g' k = g k
theorem cpQ_t {g g' : qHp} {f t : Int} (Q : cpQ g g' f t) (o : yK g f) : yK g' t ∧ stM g' t = stM g f := by
  obtain ⟨a1, a2, a3, a4, a5⟩ := Q
  exact yK_eq (by rw [a5 23 (by decide) (by decide)]) (a5 24 (by decide) (by decide)) a1 a2 o
theorem cpQ_o {g g' : qHp} {f t y : Int} (Q : cpQ g g' f t) (hy : y ≠ t) (o : yK g y) : yK g' y ∧ stM g' y = stM g y := by
  obtain ⟨a1, a2, a3, a4, a5⟩ := Q
  exact yK_eq (by rw [a5 23 (by decide) (by decide)]) (a5 24 (by decide) (by decide)) (fun j a c => a3 _ (by omega)) (fun j a c => a4 _ (by omega)) o
set_option maxRecDepth 20000 in
theorem KX6_lays (g : qHp) (y : Int) (hy : -2147483648 ≤ y ∧ y < 2147483648) (s : Int) (hs : -2147483648 ≤ s ∧ s < 2147483648) (b : Int) (hb : -2147483648 ≤ b ∧ b < 2147483648) (hy2 : 0 ≤ y ∧ y < 6) (hs2 : 0 ≤ s ∧ s < 4) (hb2 : 0 ≤ b ∧ b < 20) (h4 : 0 ≤ g 29 (4 * y + s) ∧ g 29 (4 * y + s) < 4) : qC yX6_lays (.code yX6_lays cX6_lays 4 none) 0 0 (fun ad => [.ref (ad 23), .int (iI y), .int (iI s), .int (iI b)]) g (qPv (fun g' : qHp => g' = (qUp (qUp g 30 (16 * y + 4 * s + g 29 (4 * y + s)) b) 29 (4 * y + s) (g 29 (4 * y + s) + 1)))) qNo := by
  refine q_meth (by decide +kernel) rfl (fun _ => (Nat.le_of_ble_eq_true rfl)) (fun X ω C => ?_)
  refine q_loc [(0, .ref (ω.1 23)), (1, .int (iI y)), (2, .int (iI s)), (3, .int (iI b))] ⟨rfl, rfl, rfl, rfl, trivial⟩ ?_
  refine q_aload_n C 0 dX6_lays_0 rfl rfl ?_
  refine q_getr C (b := 23) 10 rfl (by decide) rfl in_X6 (by decide) fl_X6_30 rfl dX6_lays_1 ?_
  refine q_bipush C dX6_lays_4 (by decide +kernel) ?_
  refine q_iload_n C 1 dX6_lays_6 rfl rfl ?_
  refine q_imul C dX6_lays_7 ?_
  refine q_iconst C dX6_lays_8 ?_
  refine q_iload_n C 2 dX6_lays_9 rfl rfl ?_
  refine q_imul C dX6_lays_10 ?_
  refine q_iadd C dX6_lays_11 ?_
  refine q_aload_n C 0 dX6_lays_12 rfl rfl ?_
  refine q_getr C (b := 23) 9 rfl (by decide) rfl in_X6 (by decide) fl_X6_27 rfl dX6_lays_13 ?_
  refine q_iconst C dX6_lays_16 ?_
  refine q_iload_n C 1 dX6_lays_17 rfl rfl ?_
  refine q_imul C dX6_lays_18 ?_
  refine q_iload_n C 2 dX6_lays_19 rfl rfl ?_
  refine q_iadd C dX6_lays_20 ?_
  refine q_iald C (b := 29) (n := 24) 0 4 rfl (by decide) (by decide) (by omega) (fun _ => rfl) dX6_lays_21 (fun v21 e21 l21 u21 => ?_)
  refine q_iadd C dX6_lays_22 ?_
  refine q_iload_n C 3 dX6_lays_23 rfl rfl ?_
  refine q_iast C (b := 30) (n := 96) rfl (by decide) (by decide) (by omega)  (show 0 ≤ _ ∧ _ ≤ 19 from (by omega)) dX6_lays_24 ?_
  refine q_aload_n C 0 dX6_lays_25 rfl rfl ?_
  refine q_getr C (b := 23) 9 rfl (by decide) rfl in_X6 (by decide) fl_X6_27 rfl dX6_lays_26 ?_
  refine q_iconst C dX6_lays_29 ?_
  refine q_iload_n C 1 dX6_lays_30 rfl rfl ?_
  refine q_imul C dX6_lays_31 ?_
  refine q_iload_n C 2 dX6_lays_32 rfl rfl ?_
  refine q_iadd C dX6_lays_33 ?_
  refine q_dup2 C dX6_lays_34 rfl rfl ?_
  refine q_iald C (b := 29) (n := 24) 0 4 rfl (by decide) (by decide) (by omega) (fun _ => rfl) dX6_lays_35 (fun v35 e35 l35 u35 => ?_)
  have q35 : v35 = g 29 (4 * y + s) := by rw [e35, qUp_k (by decide)]
  refine q_iconst C dX6_lays_36 ?_
  refine q_iadd C dX6_lays_37 ?_
  refine q_iast C (b := 29) (n := 24) rfl (by decide) (by decide) (by omega)  (show 0 ≤ _ ∧ _ ≤ 4 from (by omega)) dX6_lays_38 ?_
  subst e21
  exact q_retV C dX6_lays_39 (by decide) (by rw [q35])
