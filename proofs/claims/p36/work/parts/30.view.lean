/-! the class's heap as the abstract yard -/
theorem row_ext {V W : qHp} (h0 : V 0 = W 0) (h1 : V 1 = W 1) (h2 : V 2 = W 2) (h3 : V 3 = W 3) (h4 : V 4 = W 4) (h5 : V 5 = W 5) (h6 : V 6 = W 6) (h7 : V 7 = W 7) (h8 : V 8 = W 8) (h9 : ∀ k : Nat, V (k + 9) = W (k + 9)) : V = W := by
  funext k
  match k with
  | 0 => exact h0
  | 1 => exact h1
  | 2 => exact h2
  | 3 => exact h3
  | 4 => exact h4
  | 5 => exact h5
  | 6 => exact h6
  | 7 => exact h7
  | 8 => exact h8
  | n + 9 => exact h9 n
section VAG
variable {g g' : qHp}
theorem vA_r0 (e1 : g' 0 4 = g 0 4) (e2 : g' 0 5 = g 0 5) (e3 : g' 0 6 = g 0 6) (e4 : g' 5 5 = g 5 5) (e5 : g' 1 3 = g 1 3) (e6 : g' 18 4 = g 18 4) : vA g' 0 = vA g 0 := by
  funext j
  show (if j = 0 then g' 0 4 else if j = 1 then g' 0 5 else if j = 2 then g' 0 6 else if j = 3 then g' 5 5 else if j = 4 then g' 1 3 else if j = 5 then g' 18 4 else 0) = _
  rw [e1, e2, e3, e4, e5, e6]
  rfl
theorem vA_r1 (e : g' 6 = g 6) : vA g' 1 = vA g 1 := by
  show cut4 (g' 6) = _
  rw [e]
  rfl
theorem vA_r2 (e : g' 1 3 = g 1 3) (e2 : g' 2 = g 2) : vA g' 2 = vA g 2 := by
  show cGet (g' 1 3) (g' 2) 0 = _
  rw [e, e2]
  rfl
theorem vA_r3 (e : g' 1 3 = g 1 3) (e2 : g' 3 = g 3) : vA g' 3 = vA g 3 := by
  show cGet (g' 1 3) (g' 3) 45 = _
  rw [e, e2]
  rfl
theorem vA_r4 (e : g' 1 3 = g 1 3) (e2 : g' 3 = g 3) (e3 : g' 4 = g 4) : vA g' 4 = vA g 4 := by
  show (fun x => if cGet (g' 1 3) (g' 3) 45 x = 45 then 0 else g' 4 x) = _
  rw [e, e2, e3]
  rfl
theorem vA_r5 (e : g' 18 4 = g 18 4) (e2 : g' 19 = g 19) : vA g' 5 = vA g 5 := by
  show cGet (g' 18 4) (g' 19) (-1) = _
  rw [e, e2]
  rfl
theorem vA_r6 (e : g' 18 4 = g 18 4) (e2 : g' 20 = g 20) : vA g' 6 = vA g 6 := by
  show cGet (g' 18 4) (g' 20) (-1) = _
  rw [e, e2]
  rfl
theorem vA_r7 (e : g' 18 4 = g 18 4) (e2 : g' 21 = g 21) : vA g' 7 = vA g 7 := by
  show cGet (g' 18 4) (g' 21) (-1) = _
  rw [e, e2]
  rfl
theorem vA_r8 (e : g' 18 4 = g 18 4) (e2 : g' 22 = g 22) : vA g' 8 = vA g 8 := by
  show cGet (g' 18 4) (g' 22) 99 = _
  rw [e, e2]
  rfl
theorem vA_all (e0 : g' 0 4 = g 0 4) (e1 : g' 0 5 = g 0 5) (e2 : g' 0 6 = g 0 6) (e55 : g' 5 5 = g 5 5) (h : ∀ k, k ≠ 0 → k ≠ 5 → k ≠ 7 → k ≠ 8 → k ≠ 9 → k < 10 ∨ 18 ≤ k → g' k = g k) : vA g' = vA g := by
  have c1 := h 1 (by decide) (by decide) (by decide) (by decide) (by decide) (by decide)
  have c2 := h 2 (by decide) (by decide) (by decide) (by decide) (by decide) (by decide)
  have c3 := h 3 (by decide) (by decide) (by decide) (by decide) (by decide) (by decide)
  have c4 := h 4 (by decide) (by decide) (by decide) (by decide) (by decide) (by decide)
  have c6 := h 6 (by decide) (by decide) (by decide) (by decide) (by decide) (by decide)
  have c18 := h 18 (by decide) (by decide) (by decide) (by decide) (by decide) (by decide)
  have c19 := h 19 (by decide) (by decide) (by decide) (by decide) (by decide) (by decide)
  have c20 := h 20 (by decide) (by decide) (by decide) (by decide) (by decide) (by decide)
  have c21 := h 21 (by decide) (by decide) (by decide) (by decide) (by decide) (by decide)
  have c22 := h 22 (by decide) (by decide) (by decide) (by decide) (by decide) (by decide)
  have d1 : g' 1 3 = g 1 3 := by rw [c1]
  have d18 : g' 18 4 = g 18 4 := by rw [c18]
  exact row_ext (vA_r0 e0 e1 e2 e55 d1 d18) (vA_r1 c6) (vA_r2 d1 c2) (vA_r3 d1 c3) (vA_r4 d1 c3 c4) (vA_r5 d18 c19) (vA_r6 d18 c20) (vA_r7 d18 c21) (vA_r8 d18 c22) (fun _ => rfl)
theorem vA_fr (h : frK g g') : vA g' = vA g ∧ stA g' = stA g := by
  refine ⟨vA_all (by rw [h 0 (by decide)]) (by rw [h 0 (by decide)]) (by rw [h 0 (by decide)]) (by rw [h 5 (by decide)]) (fun k _ _ _ _ _ hk => h k hk), ?_⟩
  unfold stA
  rw [h 7 (by decide), h 8 (by decide)]
theorem vA_turn {a t : Int} (h : 0 ≤ a ∧ a < g 18 4) : vA (qUp g 22 a t) = qUp (vA g) 8 a t ∧ stA (qUp g 22 a t) = stA g := by
  have e : ∀ k, k ≠ 22 → qUp g 22 a t k = g k := fun k hk => qUp_row hk
  have d1 : qUp g 22 a t 1 3 = g 1 3 := by rw [e 1 (by decide)]
  have d18 : qUp g 22 a t 18 4 = g 18 4 := by rw [e 18 (by decide)]
  refine ⟨row_ext ?_ ?_ ?_ ?_ ?_ ?_ ?_ ?_ ?_ (fun k => ?_), ?_⟩
  · rw [qUp_row (show (0 : Nat) ≠ 8 by decide)]
    exact vA_r0 (by rw [e 0 (by decide)]) (by rw [e 0 (by decide)]) (by rw [e 0 (by decide)]) (by rw [e 5 (by decide)]) d1 d18
  · rw [qUp_row (show (1 : Nat) ≠ 8 by decide)]
    exact vA_r1 (e 6 (by decide))
  · rw [qUp_row (show (2 : Nat) ≠ 8 by decide)]
    exact vA_r2 d1 (e 2 (by decide))
  · rw [qUp_row (show (3 : Nat) ≠ 8 by decide)]
    exact vA_r3 d1 (e 3 (by decide))
  · rw [qUp_row (show (4 : Nat) ≠ 8 by decide)]
    exact vA_r4 d1 (e 3 (by decide)) (e 4 (by decide))
  · rw [qUp_row (show (5 : Nat) ≠ 8 by decide)]
    exact vA_r5 d18 (e 19 (by decide))
  · rw [qUp_row (show (6 : Nat) ≠ 8 by decide)]
    exact vA_r6 d18 (e 20 (by decide))
  · rw [qUp_row (show (7 : Nat) ≠ 8 by decide)]
    exact vA_r7 d18 (e 21 (by decide))
  · funext j
    show cGet (qUp g 22 a t 18 4) (qUp g 22 a t 22) 99 j = _
    rw [d18, qUp_u, qUp_u]
    show cGet (g 18 4) (uI (g 22) a t) 99 j = uI (cGet (g 18 4) (g 22) 99) a t j
    by_cases q : j = a
    · subst q
      rw [uI_s, cGet_in h, uI_s]
    · rw [uI_n q]
      unfold cGet
      rw [uI_n q]
  · rw [qUp_row (by omega)]
    rfl
  · unfold stA
    rw [e 7 (by decide), e 8 (by decide)]
theorem vA_gone (u : Int) : vA (qUp g 0 6 u) = qUp (vA g) 0 2 u ∧ stA (qUp g 0 6 u) = stA g := by
  have e : ∀ k, k ≠ 0 → qUp g 0 6 u k = g k := fun k hk => qUp_row hk
  have d1 : qUp g 0 6 u 1 3 = g 1 3 := by rw [e 1 (by decide)]
  have d18 : qUp g 0 6 u 18 4 = g 18 4 := by rw [e 18 (by decide)]
  refine ⟨row_ext ?_ ?_ ?_ ?_ ?_ ?_ ?_ ?_ ?_ (fun k => ?_), ?_⟩
  · rw [qUp_u]
    funext j
    show (if j = 0 then qUp g 0 6 u 0 4 else if j = 1 then qUp g 0 6 u 0 5 else if j = 2 then qUp g 0 6 u 0 6 else if j = 3 then qUp g 0 6 u 5 5 else if j = 4 then qUp g 0 6 u 1 3 else if j = 5 then qUp g 0 6 u 18 4 else 0) = _
    rw [qUp_j (by decide), qUp_j (by decide), qUp_s, qUp_k (by decide), qUp_k (by decide), qUp_k (by decide)]
    by_cases q : j = 2
    · subst q
      rw [uI_s]
      rfl
    · rw [uI_n q, if_neg (show ¬ j = 2 from q)]
      show _ = (if j = 0 then g 0 4 else if j = 1 then g 0 5 else if j = 2 then g 0 6 else if j = 3 then g 5 5 else if j = 4 then g 1 3 else if j = 5 then g 18 4 else 0)
      rw [if_neg (show ¬ j = 2 from q)]
  · rw [qUp_row (by decide)]
    exact vA_r1 (e 6 (by decide))
  · rw [qUp_row (by decide)]
    exact vA_r2 d1 (e 2 (by decide))
  · rw [qUp_row (by decide)]
    exact vA_r3 d1 (e 3 (by decide))
  · rw [qUp_row (by decide)]
    exact vA_r4 d1 (e 3 (by decide)) (e 4 (by decide))
  · rw [qUp_row (by decide)]
    exact vA_r5 d18 (e 19 (by decide))
  · rw [qUp_row (by decide)]
    exact vA_r6 d18 (e 20 (by decide))
  · rw [qUp_row (by decide)]
    exact vA_r7 d18 (e 21 (by decide))
  · rw [qUp_row (by decide)]
    exact vA_r8 d18 (e 22 (by decide))
  · rw [qUp_row (by omega)]
    rfl
  · unfold stA
    rw [e 7 (by decide), e 8 (by decide)]
theorem vA_mv {n : Int} {z : St} (Q : mvQ g g' n z) : vA g' = qUp (vA g) 0 1 (w32 (g 0 5 + n)) ∧ stA g' = z := by
  obtain ⟨a1, a2, a3, a4, a5, a6, a7⟩ := Q
  refine ⟨?_, a7⟩
  have b1 := a1 1 (by decide) (by decide) (by decide) (by decide) (by decide)
  have b18 := a1 18 (by decide) (by decide) (by decide) (by decide) (by decide)
  have d1 : g' 1 3 = g 1 3 := by rw [b1]
  have d18 : g' 18 4 = g 18 4 := by rw [b18]
  refine row_ext ?_ ?_ ?_ ?_ ?_ ?_ ?_ ?_ ?_ (fun k => ?_)
  · rw [qUp_u]
    funext j
    show (if j = 0 then g' 0 4 else if j = 1 then g' 0 5 else if j = 2 then g' 0 6 else if j = 3 then g' 5 5 else if j = 4 then g' 1 3 else if j = 5 then g' 18 4 else 0) = _
    rw [a2 4 (by decide), a3, a2 6 (by decide), a4, d1, d18]
    by_cases q : j = 1
    · subst q
      rw [uI_s]
      rfl
    · rw [uI_n q, if_neg (show ¬ j = 1 from q)]
      show _ = (if j = 0 then g 0 4 else if j = 1 then g 0 5 else if j = 2 then g 0 6 else if j = 3 then g 5 5 else if j = 4 then g 1 3 else if j = 5 then g 18 4 else 0)
      rw [if_neg (show ¬ j = 1 from q)]
  · rw [qUp_row (by decide)]
    exact vA_r1 (a1 6 (by decide) (by decide) (by decide) (by decide) (by decide))
  · rw [qUp_row (by decide)]
    exact vA_r2 d1 (a1 2 (by decide) (by decide) (by decide) (by decide) (by decide))
  · rw [qUp_row (by decide)]
    exact vA_r3 d1 (a1 3 (by decide) (by decide) (by decide) (by decide) (by decide))
  · rw [qUp_row (by decide)]
    exact vA_r4 d1 (a1 3 (by decide) (by decide) (by decide) (by decide) (by decide)) (a1 4 (by decide) (by decide) (by decide) (by decide) (by decide))
  · rw [qUp_row (by decide)]
    exact vA_r5 d18 (a1 19 (by decide) (by decide) (by decide) (by decide) (by decide))
  · rw [qUp_row (by decide)]
    exact vA_r6 d18 (a1 20 (by decide) (by decide) (by decide) (by decide) (by decide))
  · rw [qUp_row (by decide)]
    exact vA_r7 d18 (a1 21 (by decide) (by decide) (by decide) (by decide) (by decide))
  · rw [qUp_row (by decide)]
    exact vA_r8 d18 (a1 22 (by decide) (by decide) (by decide) (by decide) (by decide))
  · rw [qUp_row (by omega)]
    rfl
end VAG
def tk5 (g : qHp) (s : Int) : qHp := (qUp (qUp (qUp g 7 s (g 7 s - 1)) 9 (g 8 (s * 4 + g 7 s - 1)) (-1)) 5 6 (w32 (g 5 6 - 1)))
theorem tk5_rows (g : qHp) (s : Int) : tk5 g s 5 5 = g 5 5 ∧ tk5 g s 5 6 = w32 (g 5 6 - 1) ∧ tk5 g s 7 = uI (g 7) s (g 7 s - 1) ∧ tk5 g s 9 = uI (g 9) (g 8 (s * 4 + g 7 s - 1)) (-1) ∧ ∀ k, k ≠ 5 → k ≠ 7 → k ≠ 9 → tk5 g s k = g k := by
  unfold tk5
  refine ⟨?_, ?_, ?_, ?_, fun k h5 h7 h9 => ?_⟩
  · rw [qUp_j (by decide), qUp_k (by decide), qUp_k (by decide)]
  · rw [qUp_s]
  · rw [qUp_row (by decide), qUp_row (by decide), qUp_u]
  · rw [qUp_row (by decide), qUp_u, qUp_row (by decide)]
  · rw [qUp_row h5, qUp_row h9, qUp_row h7]
theorem vA_tk {g : qHp} {s b : Int} (o : yOK (g 5 5) (g 6) (g 7) (g 8) (g 9)) (hh : (stA g s).head? = some b) : vA (tk5 g s) = vA g ∧ stA (tk5 g s) = tkS (stA g) b ∧ yOK (tk5 g s 5 5) (tk5 g s 6) (tk5 g s 7) (tk5 g s 8) (tk5 g s 9) ∧ (0 ≤ s ∧ s < g 5 5 ∧ g 7 s ≠ 0) ∧ g 9 b = s ∧ tk5 g s 9 = uI (g 9) b (-1) := by
  obtain ⟨k1, k2, k3, k4, k5, k6, k7⟩ := tk_ok o hh
  obtain ⟨r1, r2, r3, r4, r5⟩ := tk5_rows g s
  rw [← k4] at r4
  have e6 := r5 6 (by decide) (by decide) (by decide)
  have e8 := r5 8 (by decide) (by decide) (by decide)
  have e0 := r5 0 (by decide) (by decide) (by decide)
  refine ⟨vA_all (by rw [e0]) (by rw [e0]) (by rw [e0]) r1 (fun k _ h5 h7 _ h9 _ => r5 k h5 h7 h9), ?_, ?_, ⟨k5.1, k5.2, by omega⟩, k6, r4⟩
  · unfold stA
    rw [r3, e8, k2]
  · rw [r1, e6, r3, e8, r4]
    exact k1
/-- the hour comes, holds end -/
theorem vA_eh {g g' : qHp} {h : Int} (e0 : g' 0 = uI (g 0) 4 h) (e3 : ∀ j, g' 3 j = if (0 ≤ j ∧ j < g 1 3 ∧ g 3 j ≠ 45 ∧ g 4 j = h) then 45 else g 3 j) (e4 : ∀ j, g' 4 j = if (0 ≤ j ∧ j < g 1 3 ∧ g 3 j ≠ 45 ∧ g 4 j = h) then 0 else g 4 j) (e : ∀ k, k ≠ 0 → k ≠ 3 → k ≠ 4 → g' k = g k) : vA g' = ehA (vA g) h ∧ stA g' = stA g := by
  have d1 : g' 1 3 = g 1 3 := by rw [e 1 (by decide) (by decide) (by decide)]
  have d18 : g' 18 4 = g 18 4 := by rw [e 18 (by decide) (by decide) (by decide)]
  have er : ∀ k, k ≠ 0 → k ≠ 3 → k ≠ 4 → ehA (vA g) h k = vA g k := by
    intro k h0 h3 h4
    funext j
    unfold ehA
    rw [if_neg h0, if_neg (fun q => h3 q.1), if_neg (fun q => h4 q.1)]
  have hv : ∀ j, (vA g 3 j ≠ 45 ∧ vA g 4 j = h) ↔ (0 ≤ j ∧ j < g 1 3 ∧ g 3 j ≠ 45 ∧ g 4 j = h) := by
    intro j
    show (cGet (g 1 3) (g 3) 45 j ≠ 45 ∧ (if cGet (g 1 3) (g 3) 45 j = 45 then 0 else g 4 j) = h) ↔ _
    by_cases q : 0 ≤ j ∧ j < g 1 3
    · rw [cGet_in q]
      constructor
      · rintro ⟨q1, q2⟩
        rw [if_neg q1] at q2
        exact ⟨q.1, q.2, q1, q2⟩
      · rintro ⟨_, _, q1, q2⟩
        rw [if_neg q1]
        exact ⟨q1, q2⟩
    · have e5 : cGet (g 1 3) (g 3) 45 j = 45 := by unfold cGet; rw [if_neg q]
      rw [e5]
      constructor
      · rintro ⟨q1, -⟩
        exact absurd rfl q1
      · rintro ⟨q1, q2, -⟩
        exact absurd ⟨q1, q2⟩ q
  refine ⟨row_ext ?_ ?_ ?_ ?_ ?_ ?_ ?_ ?_ ?_ (fun k => ?_), ?_⟩
  · funext j
    show (if j = 0 then g' 0 4 else if j = 1 then g' 0 5 else if j = 2 then g' 0 6 else if j = 3 then g' 5 5 else if j = 4 then g' 1 3 else if j = 5 then g' 18 4 else 0) = _
    rw [d1, d18, e 5 (by decide) (by decide) (by decide), e0, uI_s, uI_n (by decide), uI_n (by decide)]
    unfold ehA
    rw [if_pos rfl]
    by_cases q : j = 0
    · rw [if_pos q, if_pos q]
    · rw [if_neg q, if_neg q]
      show _ = (if j = 0 then g 0 4 else if j = 1 then g 0 5 else if j = 2 then g 0 6 else if j = 3 then g 5 5 else if j = 4 then g 1 3 else if j = 5 then g 18 4 else 0)
      rw [if_neg q]
  · rw [er 1 (by decide) (by decide) (by decide)]
    exact vA_r1 (e 6 (by decide) (by decide) (by decide))
  · rw [er 2 (by decide) (by decide) (by decide)]
    exact vA_r2 d1 (e 2 (by decide) (by decide) (by decide))
  · funext j
    show cGet (g' 1 3) (g' 3) 45 j = _
    unfold ehA
    rw [if_neg (by decide), d1]
    by_cases q : 0 ≤ j ∧ j < g 1 3 ∧ g 3 j ≠ 45 ∧ g 4 j = h
    · rw [if_pos ⟨rfl, (hv j).mpr q⟩, cGet_in ⟨q.1, q.2.1⟩, e3, if_pos q]
    · rw [if_neg (fun z => q ((hv j).mp z.2)), if_neg (fun z => absurd z.1 (by decide))]
      show _ = cGet (g 1 3) (g 3) 45 j
      unfold cGet
      rw [e3, if_neg q]
  · funext j
    show (if cGet (g' 1 3) (g' 3) 45 j = 45 then 0 else g' 4 j) = _
    unfold ehA
    rw [if_neg (show ¬ (4 : Nat) = 0 by decide), d1, if_neg (show ¬ ((4 : Nat) = 3 ∧ vA g 3 j ≠ 45 ∧ vA g 4 j = h) from fun z => absurd z.1 (by decide))]
    by_cases q : 0 ≤ j ∧ j < g 1 3 ∧ g 3 j ≠ 45 ∧ g 4 j = h
    · rw [if_pos (show (4 : Nat) = 4 ∧ vA g 3 j ≠ 45 ∧ vA g 4 j = h from ⟨rfl, (hv j).mpr q⟩), cGet_in ⟨q.1, q.2.1⟩, e3, if_pos q, if_pos rfl]
    · rw [if_neg (show ¬ ((4 : Nat) = 4 ∧ vA g 3 j ≠ 45 ∧ vA g 4 j = h) from fun z => q ((hv j).mp z.2))]
      show _ = (if cGet (g 1 3) (g 3) 45 j = 45 then 0 else g 4 j)
      rw [e4, if_neg q]
      unfold cGet
      rw [e3, if_neg q]
  · rw [er 5 (by decide) (by decide) (by decide)]
    exact vA_r5 d18 (e 19 (by decide) (by decide) (by decide))
  · rw [er 6 (by decide) (by decide) (by decide)]
    exact vA_r6 d18 (e 20 (by decide) (by decide) (by decide))
  · rw [er 7 (by decide) (by decide) (by decide)]
    exact vA_r7 d18 (e 21 (by decide) (by decide) (by decide))
  · rw [er 8 (by decide) (by decide) (by decide)]
    exact vA_r8 d18 (e 22 (by decide) (by decide) (by decide))
  · rw [er (k + 9) (by omega) (by omega) (by omega)]
    rfl
  · unfold stA
    rw [e 7 (by decide) (by decide) (by decide), e 8 (by decide) (by decide) (by decide)]
theorem bkA_c {g : qHp} {l h : Int} : bkAL (vA g) l h = fstB (bkL g l h) (g 18 4) := by
  show fstB _ (g 18 4) = _
  refine fstB_congr (fun i a b => ?_)
  show (decide (cGet (g 18 4) (g 22) 99 i = 98) && (decide (cGet (g 18 4) (g 21) (-1) i = l) && decide (cGet (g 18 4) (g 20) (-1) i = h))) = _
  rw [cGet_in ⟨a, b⟩, cGet_in ⟨a, b⟩, cGet_in ⟨a, b⟩]
  rfl
theorem bkB_c {g : qHp} {x : Int} : bkAB (vA g) x = fstB (bkB g x) (g 18 4) := by
  show fstB _ (g 18 4) = _
  refine fstB_congr (fun i a b => ?_)
  show (decide (cGet (g 18 4) (g 22) 99 i = 98) && decide (cGet (g 18 4) (g 19) (-1) i = x)) = _
  rw [cGet_in ⟨a, b⟩, cGet_in ⟨a, b⟩]
  rfl
theorem lmY_ov {g : qHp} {b : Int} (o : yOK (g 5 5) (g 6) (g 7) (g 8) (g 9)) (hin : inY g b) : ∃ n : Nat, ovR (stA g) b n ∧ lmY g b = n + 1 := by
  obtain ⟨hb, e⟩ := ySt_in hin
  obtain ⟨-, -, n, p1, p2, -⟩ := fndP_of o hb (by rw [← e]; exact hin)
  exact ⟨n, p1, p2⟩
theorem leaG_A {g : qHp} {b : Int} {L : List Int} (o : yOK (g 5 5) (g 6) (g 7) (g 8) (g 9)) (hin : inY g b) : leaG g b (lmY g b) L ↔ leaA (vA g) (stA g) b L := by
  obtain ⟨n, h1, h2⟩ := lmY_ov o hin
  constructor
  · intro h
    rw [h2] at h
    exact ⟨n, h1, h⟩
  · rintro ⟨n', a1, a2⟩
    have e := ov_u o.2.2.2.2.1 h1 a1
    subst e
    rw [h2]
    exact a2
theorem noG_A {g : qHp} {b : Int} (o : yOK (g 5 5) (g 6) (g 7) (g 8) (g 9)) (hin : inY g b) (h : ∀ L, plnG g b L → ¬ (L.length : Int) ≤ lmY g b) : noA (vA g) (stA g) b := by
  obtain ⟨n, h1, h2⟩ := lmY_ov o hin
  rw [h2] at h
  exact ⟨n, h1, h⟩
