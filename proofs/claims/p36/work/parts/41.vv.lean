/-! the abstract yard's numbers, out of scalars and rows; both sides give them -/
def vV (nw mv lf c cm ct : Int) (rc wt kd en ab ah al as : Int → Int) : qHp := fun k => match k with
  | 0 => fun j => if j = 0 then nw else if j = 1 then mv else if j = 2 then lf else if j = 3 then c else if j = 4 then cm else if j = 5 then ct else 0
  | 1 => cut4 rc
  | 2 => cGet cm wt 0
  | 3 => cGet cm kd 45
  | 4 => fun x => if cGet cm kd 45 x = 45 then 0 else en x
  | 5 => cGet ct ab (-1)
  | 6 => cGet ct ah (-1)
  | 7 => cGet ct al (-1)
  | 8 => cGet ct as 99
  | _ => fun _ => 0
theorem vA_V (g : qHp) : vA g = vV (g 0 4) (g 0 5) (g 0 6) (g 5 5) (g 1 3) (g 18 4) (g 6) (g 2) (g 3) (g 4) (g 19) (g 20) (g 21) (g 22) := row_ext rfl rfl rfl rfl rfl rfl rfl rfl rfl (fun _ => rfl)
section VV
variable {nw mv lf c cm ct : Int} {rc wt kd en ab ah al as : Int → Int}
theorem vV_0 {nw' mv' lf' c' cm' ct' : Int} {rc' wt' kd' en' ab' ah' al' as' : Int → Int} {W : qHp} (h : ∀ j, vV nw' mv' lf' c' cm' ct' rc' wt' kd' en' ab' ah' al' as' 0 j = W 0 j) (h1 : ∀ j, cut4 rc' j = W 1 j) (h2 : ∀ j, cGet cm' wt' 0 j = W 2 j) (h3 : ∀ j, cGet cm' kd' 45 j = W 3 j) (h4 : ∀ j, (if cGet cm' kd' 45 j = 45 then 0 else en' j) = W 4 j) (h5 : ∀ j, cGet ct' ab' (-1) j = W 5 j) (h6 : ∀ j, cGet ct' ah' (-1) j = W 6 j) (h7 : ∀ j, cGet ct' al' (-1) j = W 7 j) (h8 : ∀ j, cGet ct' as' 99 j = W 8 j) (h9 : ∀ (k : Nat) j, 0 = W (k + 9) j) : vV nw' mv' lf' c' cm' ct' rc' wt' kd' en' ab' ah' al' as' = W :=
  row_ext (funext h) (funext h1) (funext h2) (funext h3) (funext h4) (funext h5) (funext h6) (funext h7) (funext h8) (fun k => funext (h9 k))
theorem qU_r {V : qHp} {k k' : Nat} {j v x : Int} (h : k' ≠ k) : qUp V k j v k' x = V k' x := qUp_k h
theorem vV_s {j : Int} : vV nw mv lf c cm ct rc wt kd en ab ah al as 0 j = if j = 0 then nw else if j = 1 then mv else if j = 2 then lf else if j = 3 then c else if j = 4 then cm else if j = 5 then ct else 0 := rfl
theorem vV_num {u v : Int} : vV nw u v c cm ct rc wt kd en ab ah al as = qUp (qUp (vV nw mv lf c cm ct rc wt kd en ab ah al as) 0 1 u) 0 2 v := by
  refine vV_0 (fun j => ?_) (fun j => ?_) (fun j => ?_) (fun j => ?_) (fun j => ?_) (fun j => ?_) (fun j => ?_) (fun j => ?_) (fun j => ?_) (fun k j => ?_)
  · rw [vV_s]
    by_cases e2 : j = 2
    · subst e2
      rw [qUp_s]
      rfl
    · rw [qUp_j e2]
      by_cases e1 : j = 1
      · subst e1
        rw [qUp_s]
        rfl
      · rw [qUp_j e1, vV_s, if_neg e1, if_neg e1, if_neg e2, if_neg e2]
  all_goals (rw [qUp_k (by omega), qUp_k (by omega)]; rfl)
theorem vV_mv {u : Int} : vV nw u lf c cm ct rc wt kd en ab ah al as = qUp (vV nw mv lf c cm ct rc wt kd en ab ah al as) 0 1 u := by
  refine vV_0 (fun j => ?_) (fun j => ?_) (fun j => ?_) (fun j => ?_) (fun j => ?_) (fun j => ?_) (fun j => ?_) (fun j => ?_) (fun j => ?_) (fun k j => ?_)
  · rw [vV_s]
    by_cases e1 : j = 1
    · subst e1
      rw [qUp_s]
      rfl
    · rw [qUp_j e1, vV_s, if_neg e1, if_neg e1]
  all_goals (rw [qUp_k (by omega)]; rfl)
theorem vV_st {a t : Int} (h : 0 ≤ a ∧ a < ct) : vV nw mv lf c cm ct rc wt kd en ab ah al (uI as a t) = qUp (vV nw mv lf c cm ct rc wt kd en ab ah al as) 8 a t := by
  refine vV_0 (fun j => ?_) (fun j => ?_) (fun j => ?_) (fun j => ?_) (fun j => ?_) (fun j => ?_) (fun j => ?_) (fun j => ?_) (fun j => ?_) (fun k j => ?_)
  all_goals try (rw [qUp_k (by omega)]; rfl)
  by_cases e : j = a
  · subst e
    rw [qUp_s, cGet_in h, uI_s]
  · rw [qUp_j e]
    show cGet ct (uI as a t) 99 j = cGet ct as 99 j
    unfold cGet
    rw [uI_n e]
/-- the hour comes -/
theorem vV_eh {h : Int} {kd' en' : Int → Int} (hk : ∀ j, 0 ≤ j → j < cm → kd' j = if (kd j ≠ 45 ∧ en j = h) then 45 else kd j) (he : ∀ j, 0 ≤ j → j < cm → kd' j ≠ 45 → en' j = en j) : vV h mv lf c cm ct rc wt kd' en' ab ah al as = ehA (vV nw mv lf c cm ct rc wt kd en ab ah al as) h := by
  have er : ∀ k j, k ≠ 0 → k ≠ 3 → k ≠ 4 → ehA (vV nw mv lf c cm ct rc wt kd en ab ah al as) h k j = vV nw mv lf c cm ct rc wt kd en ab ah al as k j := by
    intro k j h0 h3 h4
    unfold ehA
    rw [if_neg h0, if_neg (fun q => h3 q.1), if_neg (fun q => h4 q.1)]
  have e3 : ∀ j, vV nw mv lf c cm ct rc wt kd en ab ah al as 3 j = cGet cm kd 45 j := fun j => rfl
  have e4 : ∀ j, vV nw mv lf c cm ct rc wt kd en ab ah al as 4 j = if cGet cm kd 45 j = 45 then 0 else en j := fun j => rfl
  refine vV_0 (fun j => ?_) (fun j => ?_) (fun j => ?_) (fun j => ?_) (fun j => ?_) (fun j => ?_) (fun j => ?_) (fun j => ?_) (fun j => ?_) (fun k j => ?_)
  · unfold ehA
    rw [if_pos rfl, vV_s]
    by_cases q : j = 0
    · rw [if_pos q, if_pos q]
    · rw [if_neg q, if_neg q, vV_s, if_neg q]
  · rw [er 1 j (by decide) (by decide) (by decide)]
    rfl
  · rw [er 2 j (by decide) (by decide) (by decide)]
    rfl
  · unfold ehA
    rw [if_neg (show ¬ (3 : Nat) = 0 by decide), e3, e4]
    by_cases q : 0 ≤ j ∧ j < cm
    · rw [cGet_in q, cGet_in q, hk j q.1 q.2]
      by_cases q2 : kd j ≠ 45 ∧ en j = h
      · rw [if_pos q2, if_pos ⟨rfl, q2.1, by rw [if_neg q2.1]; exact q2.2⟩]
      · rw [if_neg q2, if_neg (fun z => q2 ⟨z.2.1, by have z3 := z.2.2; rw [if_neg z.2.1] at z3; exact z3⟩), if_neg (fun z => absurd z.1 (by decide))]
    · have e5 : cGet cm kd 45 j = 45 := by unfold cGet; rw [if_neg q]
      have e6 : cGet cm kd' 45 j = 45 := by unfold cGet; rw [if_neg q]
      rw [e5, e6, if_neg (fun z => z.2.1 rfl), if_neg (fun z => absurd z.1 (by decide))]
  · unfold ehA
    rw [if_neg (show ¬ (4 : Nat) = 0 by decide), if_neg (show ¬ ((4 : Nat) = 3 ∧ _ ∧ _) from fun z => absurd z.1 (by decide)), e3, e4]
    by_cases q : 0 ≤ j ∧ j < cm
    · rw [cGet_in q, cGet_in q]
      by_cases q2 : kd j ≠ 45 ∧ en j = h
      · rw [hk j q.1 q.2, if_pos q2, if_pos rfl, if_pos ⟨rfl, q2.1, by rw [if_neg q2.1]; exact q2.2⟩]
      · have ek : kd' j = kd j := by rw [hk j q.1 q.2, if_neg q2]
        rw [ek, if_neg (show ¬ ((4 : Nat) = 4 ∧ _ ∧ _) from fun z => q2 ⟨z.2.1, by have z3 := z.2.2; rw [if_neg z.2.1] at z3; exact z3⟩)]
        by_cases q3 : kd j = 45
        · rw [if_pos q3, if_pos q3]
        · rw [if_neg q3, if_neg q3]
          exact he j q.1 q.2 (by rw [ek]; exact q3)
    · have e5 : cGet cm kd 45 j = 45 := by unfold cGet; rw [if_neg q]
      have e6 : cGet cm kd' 45 j = 45 := by unfold cGet; rw [if_neg q]
      rw [e5, e6, if_neg (show ¬ ((4 : Nat) = 4 ∧ (45 : Int) ≠ 45 ∧ (if (45 : Int) = 45 then 0 else en j) = h) from fun z => z.2.1 rfl), if_pos rfl, if_pos rfl]
  · rw [er 5 j (by decide) (by decide) (by decide)]
    rfl
  · rw [er 6 j (by decide) (by decide) (by decide)]
    rfl
  · rw [er 7 j (by decide) (by decide) (by decide)]
    rfl
  · rw [er 8 j (by decide) (by decide) (by decide)]
    rfl
  · rw [er (k + 9) j (by omega) (by omega) (by omega)]
    rfl
/-- a stack more -/
theorem vV_stack {r : Int} (h : 0 ≤ c ∧ c < 4) : vV nw mv lf (c + 1) cm ct (uI rc c r) wt kd en ab ah al as = qUp (qUp (vV nw mv lf c cm ct rc wt kd en ab ah al as) 0 3 (c + 1)) 1 c r := by
  refine vV_0 (fun j => ?_) (fun j => ?_) (fun j => ?_) (fun j => ?_) (fun j => ?_) (fun j => ?_) (fun j => ?_) (fun j => ?_) (fun j => ?_) (fun k j => ?_)
  · rw [qUp_k (by decide), vV_s]
    by_cases e : j = 3
    · subst e
      rw [qUp_s]
      rfl
    · rw [qUp_j e, vV_s, if_neg e, if_neg e]
  · by_cases e : j = c
    · subst e
      rw [qUp_s, cut4_in h, uI_s]
    · rw [qUp_j e, qUp_k (by decide)]
      show cut4 (uI rc c r) j = cut4 rc j
      unfold cut4
      rw [uI_n e]
  all_goals (rw [qUp_k (by omega), qUp_k (by omega)]; rfl)
/-- a box more -/
theorem vV_box {w : Int} {en' : Int → Int} (h : 0 ≤ cm) (he : ∀ j, 0 ≤ j → j < cm → en' j = en j) : vV nw mv lf c (cm + 1) ct rc (uI wt cm w) (uI kd cm 45) en' ab ah al as = qUp (qUp (vV nw mv lf c cm ct rc wt kd en ab ah al as) 0 4 (cm + 1)) 2 cm w := by
  have ek : ∀ j, cGet (cm + 1) (uI kd cm 45) 45 j = cGet cm kd 45 j := by
    intro j
    unfold cGet
    by_cases e : j = cm
    · subst e
      rw [uI_s, if_neg (show ¬ (0 ≤ j ∧ j < j) by omega), if_pos (by omega)]
    · rw [uI_n e]
      by_cases q : 0 ≤ j ∧ j < cm
      · rw [if_pos q, if_pos (by omega)]
      · rw [if_neg q, if_neg (by omega)]
  refine vV_0 (fun j => ?_) (fun j => ?_) (fun j => ?_) (fun j => ?_) (fun j => ?_) (fun j => ?_) (fun j => ?_) (fun j => ?_) (fun j => ?_) (fun k j => ?_)
  · rw [qUp_k (by decide), vV_s]
    by_cases e : j = 4
    · subst e
      rw [qUp_s]
      rfl
    · rw [qUp_j e, vV_s, if_neg e, if_neg e]
  · rw [qUp_k (by omega), qUp_k (by omega)]
    rfl
  · by_cases e : j = cm
    · subst e
      rw [qUp_s, cGet_in (by omega), uI_s]
    · rw [qUp_j e, qUp_k (by decide)]
      show cGet (cm + 1) (uI wt cm w) 0 j = cGet cm wt 0 j
      unfold cGet
      rw [uI_n e]
      by_cases q : 0 ≤ j ∧ j < cm
      · rw [if_pos q, if_pos (by omega)]
      · rw [if_neg q, if_neg (by omega)]
  · rw [qUp_k (by omega), qUp_k (by omega), ek]
    rfl
  · rw [qUp_k (by omega), qUp_k (by omega), ek]
    show _ = if cGet cm kd 45 j = 45 then 0 else en j
    by_cases q : cGet cm kd 45 j = 45
    · rw [if_pos q, if_pos q]
    · rw [if_neg q, if_neg q]
      by_cases q2 : 0 ≤ j ∧ j < cm
      · exact he j q2.1 q2.2
      · exact absurd (by unfold cGet; rw [if_neg q2]) q
  all_goals (rw [qUp_k (by omega), qUp_k (by omega)]; rfl)
/-- a hold put, or ended (45; then 0) -/
theorem vV_hold {x t u : Int} {en' : Int → Int} (h : 0 ≤ x ∧ x < cm) (hu : u = if t = 45 then 0 else en' x) (he : ∀ j, j ≠ x → en' j = en j) : vV nw mv lf c cm ct rc wt (uI kd x t) en' ab ah al as = qUp (qUp (vV nw mv lf c cm ct rc wt kd en ab ah al as) 3 x t) 4 x u := by
  refine vV_0 (fun j => ?_) (fun j => ?_) (fun j => ?_) (fun j => ?_) (fun j => ?_) (fun j => ?_) (fun j => ?_) (fun j => ?_) (fun j => ?_) (fun k j => ?_)
  · rw [qUp_k (by omega), qUp_k (by omega)]
    rfl
  · rw [qUp_k (by omega), qUp_k (by omega)]
    rfl
  · rw [qUp_k (by omega), qUp_k (by omega)]
    rfl
  · rw [qUp_k (by omega)]
    by_cases e : j = x
    · subst e
      rw [qUp_s, cGet_in h, uI_s]
    · rw [qUp_j e]
      show cGet cm (uI kd x t) 45 j = cGet cm kd 45 j
      unfold cGet
      rw [uI_n e]
  · by_cases e : j = x
    · subst e
      rw [qUp_s, cGet_in h, uI_s, hu]
    · rw [qUp_j e, qUp_k (by decide)]
      show (if cGet cm (uI kd x t) 45 j = 45 then 0 else en' j) = if cGet cm kd 45 j = 45 then 0 else en j
      unfold cGet
      rw [uI_n e, he j e]
  all_goals (rw [qUp_k (by omega), qUp_k (by omega)]; rfl)
/-- an appointment more -/
theorem vV_book {b hr l : Int} (h : 0 ≤ ct) : vV nw mv lf c cm (ct + 1) rc wt kd en (uI ab ct b) (uI ah ct hr) (uI al ct l) (uI as ct 98) = qUp (qUp (qUp (qUp (qUp (vV nw mv lf c cm ct rc wt kd en ab ah al as) 0 5 (ct + 1)) 5 ct b) 6 ct hr) 7 ct l) 8 ct 98 := by
  have key : ∀ (f : Int → Int) (d v j : Int), cGet (ct + 1) (uI f ct v) d j = if j = ct then v else cGet ct f d j := by
    intro f d v j
    by_cases e : j = ct
    · subst e
      rw [cGet_in (by omega), uI_s, if_pos rfl]
    · rw [if_neg e]
      unfold cGet
      rw [uI_n e]
      by_cases q : 0 ≤ j ∧ j < ct
      · rw [if_pos q, if_pos (by omega)]
      · rw [if_neg q, if_neg (by omega)]
  refine vV_0 (fun j => ?_) (fun j => ?_) (fun j => ?_) (fun j => ?_) (fun j => ?_) (fun j => ?_) (fun j => ?_) (fun j => ?_) (fun j => ?_) (fun k j => ?_)
  · rw [qUp_k (by decide), qUp_k (by decide), qUp_k (by decide), qUp_k (by decide), vV_s]
    by_cases e : j = 5
    · subst e
      rw [qUp_s]
      rfl
    · rw [qUp_j e, vV_s, if_neg e, if_neg e]
  · rw [qUp_k (by decide), qUp_k (by decide), qUp_k (by decide), qUp_k (by decide), qUp_k (by decide)]
    rfl
  · rw [qUp_k (by decide), qUp_k (by decide), qUp_k (by decide), qUp_k (by decide), qUp_k (by decide)]
    rfl
  · rw [qUp_k (by decide), qUp_k (by decide), qUp_k (by decide), qUp_k (by decide), qUp_k (by decide)]
    rfl
  · rw [qUp_k (by decide), qUp_k (by decide), qUp_k (by decide), qUp_k (by decide), qUp_k (by decide)]
    rfl
  · rw [qUp_k (by decide), qUp_k (by decide), qUp_k (by decide), key]
    by_cases e : j = ct
    · subst e
      rw [qUp_s, if_pos rfl]
    · rw [qUp_j e, if_neg e, qUp_k (by decide)]
      rfl
  · rw [qUp_k (by decide), qUp_k (by decide), key]
    by_cases e : j = ct
    · subst e
      rw [qUp_s, if_pos rfl]
    · rw [qUp_j e, if_neg e, qUp_k (by decide), qUp_k (by decide)]
      rfl
  · rw [qUp_k (by decide), key]
    by_cases e : j = ct
    · subst e
      rw [qUp_s, if_pos rfl]
    · rw [qUp_j e, if_neg e, qUp_k (by decide), qUp_k (by decide), qUp_k (by decide)]
      rfl
  · rw [key]
    by_cases e : j = ct
    · subst e
      rw [qUp_s, if_pos rfl]
    · rw [qUp_j e, if_neg e, qUp_k (by decide), qUp_k (by decide), qUp_k (by decide), qUp_k (by decide)]
      rfl
  · rw [qUp_k (by omega), qUp_k (by omega), qUp_k (by omega), qUp_k (by omega), qUp_k (by omega)]
    rfl
end VV
