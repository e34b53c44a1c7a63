/-! the place of a box by the stacks alone -/
def soS (z : St) (x : Int) : Int := if x ∈ z 0 then 0 else if x ∈ z 1 then 1 else if x ∈ z 2 then 2 else if x ∈ z 3 then 3 else -1
theorem soS_hit {z : St} {x s : Int} (h0 : 0 ≤ s ∧ s < 4) (h : x ∈ z s) (hn : ∀ u, 0 ≤ u → u < s → x ∉ z u) : soS z x = s := by
  unfold soS
  rcases (show s = 0 ∨ s = 1 ∨ s = 2 ∨ s = 3 by omega) with e | e | e | e
  · subst e
    rw [if_pos h]
  · subst e
    rw [if_neg (hn 0 (by decide) (by decide)), if_pos h]
  · subst e
    rw [if_neg (hn 0 (by decide) (by decide)), if_neg (hn 1 (by decide) (by decide)), if_pos h]
  · subst e
    rw [if_neg (hn 0 (by decide) (by decide)), if_neg (hn 1 (by decide) (by decide)), if_neg (hn 2 (by decide) (by decide)), if_pos h]
theorem soS_no {z : St} {x : Int} (hn : ∀ u, 0 ≤ u → u < 4 → x ∉ z u) : soS z x = -1 := by
  unfold soS
  rw [if_neg (hn 0 (by decide) (by decide)), if_neg (hn 1 (by decide) (by decide)), if_neg (hn 2 (by decide) (by decide)), if_neg (hn 3 (by decide) (by decide))]
/-- in a yard in order it is the cell of the box -/
theorem soS_so {c : Int} {r h p so : Int → Int} (o : yOK c r h p so) {x : Int} : soS (stOf h p) x = ySt so x := by
  by_cases q : ySt so x = -1
  · rw [q]
    refine soS_no (fun u a b hu => ?_)
    exact (inS_so o).mpr ⟨u, hu⟩ q
  · obtain ⟨hx, e⟩ := ySt_in q
    rw [e] at q ⊢
    have hm := o.2.2.2.2.2.2 x hx.1 hx.2 q
    have hs := o.2.2.2.2.1.2.2.2.2 _ x hm
    have hc := o.1
    exact soS_hit (by omega) hm (fun u a b hu => by have := o.2.2.2.2.1.2.1 u (so x) x hu hm; omega)
