/-! the calls of the program under test, over the abstract yard -/
def xcd : List String → Int → String → Int → Prop
  | [], _, _, _ => False
  | F :: l, n, E, k => (E = F ∧ k = n) ∨ xcd l (n + 1) E k
def hpP (Es : List String) (Post : Int → qHp → Prop) (PX : String → qHp → Prop) (k r : Int) (g1 : qHp) : Prop := (k = 0 ∧ Post r g1) ∨ (∃ E, PX E g1 ∧ xcd Es 1 E k)
def cInv (g : qHp) : Prop := yOK (g 5 5) (g 6) (g 7) (g 8) (g 9) ∧ g 5 6 = cntY g ∧ cntY g ≤ 8 ∧ bInv (vA g) (stA g)
def cmI (g : qHp) : Prop := ∀ x, inS (stA g) x → x < g 1 3
theorem tlS_get {p : Int → Int} {s : Int} : ∀ {n k : Nat}, k < n → (tlS p s n)[n - 1 - k]? = some (p (s * 4 + (k : Int)))
  | 0, k, h => by omega
  | n + 1, k, h => by
    unfold tlS
    by_cases e : k = n
    · subst e
      rw [show k + 1 - 1 - k = 0 by omega]
      rfl
    · rw [show n + 1 - 1 - k = (n - 1 - k) + 1 by omega, List.getElem?_cons_succ]
      exact tlS_get (n := n) (k := k) (by omega)
theorem at_of {h p : Int → Int} {s k : Int} (hs : 0 ≤ s ∧ s < 4) (h0 : 0 ≤ k) (h1 : k < h s) : atS (stOf h p) s k = p (s * 4 + k) := by
  have hl : hgt (stOf h p) s = h s := stOf_len hs (by omega)
  unfold atS
  rw [if_pos ⟨h0, by rw [hl]; exact h1⟩, stOf_in hs, tlS_len, tlS_get (n := (h s).toNat) (k := k.toNat) (by omega), show ((k.toNat : Nat) : Int) = k by omega]
  rfl
section CA
variable {c : Int} {r h p so : Int → Int}
theorem ht_A (o : yOK c r h p so) (s : Int) : yHt c h s = hgt (stOf h p) s := by
  unfold yHt
  have hc := o.1
  by_cases q : 0 ≤ s ∧ s < c
  · rw [if_pos q]
    exact (stOf_len (by omega) (o.2.1 s q.1 (by omega)).1).symm
  · rw [if_neg q]
    unfold hgt
    by_cases q2 : 0 ≤ s ∧ s < 4
    · rw [stOf_nil (o.2.2.1 s (by omega) q2.2)]
      rfl
    · rw [stOf_out q2]
      rfl
theorem un_A (o : yOK c r h p so) {x : Int} (hx : ySt so x ≠ -1) : yUnd c h p so x = unS (stOf h p) x := by
  obtain ⟨h1, h2⟩ := ySt_in hx
  obtain ⟨y1, -⟩ := yOvr_ix o h1 (by rw [← h2]; exact hx)
  have e := soS_so o (x := x)
  unfold yOvr at y1
  rw [if_neg hx, ht_A o, ← e] at y1
  rw [h2] at e
  rw [← e] at y1
  unfold unS
  omega
theorem at_A (o : yOK c r h p so) (s k : Int) : yAt c h p s k = atS (stOf h p) s k := by
  unfold yAt
  rw [ht_A o]
  by_cases q : 0 ≤ k ∧ k < hgt (stOf h p) s
  · rw [if_pos q]
    have hc := o.1
    have q2 := q
    rw [← ht_A o] at q2
    unfold yHt at q2
    by_cases q3 : 0 ≤ s ∧ s < c
    · rw [if_pos q3] at q2
      exact (at_of (by omega) q.1 q2.2).symm
    · rw [if_neg q3] at q2
      omega
  · rw [if_neg q]
    unfold atS
    rw [if_neg q]
theorem hd_A (o : yOK c r h p so) {s x : Int} (hs : 0 ≤ s ∧ s < c) (hx : x ≠ -1) : (stOf h p s).head? = some x ↔ yTop c h p s = x := by
  rcases yTop_hd o hs.1 hs.2 with ⟨u1, u2, u3⟩ | ⟨u1, u2, u3⟩
  · rw [u2, u3]
    exact ⟨fun q => by (cases q), fun q => absurd q.symm hx⟩
  · rw [u2]
    exact ⟨fun q => by simpa using q, fun q => by rw [q]⟩
end CA
section CG
variable {g g1 : qHp}
theorem bear_A (o : yOK (g 5 5) (g 6) (g 7) (g 8) (g 9)) {s w : Int} (hs : 0 ≤ s ∧ s < g 5 5) : yBears g (g 5 5) (g 7) (g 8) s w ↔ bearS (vA g) (stA g) s w := by
  unfold yBears bearS
  rcases yTop_hd o hs.1 hs.2 with ⟨u1, u2, u3⟩ | ⟨u1, u2, u3⟩
  · exact ⟨fun _ x hx => (by rw [u3] at hx; cases hx), fun _ => Or.inl u2⟩
  · constructor
    · rintro (q | q) x hx
      · omega
      · rw [u2] at hx
        have e : yTop (g 5 5) (g 7) (g 8) s = x := by simpa using hx
        rw [← e]
        exact q
    · intro q
      exact Or.inr (q _ u2)
theorem cnt_A (o : yOK (g 5 5) (g 6) (g 7) (g 8) (g 9)) : cntY g = nBS (stA g) := by
  unfold cntY nBS
  refine cntI_congr (fun x a b => ?_)
  have e : ySt (g 9) x = g 9 x := by unfold ySt; rw [if_pos ⟨a, by omega⟩]
  have h := inS_so o (x := x)
  rw [e] at h
  by_cases q : g 9 x ≠ -1
  · rw [decide_eq_true q, @decide_eq_true _ (Classical.propDecidable _) (h.mp q)]
  · rw [decide_eq_false q, @decide_eq_false _ (Classical.propDecidable _) (fun z => q (h.mpr z))]
theorem cap_A (o : yOK (g 5 5) (g 6) (g 7) (g 8) (g 9)) {s w : Int} (hs : isS g s) : (g 7 s < g 6 s ∧ yBears g (g 5 5) (g 7) (g 8) s w) ↔ (hgt (stA g) s < vA g 1 s ∧ bearS (vA g) (stA g) s w) := by
  have hc := o.1
  have hs4 : 0 ≤ s ∧ s < 4 := ⟨hs.1, by have := hs.2; omega⟩
  have e1 : hgt (stA g) s = g 7 s := stOf_len hs4 (o.2.1 s hs4.1 hs4.2).1
  have e2 : vA g 1 s = g 6 s := cut4_in hs4
  rw [e1, e2, bear_A o hs]
theorem cInv_fr (I : cInv g) (h : frK g g1) : cInv g1 ∧ vA g1 = vA g ∧ stA g1 = stA g ∧ ∀ j, 23 ≤ j → g1 j = g j := by
  obtain ⟨o, hc, hc8, hB⟩ := I
  obtain ⟨f1, f2⟩ := vA_fr h
  have e : cntY g1 = cntY g := by
    unfold cntY
    rw [h 9 (by decide)]
  refine ⟨⟨?_, by rw [e, h 5 (by decide)]; exact hc, by rw [e]; exact hc8, by rw [f1, f2]; exact hB⟩, f1, f2, fun j hj => h j (by omega)⟩
  rw [h 5 (by decide), h 6 (by decide), h 7 (by decide), h 8 (by decide), h 9 (by decide)]
  exact o
theorem bInv_sub {V V' : qHp} {S S' : St} (B : bInv V S) (h5 : V' 0 5 = V 0 5) (h : V' 5 = V 5) (h8 : ∀ i, V' 8 i = 98 → V 8 i = 98) (hS : ∀ x, inS S x → inS S' x) : bInv V' S' := by
  refine ⟨fun i a b q => ?_, fun i j a b a2 b2 q q2 e => ?_⟩
  · rw [h]
    exact hS _ (B.1 i a (by rw [← h5]; exact b) (h8 i q))
  · rw [h] at e
    exact B.2 i j a (by rw [← h5]; exact b) a2 (by rw [← h5]; exact b2) (h8 i q) (h8 j q2) e
theorem yOK_stack {c rc : Int} {r h p so : Int → Int} (o : yOK c r h p so) (hc : c < 4) (hr : 1 ≤ rc ∧ rc ≤ 4) : yOK (c + 1) (uI r c rc) h p so := by
  obtain ⟨o1, o2, o3, o4, o5, o6, o7⟩ := o
  refine ⟨by omega, fun s a b => ?_, fun s a b => o3 s (by omega) b, fun s a b => ?_, ⟨o5.1, o5.2.1, o5.2.2.1, o5.2.2.2.1, fun s x hx => ?_⟩, o6, o7⟩
  · have q := o2 s a b
    by_cases e : s = c
    · subst e
      rw [uI_s]
      omega
    · rw [uI_n e]
      exact q
  · by_cases e : s = c
    · subst e
      rw [uI_s, o3 s (Int.le_refl _) hc]
      omega
    · rw [uI_n e]
      exact o4 s a (by omega)
  · have := o5.2.2.2.2 s x hx
    omega
/-- a box comes -/
theorem yOK_put {c s n : Int} {r h p so : Int → Int} (o : yOK c r h p so) (hs : 0 ≤ s ∧ s < c) (hh : h s < r s) (hn : 0 ≤ n ∧ n < 20) (hno : ¬ inS (stOf h p) n) : yOK c r (uI h s (h s + 1)) (uI p (s * 4 + h s) n) (uI so n s) ∧ stOf (uI h s (h s + 1)) (uI p (s * 4 + h s) n) = pshS (stOf h p) s n := by
  obtain ⟨o1, o2, o3, o4, o5, o6, o7⟩ := o
  have hs4 : 0 ≤ s ∧ s < 4 := by omega
  have b1 := o2 s hs4.1 hs4.2
  have e : stOf (uI h s (h s + 1)) (uI p (s * 4 + h s) n) = pshS (stOf h p) s n := by
    funext u
    unfold pshS
    by_cases us : u = s
    · subst us
      rw [if_pos rfl, stOf_in hs4, uI_s, stOf_in hs4, show (h u + 1).toNat = (h u).toNat + 1 by omega]
      show uI p _ _ (u * 4 + (((h u).toNat : Nat) : Int)) :: tlS _ u (h u).toNat = _
      rw [show u * 4 + (((h u).toNat : Nat) : Int) = u * 4 + h u by omega, uI_s]
      congr 1
      exact tlS_eq (fun k k1 k2 => uI_n (by omega))
    · rw [if_neg us]
      by_cases q : 0 ≤ u ∧ u < 4
      · rw [stOf_in q, stOf_in q, uI_n us]
        have := o2 u q.1 q.2
        exact tlS_eq (fun k k1 k2 => uI_n (by omega))
      · rw [stOf_out q, stOf_out q]
  have hm : ∀ u x, x ∈ pshS (stOf h p) s n u ↔ (x ∈ stOf h p u ∨ (u = s ∧ x = n)) := by
    intro u x
    unfold pshS
    by_cases us : u = s
    · subst us
      rw [if_pos rfl, List.mem_cons]
      constructor
      · rintro (q | q)
        · exact Or.inr ⟨rfl, q⟩
        · exact Or.inl q
      · rintro (q | ⟨-, q⟩)
        · exact Or.inr q
        · exact Or.inl q
    · rw [if_neg us]
      exact ⟨Or.inl, fun q => by rcases q with q | ⟨q, -⟩; (· exact q); (· exact absurd q us)⟩
  have hnn : ∀ u, n ∉ stOf h p u := fun u q => hno ⟨u, q⟩
  refine ⟨⟨o1, fun u a b => ?_, fun u a b => ?_, fun u a b => ?_, ?_, fun u x hx => ?_, fun x a b hx => ?_⟩, e⟩
  · have q := o2 u a b
    by_cases us : u = s
    · subst us
      rw [uI_s]
      omega
    · rw [uI_n us]
      exact q
  · rw [uI_n (by omega)]
    exact o3 u a b
  · by_cases us : u = s
    · subst us
      rw [uI_s]
      omega
    · rw [uI_n us]
      exact o4 u a b
  · rw [e]
    refine ⟨fun u => ?_, fun u v x h1 h2 => ?_, fun u x h1 => ?_, fun u => ?_, fun u x h1 => ?_⟩
    · unfold pshS
      by_cases us : u = s
      · rw [if_pos us]
        exact List.nodup_cons.mpr ⟨hnn s, o5.1 s⟩
      · rw [if_neg us]
        exact o5.1 u
    · rcases (hm u x).mp h1 with q | ⟨q, q2⟩ <;> rcases (hm v x).mp h2 with q' | ⟨q', q2'⟩
      · exact o5.2.1 u v x q q'
      · rw [q2'] at q
        exact absurd q (hnn u)
      · rw [q2] at q'
        exact absurd q' (hnn v)
      · rw [q, q']
    · rcases (hm u x).mp h1 with q | ⟨q, q2⟩
      · exact o5.2.2.1 u x q
      · rw [q2]
        exact hn
    · unfold pshS
      by_cases us : u = s
      · rw [if_pos us]
        have hl := stOf_len (h := h) (p := p) hs4 b1.1
        rw [List.length_cons]
        omega
      · rw [if_neg us]
        exact o5.2.2.2.1 u
    · rcases (hm u x).mp h1 with q | ⟨q, q2⟩
      · exact o5.2.2.2.2 u x q
      · rw [q]
        exact hs
  · rw [e] at hx
    rcases (hm u x).mp hx with q | ⟨q, q2⟩
    · rw [uI_n (fun z => hnn u (by rw [← z]; exact q))]
      exact o6 u x q
    · rw [q2, uI_s, q]
  · rw [e]
    by_cases xn : x = n
    · rw [xn, uI_s]
      exact (hm s n).mpr (Or.inr ⟨rfl, rfl⟩)
    · rw [uI_n xn] at hx ⊢
      exact (hm _ x).mpr (Or.inl (o7 x a b hx))
theorem cntI_on {p q : Int → Bool} {b : Int} {n : Nat} (h0 : 0 ≤ b) (hb : b < n) (hp : p b = false) (hq : q b = true) (h : ∀ i, i ≠ b → q i = p i) : cntI q n = cntI p n + 1 := by
  have := cntI_off (p := q) (q := p) h0 hb hq hp (fun i hi => (h i hi).symm)
  omega
theorem cntI_le {p q : Int → Bool} : ∀ {n : Nat}, (∀ i : Int, 0 ≤ i → i < n → q i = true → p i = true) → cntI q n ≤ cntI p n
  | 0, _ => Int.le_refl _
  | n + 1, h => by
    have h1 := cntI_le (n := n) (fun i a b => h i a (by omega))
    have h2 := h n (by omega) (by omega)
    unfold cntI
    cases hq : q n with
    | false => cases hp : p n <;> simp <;> omega
    | true =>
      rw [h2 hq]
      simp
      omega
theorem cntY_le (o : yOK (g 5 5) (g 6) (g 7) (g 8) (g 9)) (o' : yOK (g1 5 5) (g1 6) (g1 7) (g1 8) (g1 9)) (h : ∀ x, inS (stA g1) x → inS (stA g) x) : cntY g1 ≤ cntY g := by
  refine cntI_le (fun x a b q => ?_)
  have e : ∀ so : Int → Int, ySt so x = so x := fun so => by unfold ySt; rw [if_pos ⟨a, by omega⟩]
  have h1 := inS_so o (x := x)
  have h2 := inS_so o' (x := x)
  rw [e] at h1 h2
  exact decide_eq_true (h1.mpr (h x (h2.mp (of_decide_eq_true q))))
theorem kd_in {x : Int} (h : vA g 3 x ≠ 45) : (0 ≤ x ∧ x < g 1 3) ∧ vA g 4 x = g 4 x ∧ cGet (g 1 3) (g 4) 0 x = g 4 x := by
  have h' : cGet (g 1 3) (g 3) 45 x ≠ 45 := h
  by_cases q : 0 ≤ x ∧ x < g 1 3
  · refine ⟨q, ?_, cGet_in q⟩
    show (if cGet (g 1 3) (g 3) 45 x = 45 then 0 else g 4 x) = g 4 x
    rw [if_neg h']
  · exact absurd (by unfold cGet; rw [if_neg q]) h'
theorem hl_A {x h : Int} : hlI g x h ↔ hlA (vA g) x h := by
  unfold hlI hlA
  constructor
  · rintro ⟨a, b⟩
    obtain ⟨k1, k2, k3⟩ := kd_in (g := g) (x := x) a
    exact ⟨a, by rw [k2, ← k3]; exact b⟩
  · rintro ⟨a, b⟩
    obtain ⟨k1, k2, k3⟩ := kd_in (g := g) (x := x) a
    exact ⟨a, by rw [k3, ← k2]; exact b⟩
theorem fr_A {h : Int} : frL g h ↔ frA (vA g) h := by
  unfold frL frA
  rw [bkA_c, bkA_c, bkA_c]
theorem in_co (I : cInv g) (hm : cmI g) {x : Int} (h : inY g x) : 0 ≤ x ∧ x < g 1 3 := ⟨(ySt_in h).1.1, hm x ((inS_so I.1).mp h)⟩
/-- a plan of the least length, and the first of these -/
theorem lea_ex {V : qHp} {S : St} {b : Int} (O : aOK V S) {L0 : List Int} {n : Nat} (hn : ovR S b n) (hp : plnA V S b L0) (hl : (L0.length : Int) ≤ n + 1) : ∃ L, leaA V S b L := by
  obtain ⟨o1, o2, o3, -⟩ := O
  have hn3 : n ≤ 3 := by
    obtain ⟨s, q1, q2⟩ := hn
    have := ix_lt q1
    have := o3.2.2.2.1 s
    omega
  have dg : ∀ L, plnA V S b L → digs L := fun L h => by
    obtain ⟨z, q, -⟩ := h
    exact run_dig o1 o2 o3 q
  have key : ∀ (m : Nat) (L : List Int), plnA V S b L → (L.length : Int) ≤ n + 1 → keyN L.length L ≤ m → ∃ L, leaA V S b L := by
    intro m
    induction m with
    | zero =>
      intro L h1 h2 h3
      have kr := key_rng (dg L h1) (by omega)
      refine ⟨L, n, hn, h1, h2, fun L' h1' h2' => ?_⟩
      have kr' := key_rng (dg L' h1') (by omega)
      unfold keyN at h3 ⊢
      omega
    | succ m ih =>
      intro L h1 h2 h3
      by_cases q : ∃ L', plnA V S b L' ∧ (L'.length : Int) ≤ n + 1 ∧ keyN L'.length L' ≤ m
      · obtain ⟨L', a1, a2, a3⟩ := q
        exact ih L' a1 a2 a3
      · refine ⟨L, n, hn, h1, h2, fun L' h1' h2' => ?_⟩
        by_cases q2 : keyN L'.length L' ≤ m
        · exact absurd ⟨L', h1', h2', q2⟩ q
        · push_cast at h3
          omega
  have kr := key_rng (dg L0 hp) (by omega)
  refine key (keyN L0.length L0).toNat L0 hp hl (by omega)
theorem aOK_A (I : cInv g) : aOK (vA g) (stA g) := ⟨I.1.1.2, yOK_cut I.1, I.1.2.2.2.2.1, I.2.2.2⟩
end CG
abbrev cP_addStack (g : qHp) (rc : Int) : Int → qHp → Prop := (fun (r : Int) (g' : qHp) => ((1 ≤ rc ∧ rc ≤ 4) ∧ g 5 5 < 4 ∧ r = g 5 5) ∧ g' = (qUp (qUp g 5 5 (g 5 5 + 1)) 6 (g 5 5) rc))
abbrev cX_addStack (g : qHp) (rc : Int) : String → qHp → Prop := (fun (E : String) (g' : qHp) => ((E = xIA ∧ ¬ (1 ≤ rc ∧ rc ≤ 4)) ∨ (E = xIS ∧ (1 ≤ rc ∧ rc ≤ 4) ∧ ¬ g 5 5 < 4)) ∧ g' = g)
abbrev cP_addBox (g : qHp) (w s : Int) : Int → qHp → Prop := (fun (r : Int) (g' : qHp) => isS g s ∧ (1 ≤ w ∧ w ≤ 30) ∧ (g 7 s < g 6 s ∧ yBears g (g 5 5) (g 7) (g 8) s w) ∧ (g 5 6 < 8 ∧ g 1 3 < 20) ∧ r = g 1 3 ∧ g' = (qUp (qUp (qUp (qUp (qUp (qUp (qUp (qUp g 1 3 (g 1 3 + 1)) 2 (g 1 3) w) 3 (g 1 3) 45) 4 (g 1 3) 0) 8 (s * 4 + g 7 s) (g 1 3)) 7 s (g 7 s + 1)) 9 (g 1 3) s) 5 6 (w32 (g 5 6 + 1))))
abbrev cX_addBox (g : qHp) (w s : Int) : String → qHp → Prop := (fun (E : String) (g' : qHp) => ((E = xIO ∧ ¬ isS g s) ∨ (E = xIA ∧ isS g s ∧ ¬ (1 ≤ w ∧ w ≤ 30)) ∨ (E = xUO ∧ isS g s ∧ (1 ≤ w ∧ w ≤ 30) ∧ ¬ (g 7 s < g 6 s ∧ yBears g (g 5 5) (g 7) (g 8) s w)) ∨ (E = xIS ∧ isS g s ∧ (1 ≤ w ∧ w ≤ 30) ∧ (g 7 s < g 6 s ∧ yBears g (g 5 5) (g 7) (g 8) s w) ∧ ¬ (g 5 6 < 8 ∧ g 1 3 < 20))) ∧ g' = g)
abbrev cP_boxes (g : qHp) : Int → qHp → Prop := (fun (r : Int) (g' : qHp) => (r = g 5 6) ∧ g' = g)
abbrev cX_boxes (g : qHp) : String → qHp → Prop := qNo
abbrev cP_isInYard (g : qHp) (x : Int) : Int → qHp → Prop := (fun (r : Int) (g' : qHp) => ((inY g x ∧ r = 1) ∨ (¬ inY g x ∧ r = 0)) ∧ g' = g)
abbrev cX_isInYard (g : qHp) (x : Int) : String → qHp → Prop := qNo
abbrev cP_weight (g : qHp) (x : Int) : Int → qHp → Prop := (fun (r : Int) (g' : qHp) => (inY g x ∧ r = cGet (g 1 3) (g 2) 0 x) ∧ g' = g)
abbrev cX_weight (g : qHp) (x : Int) : String → qHp → Prop := (fun (E : String) (g' : qHp) => ((E = xIO ∧ ¬ inY g x)) ∧ g' = g)
abbrev cP_stackOf (g : qHp) (x : Int) : Int → qHp → Prop := (fun (r : Int) (g' : qHp) => (inY g x ∧ r = ySt (g 9) x) ∧ g' = g)
abbrev cX_stackOf (g : qHp) (x : Int) : String → qHp → Prop := (fun (E : String) (g' : qHp) => ((E = xIO ∧ ¬ inY g x)) ∧ g' = g)
abbrev cP_level (g : qHp) (x : Int) : Int → qHp → Prop := (fun (r : Int) (g' : qHp) => (inY g x ∧ r = yUnd (g 5 5) (g 7) (g 8) (g 9) x) ∧ g' = g)
abbrev cX_level (g : qHp) (x : Int) : String → qHp → Prop := (fun (E : String) (g' : qHp) => ((E = xIO ∧ ¬ inY g x)) ∧ g' = g)
abbrev cP_above (g : qHp) (x : Int) : Int → qHp → Prop := (fun (r : Int) (g' : qHp) => (inY g x ∧ r = yOvr (g 5 5) (g 7) (g 8) (g 9) x) ∧ g' = g)
abbrev cX_above (g : qHp) (x : Int) : String → qHp → Prop := (fun (E : String) (g' : qHp) => ((E = xIO ∧ ¬ inY g x)) ∧ g' = g)
abbrev cP_height (g : qHp) (s : Int) : Int → qHp → Prop := (fun (r : Int) (g' : qHp) => (isS g s ∧ r = yHt (g 5 5) (g 7) s) ∧ g' = g)
abbrev cX_height (g : qHp) (s : Int) : String → qHp → Prop := (fun (E : String) (g' : qHp) => ((E = xIO ∧ ¬ isS g s)) ∧ g' = g)
abbrev cP_boxAt (g : qHp) (s k : Int) : Int → qHp → Prop := (fun (r : Int) (g' : qHp) => (isS g s ∧ yAt (g 5 5) (g 7) (g 8) s k ≠ -1 ∧ r = yAt (g 5 5) (g 7) (g 8) s k) ∧ g' = g)
abbrev cX_boxAt (g : qHp) (s k : Int) : String → qHp → Prop := (fun (E : String) (g' : qHp) => ((E = xIO ∧ ¬ isS g s) ∨ (E = xNS ∧ isS g s ∧ yAt (g 5 5) (g 7) (g 8) s k = -1)) ∧ g' = g)
abbrev cP_hold (g : qHp) (x kd ut : Int) : Int → qHp → Prop := (fun (r : Int) (g' : qHp) => inY g x ∧ ((kd = 112 ∨ kd = 108) ∧ (g 0 4 < ut ∧ ut ≤ 1000)) ∧ (((fstB (bkB g x) (g 18 4) = -1 ∨ ut ≤ g 20 (fstB (bkB g x) (g 18 4))) ∧ r = 0 ∧ g' = (qUp (qUp g 3 x kd) 4 x ut)) ∨ (fstB (bkB g x) (g 18 4) ≠ -1 ∧ g 20 (fstB (bkB g x) (g 18 4)) < ut ∧ r = 1 ∧ g' = qUp (qUp (qUp g 3 x kd) 4 x ut) 22 (fstB (bkB g x) (g 18 4)) 103)))
abbrev cX_hold (g : qHp) (x kd ut : Int) : String → qHp → Prop := (fun (E : String) (g' : qHp) => ((E = xIO ∧ ¬ inY g x) ∨ (E = xIA ∧ inY g x ∧ ¬ ((kd = 112 ∨ kd = 108) ∧ (g 0 4 < ut ∧ ut ≤ 1000)))) ∧ g' = g)
abbrev cP_release (g : qHp) (x : Int) : Int → qHp → Prop := (fun (r : Int) (g' : qHp) => inY g x ∧ cGet (g 1 3) (g 3) 45 x ≠ 45 ∧ r = cGet (g 1 3) (g 4) 0 x ∧ g' = qUp (qUp g 3 x 45) 4 x 0)
abbrev cX_release (g : qHp) (x : Int) : String → qHp → Prop := (fun (E : String) (g' : qHp) => ((E = xIO ∧ ¬ inY g x) ∨ (E = xIS ∧ inY g x ∧ cGet (g 1 3) (g 3) 45 x = 45)) ∧ g' = g)
abbrev cP_holdOf (g : qHp) (x : Int) : Int → qHp → Prop := (fun (r : Int) (g' : qHp) => (inY g x ∧ r = cGet (g 1 3) (g 3) 45 x) ∧ g' = g)
abbrev cX_holdOf (g : qHp) (x : Int) : String → qHp → Prop := (fun (E : String) (g' : qHp) => ((E = xIO ∧ ¬ inY g x)) ∧ g' = g)
abbrev cP_heldUntil (g : qHp) (x : Int) : Int → qHp → Prop := (fun (r : Int) (g' : qHp) => (inY g x ∧ cGet (g 1 3) (g 3) 45 x ≠ 45 ∧ r = cGet (g 1 3) (g 4) 0 x) ∧ g' = g)
abbrev cX_heldUntil (g : qHp) (x : Int) : String → qHp → Prop := (fun (E : String) (g' : qHp) => ((E = xIO ∧ ¬ inY g x) ∨ (E = xNS ∧ inY g x ∧ cGet (g 1 3) (g 3) 45 x = 45)) ∧ g' = g)
abbrev cP_pinnedAbove (g : qHp) (x : Int) : Int → qHp → Prop := (fun (r : Int) (g' : qHp) => (inY g x ∧ r = yPin g (g 5 5) (g 7) (g 8) (g 9) x) ∧ g' = g)
abbrev cX_pinnedAbove (g : qHp) (x : Int) : String → qHp → Prop := (fun (E : String) (g' : qHp) => ((E = xIO ∧ ¬ inY g x)) ∧ g' = g)
abbrev cP_why (g : qHp) (x s : Int) : Int → qHp → Prop := (fun (r : Int) (g' : qHp) => ((inY g x ∧ isS g s) ∧ yWhyR g (g 5 5) (g 6) (g 7) (g 8) (g 9) x s r ∧ (0 ≤ r ∧ r < 128)) ∧ g' = g)
abbrev cX_why (g : qHp) (x s : Int) : String → qHp → Prop := (fun (E : String) (g' : qHp) => ((E = xIO ∧ ¬ (inY g x ∧ isS g s))) ∧ g' = g)
abbrev cP_move (g : qHp) (x s : Int) : Int → qHp → Prop := (fun (r : Int) (g' : qHp) => (inY g x ∧ isS g s) ∧ okY g (g 9 x) s x ∧ r = w32 (g 0 5 + 1) ∧ g' = mv5 g (g 9 x) s)
abbrev cX_move (g : qHp) (x s : Int) : String → qHp → Prop := (fun (E : String) (g' : qHp) => ((E = xIO ∧ ¬ (inY g x ∧ isS g s)) ∨ (E = xUO ∧ (inY g x ∧ isS g s) ∧ ∀ f, ¬ okY g f s x)) ∧ g' = g)
abbrev cP_planLength (g : qHp) (b : Int) : Int → qHp → Prop := (fun (r : Int) (g' : qHp) => inY g b ∧ frK g g' ∧ ∃ L, leaG g b (lmY g b) L ∧ r = L.length)
abbrev cX_planLength (g : qHp) (b : Int) : String → qHp → Prop := (fun (E : String) (g' : qHp) => plX g g' b E)
abbrev cP_planByTrying (g : qHp) (b : Int) : Int → qHp → Prop := (fun (r : Int) (g' : qHp) => inY g b ∧ frK g g' ∧ r ≤ lmY g b ∧ (∃ L, plnG g b L ∧ (L.length : Int) = r) ∧ ∀ L, plnG g b L → r ≤ L.length)
abbrev cX_planByTrying (g : qHp) (b : Int) : String → qHp → Prop := (fun (E : String) (g' : qHp) => plX g g' b E)
abbrev cP_planBox (g : qHp) (b i : Int) : Int → qHp → Prop := (fun (r : Int) (g' : qHp) => inY g b ∧ frK g g' ∧ ∃ L m, leaG g b (lmY g b) L ∧ 0 ≤ i ∧ L[i.toNat]? = some m ∧ r = m / 4)
abbrev cX_planBox (g : qHp) (b i : Int) : String → qHp → Prop := (fun (E : String) (g' : qHp) => plX g g' b E ∨ (E = xNS ∧ inY g b ∧ frK g g' ∧ ∃ L, leaG g b (lmY g b) L ∧ ¬ (0 ≤ i ∧ i < L.length)))
abbrev cP_planStack (g : qHp) (b i : Int) : Int → qHp → Prop := (fun (r : Int) (g' : qHp) => inY g b ∧ frK g g' ∧ ∃ L m, leaG g b (lmY g b) L ∧ 0 ≤ i ∧ L[i.toNat]? = some m ∧ r = m % 4)
abbrev cX_planStack (g : qHp) (b i : Int) : String → qHp → Prop := (fun (E : String) (g' : qHp) => plX g g' b E ∨ (E = xNS ∧ inY g b ∧ frK g g' ∧ ∃ L, leaG g b (lmY g b) L ∧ ¬ (0 ≤ i ∧ i < L.length)))
abbrev cP_dig (g : qHp) (b : Int) : Int → qHp → Prop := (fun (r : Int) (g' : qHp) => inY g b ∧ ∃ L z g1, frK g g1 ∧ leaG g b (lmY g b) L ∧ runR (g 5 5) (cut4 (g 6)) (cGet (g 1 3) (g 2) 0) (pinB g) b L (stOf (g 7) (g 8)) z ∧ mvQ g1 g' L.length z ∧ r = L.length)
abbrev cX_dig (g : qHp) (b : Int) : String → qHp → Prop := (fun (E : String) (g' : qHp) => plX g g' b E)
abbrev cP_moves (g : qHp) : Int → qHp → Prop := (fun (r : Int) (g' : qHp) => (r = g 0 5) ∧ g' = g)
abbrev cX_moves (g : qHp) : String → qHp → Prop := qNo
abbrev cP_book (g : qHp) (x h l : Int) : Int → qHp → Prop := (fun (r : Int) (g' : qHp) => (inY g x ∧ (0 ≤ l ∧ l < 3)) ∧ (g 0 4 < h ∧ h ≤ 999) ∧ ¬ hlI g x h ∧ (fstB (bkB g x) (g 18 4) = -1 ∧ fstB (bkL g l h) (g 18 4) = -1 ∧ g 18 4 < 30) ∧ r = g 18 4 ∧ g' = (qUp (qUp (qUp (qUp (qUp g 18 4 (g 18 4 + 1)) 19 (g 18 4) x) 20 (g 18 4) h) 21 (g 18 4) l) 22 (g 18 4) 98))
abbrev cX_book (g : qHp) (x h l : Int) : String → qHp → Prop := (fun (E : String) (g' : qHp) => ((E = xIO ∧ ¬ (inY g x ∧ (0 ≤ l ∧ l < 3))) ∨ (E = xIA ∧ (inY g x ∧ (0 ≤ l ∧ l < 3)) ∧ ¬ (g 0 4 < h ∧ h ≤ 999)) ∨ (E = xUO ∧ (inY g x ∧ (0 ≤ l ∧ l < 3)) ∧ (g 0 4 < h ∧ h ≤ 999) ∧ hlI g x h) ∨ (E = xIS ∧ (inY g x ∧ (0 ≤ l ∧ l < 3)) ∧ (g 0 4 < h ∧ h ≤ 999) ∧ ¬ hlI g x h ∧ ¬ (fstB (bkB g x) (g 18 4) = -1 ∧ fstB (bkL g l h) (g 18 4) = -1 ∧ g 18 4 < 30))) ∧ g' = g)
abbrev cP_cancel (g : qHp) (a : Int) : Int → qHp → Prop := (fun (r : Int) (g' : qHp) => (0 ≤ a ∧ a < g 18 4) ∧ g 22 a = 98 ∧ g' = qUp g 22 a 99 ∧ r = cntI (stN (qUp g 22 a 99) 98) (g 18 4).toNat)
abbrev cX_cancel (g : qHp) (a : Int) : String → qHp → Prop := (fun (E : String) (g' : qHp) => ((E = xIO ∧ ¬ (0 ≤ a ∧ a < g 18 4)) ∨ (E = xIS ∧ (0 ≤ a ∧ a < g 18 4) ∧ g 22 a ≠ 98)) ∧ g' = g)
abbrev cP_stateOf (g : qHp) (a : Int) : Int → qHp → Prop := (fun (r : Int) (g' : qHp) => ((0 ≤ a ∧ a < g 18 4) ∧ r = g 22 a) ∧ g' = g)
abbrev cX_stateOf (g : qHp) (a : Int) : String → qHp → Prop := (fun (E : String) (g' : qHp) => ((E = xIO ∧ ¬ (0 ≤ a ∧ a < g 18 4))) ∧ g' = g)
abbrev cP_appointmentOf (g : qHp) (x : Int) : Int → qHp → Prop := (fun (r : Int) (g' : qHp) => (inY g x ∧ fstB (bkB g x) (g 18 4) ≠ -1 ∧ r = fstB (bkB g x) (g 18 4)) ∧ g' = g)
abbrev cX_appointmentOf (g : qHp) (x : Int) : String → qHp → Prop := (fun (E : String) (g' : qHp) => ((E = xIO ∧ ¬ inY g x) ∨ (E = xNS ∧ inY g x ∧ fstB (bkB g x) (g 18 4) = -1)) ∧ g' = g)
abbrev cP_inLane (g : qHp) (l h : Int) : Int → qHp → Prop := (fun (r : Int) (g' : qHp) => ((0 ≤ l ∧ l < 3) ∧ (0 ≤ h ∧ h ≤ 999) ∧ r = fstB (bkL g l h) (g 18 4)) ∧ g' = g)
abbrev cX_inLane (g : qHp) (l h : Int) : String → qHp → Prop := (fun (E : String) (g' : qHp) => ((E = xIO ∧ ¬ (0 ≤ l ∧ l < 3)) ∨ (E = xIA ∧ (0 ≤ l ∧ l < 3) ∧ ¬ (0 ≤ h ∧ h ≤ 999))) ∧ g' = g)
abbrev cP_firstHour (g : qHp) (x : Int) : Int → qHp → Prop := (fun (r : Int) (g' : qHp) => (inY g x ∧ (g 0 4 < r ∧ r ≤ 999) ∧ (¬ hlI g x r ∧ frL g r) ∧ ∀ j, g 0 4 < j → j < r → ¬ (¬ hlI g x j ∧ frL g j)) ∧ g' = g)
abbrev cX_firstHour (g : qHp) (x : Int) : String → qHp → Prop := (fun (E : String) (g' : qHp) => ((E = xIO ∧ ¬ inY g x) ∨ (E = xNS ∧ inY g x ∧ ∀ j, g 0 4 < j → j ≤ 999 → ¬ (¬ hlI g x j ∧ frL g j))) ∧ g' = g)
abbrev cP_pass (g : qHp) (n : Int) : Int → qHp → Prop := (fun (r : Int) (g' : qHp) => (1 ≤ n ∧ n ≤ 24 ∧ n ≤ 999 - g 0 4) ∧ psA n.toNat (vA g) (stA g) r (vA g') (stA g') ∧ psI g g')
abbrev cX_pass (g : qHp) (n : Int) : String → qHp → Prop := (fun (E : String) (g' : qHp) => (E = xIA ∧ ¬ (1 ≤ n ∧ n ≤ 24 ∧ n ≤ 999 - g 0 4)) ∧ g' = g)
abbrev cP_now (g : qHp) : Int → qHp → Prop := (fun (r : Int) (g' : qHp) => (r = g 0 4) ∧ g' = g)
abbrev cX_now (g : qHp) : String → qHp → Prop := qNo
abbrev cP_weightLeft (g : qHp) : Int → qHp → Prop := (fun (r : Int) (g' : qHp) => (r = g 0 6) ∧ g' = g)
abbrev cX_weightLeft (g : qHp) : String → qHp → Prop := qNo
theorem C_boxes {g g1 : qHp} {kc rr : Int} (I : cInv g) (hn : qNm g) (hm : cmI g) (hP0 : hpP [] (cP_boxes g) (cX_boxes g) kc rr g1) : sp_boxes (vA g) (stA g) kc rr (vA g1) (stA g1) ∧ cInv g1 ∧ ∀ j, 23 ≤ j → g1 j = g j := by
  obtain ⟨o, hc, hc8, hB⟩ := id I
  rcases hP0 with ⟨rfl, ⟨h1, rfl⟩⟩ | ⟨E, hx, hk⟩
  · exact ⟨spc_ok rfl ⟨by rw [h1, hc, cnt_A o], rfl, rfl⟩, I, fun _ _ => rfl⟩
  · exact hx.elim
theorem C_isInYard {g g1 : qHp} {kc rr x : Int} (I : cInv g) (hn : qNm g) (hm : cmI g) (hP0 : hpP [] (cP_isInYard g x) (cX_isInYard g x) kc rr g1) : sp_isInYard x (vA g) (stA g) kc rr (vA g1) (stA g1) ∧ cInv g1 ∧ ∀ j, 23 ≤ j → g1 j = g j := by
  obtain ⟨o, hc, hc8, hB⟩ := id I
  rcases hP0 with ⟨rfl, ⟨h1, rfl⟩⟩ | ⟨E, hx, hk⟩
  · refine ⟨spc_ok rfl ⟨?_, rfl, rfl⟩, I, fun _ _ => rfl⟩
    rcases h1 with ⟨a, b⟩ | ⟨a, b⟩
    · exact Or.inl ⟨(inS_so o).mp a, b⟩
    · exact Or.inr ⟨fun q => a ((inS_so o).mpr q), b⟩
  · exact hx.elim
theorem C_weight {g g1 : qHp} {kc rr x : Int} (I : cInv g) (hn : qNm g) (hm : cmI g) (hP0 : hpP [xIO] (cP_weight g x) (cX_weight g x) kc rr g1) : sp_weight x (vA g) (stA g) kc rr (vA g1) (stA g1) ∧ cInv g1 ∧ ∀ j, 23 ≤ j → g1 j = g j := by
  obtain ⟨o, hc, hc8, hB⟩ := id I
  rcases hP0 with ⟨rfl, ⟨⟨h1, h2⟩, rfl⟩⟩ | ⟨E, ⟨hx, rfl⟩, hk⟩
  · exact ⟨spc_ok (Or.inr ⟨(inS_so o).mp h1, rfl⟩) ⟨h2, rfl, rfl⟩, I, fun _ _ => rfl⟩
  · rcases hx with ⟨rfl, h1⟩
    · have ek : kc = 1 := by rcases hk with ⟨zz, ez⟩ | zz; (· omega); (· exact zz.elim)
      subst ek
      exact ⟨spc_no (by decide) (Or.inl ⟨fun q => h1 ((inS_so o).mpr q), rfl⟩) rfl rfl, I, fun _ _ => rfl⟩
theorem C_stackOf {g g1 : qHp} {kc rr x : Int} (I : cInv g) (hn : qNm g) (hm : cmI g) (hP0 : hpP [xIO] (cP_stackOf g x) (cX_stackOf g x) kc rr g1) : sp_stackOf x (vA g) (stA g) kc rr (vA g1) (stA g1) ∧ cInv g1 ∧ ∀ j, 23 ≤ j → g1 j = g j := by
  obtain ⟨o, hc, hc8, hB⟩ := id I
  rcases hP0 with ⟨rfl, ⟨⟨h1, h2⟩, rfl⟩⟩ | ⟨E, ⟨hx, rfl⟩, hk⟩
  · exact ⟨spc_ok (Or.inr ⟨(inS_so o).mp h1, rfl⟩) ⟨by rw [h2]; exact (soS_so o).symm, rfl, rfl⟩, I, fun _ _ => rfl⟩
  · rcases hx with ⟨rfl, h1⟩
    · have ek : kc = 1 := by rcases hk with ⟨zz, ez⟩ | zz; (· omega); (· exact zz.elim)
      subst ek
      exact ⟨spc_no (by decide) (Or.inl ⟨fun q => h1 ((inS_so o).mpr q), rfl⟩) rfl rfl, I, fun _ _ => rfl⟩
theorem C_level {g g1 : qHp} {kc rr x : Int} (I : cInv g) (hn : qNm g) (hm : cmI g) (hP0 : hpP [xIO] (cP_level g x) (cX_level g x) kc rr g1) : sp_level x (vA g) (stA g) kc rr (vA g1) (stA g1) ∧ cInv g1 ∧ ∀ j, 23 ≤ j → g1 j = g j := by
  obtain ⟨o, hc, hc8, hB⟩ := id I
  rcases hP0 with ⟨rfl, ⟨⟨h1, h2⟩, rfl⟩⟩ | ⟨E, ⟨hx, rfl⟩, hk⟩
  · exact ⟨spc_ok (Or.inr ⟨(inS_so o).mp h1, rfl⟩) ⟨by rw [h2]; exact un_A o h1, rfl, rfl⟩, I, fun _ _ => rfl⟩
  · rcases hx with ⟨rfl, h1⟩
    · have ek : kc = 1 := by rcases hk with ⟨zz, ez⟩ | zz; (· omega); (· exact zz.elim)
      subst ek
      exact ⟨spc_no (by decide) (Or.inl ⟨fun q => h1 ((inS_so o).mpr q), rfl⟩) rfl rfl, I, fun _ _ => rfl⟩
theorem C_above {g g1 : qHp} {kc rr x : Int} (I : cInv g) (hn : qNm g) (hm : cmI g) (hP0 : hpP [xIO] (cP_above g x) (cX_above g x) kc rr g1) : sp_above x (vA g) (stA g) kc rr (vA g1) (stA g1) ∧ cInv g1 ∧ ∀ j, 23 ≤ j → g1 j = g j := by
  obtain ⟨o, hc, hc8, hB⟩ := id I
  rcases hP0 with ⟨rfl, ⟨⟨h1, h2⟩, rfl⟩⟩ | ⟨E, ⟨hx, rfl⟩, hk⟩
  · exact ⟨spc_ok (Or.inr ⟨(inS_so o).mp h1, rfl⟩) ⟨by rw [h2, (yOvr_ix o (ySt_in h1).1 (by rw [← (ySt_in h1).2]; exact h1)).1, ← (ySt_in h1).2, ← soS_so o], rfl, rfl⟩, I, fun _ _ => rfl⟩
  · rcases hx with ⟨rfl, h1⟩
    · have ek : kc = 1 := by rcases hk with ⟨zz, ez⟩ | zz; (· omega); (· exact zz.elim)
      subst ek
      exact ⟨spc_no (by decide) (Or.inl ⟨fun q => h1 ((inS_so o).mpr q), rfl⟩) rfl rfl, I, fun _ _ => rfl⟩
theorem C_holdOf {g g1 : qHp} {kc rr x : Int} (I : cInv g) (hn : qNm g) (hm : cmI g) (hP0 : hpP [xIO] (cP_holdOf g x) (cX_holdOf g x) kc rr g1) : sp_holdOf x (vA g) (stA g) kc rr (vA g1) (stA g1) ∧ cInv g1 ∧ ∀ j, 23 ≤ j → g1 j = g j := by
  obtain ⟨o, hc, hc8, hB⟩ := id I
  rcases hP0 with ⟨rfl, ⟨⟨h1, h2⟩, rfl⟩⟩ | ⟨E, ⟨hx, rfl⟩, hk⟩
  · exact ⟨spc_ok (Or.inr ⟨(inS_so o).mp h1, rfl⟩) ⟨h2, rfl, rfl⟩, I, fun _ _ => rfl⟩
  · rcases hx with ⟨rfl, h1⟩
    · have ek : kc = 1 := by rcases hk with ⟨zz, ez⟩ | zz; (· omega); (· exact zz.elim)
      subst ek
      exact ⟨spc_no (by decide) (Or.inl ⟨fun q => h1 ((inS_so o).mpr q), rfl⟩) rfl rfl, I, fun _ _ => rfl⟩
theorem C_pinnedAbove {g g1 : qHp} {kc rr x : Int} (I : cInv g) (hn : qNm g) (hm : cmI g) (hP0 : hpP [xIO] (cP_pinnedAbove g x) (cX_pinnedAbove g x) kc rr g1) : sp_pinnedAbove x (vA g) (stA g) kc rr (vA g1) (stA g1) ∧ cInv g1 ∧ ∀ j, 23 ≤ j → g1 j = g j := by
  obtain ⟨o, hc, hc8, hB⟩ := id I
  rcases hP0 with ⟨rfl, ⟨⟨h1, h2⟩, rfl⟩⟩ | ⟨E, ⟨hx, rfl⟩, hk⟩
  · exact ⟨spc_ok (Or.inr ⟨(inS_so o).mp h1, rfl⟩) ⟨by rw [h2]; unfold yPin; rw [ht_A o, un_A o h1, ← soS_so o]; congr 1; funext i; rw [at_A o]; rfl, rfl, rfl⟩, I, fun _ _ => rfl⟩
  · rcases hx with ⟨rfl, h1⟩
    · have ek : kc = 1 := by rcases hk with ⟨zz, ez⟩ | zz; (· omega); (· exact zz.elim)
      subst ek
      exact ⟨spc_no (by decide) (Or.inl ⟨fun q => h1 ((inS_so o).mpr q), rfl⟩) rfl rfl, I, fun _ _ => rfl⟩
theorem C_height {g g1 : qHp} {kc rr s : Int} (I : cInv g) (hn : qNm g) (hm : cmI g) (hP0 : hpP [xIO] (cP_height g s) (cX_height g s) kc rr g1) : sp_height s (vA g) (stA g) kc rr (vA g1) (stA g1) ∧ cInv g1 ∧ ∀ j, 23 ≤ j → g1 j = g j := by
  obtain ⟨o, hc, hc8, hB⟩ := id I
  rcases hP0 with ⟨rfl, ⟨⟨h1, h2⟩, rfl⟩⟩ | ⟨E, ⟨hx, rfl⟩, hk⟩
  · exact ⟨spc_ok (Or.inr ⟨h1, rfl⟩) ⟨by rw [h2]; exact ht_A o _, rfl, rfl⟩, I, fun _ _ => rfl⟩
  · rcases hx with ⟨rfl, h1⟩
    · have ek : kc = 1 := by rcases hk with ⟨zz, ez⟩ | zz; (· omega); (· exact zz.elim)
      subst ek
      exact ⟨spc_no (by decide) (Or.inl ⟨h1, rfl⟩) rfl rfl, I, fun _ _ => rfl⟩
