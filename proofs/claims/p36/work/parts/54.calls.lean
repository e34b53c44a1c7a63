/-! the law's method call: a contract for each number, over the abstract yard -/
def lq (V : qHp) (S : St) (R : Int → Int) (g : qHp) : Prop := cInv g ∧ vA g = V ∧ stA g = S ∧ g 23 = R
theorem lq_cm {g : qHp} (A : aI (vA g) (stA g)) : cmI g := fun x hx => (A.2.1 x hx).2
theorem lq_J {V : qHp} {S : St} {R : Int → Int} {g : qHp} (I : lq V S R g) (hn : qNm g) : aJ V S := by
  obtain ⟨I1, rfl, rfl, rfl⟩ := I
  obtain ⟨o, hc, hc8, hB⟩ := id I1
  have r0 : 0 ≤ g 0 4 ∧ g 0 4 ≤ 999 := hn 0 4
  have r1 : 0 ≤ g 1 3 ∧ g 1 3 ≤ 20 := hn 1 3
  have r5 : 0 ≤ g 18 4 ∧ g 18 4 ≤ 30 := hn 18 4
  refine ⟨aOK_A I1, fun s hs => ?_, by rw [← cnt_A o]; exact hc8, r0, o.1.1, r1, r5, fun x hx => ?_⟩
  · have hs : 0 ≤ s ∧ s < g 5 5 := hs
    have h4 := o.1.2
    have e1 : hgt (stA g) s = g 7 s := stOf_len (by omega) (o.2.1 s hs.1 (by omega)).1
    have e2 : vA g 1 s = g 6 s := cut4_in (by omega)
    rw [e1, e2]
    exact o.2.2.2.1 s hs.1 hs.2
  · have hx : g 1 3 ≤ x := hx
    show cGet (g 1 3) (g 3) 45 x = 45
    unfold cGet
    rw [if_neg (by omega)]
/-- what the method answers: the call's answer, or the number for what it throws -/
def hcQ (Es : List String) (cds : List Int) (P : Int → qHp → Prop) (X : String → qHp → Prop) (v : Int) (g1 : qHp) : Prop := P v g1 ∨ ∃ E k, X E g1 ∧ xcd Es 1 E k ∧ v = enc cds k
theorem xcd_le : ∀ {Es : List String} {n k : Int} {E : String}, xcd Es n E k → n ≤ k
  | [], _, _, _, h => h.elim
  | F :: l, n, k, E, h => by
    rcases h with ⟨-, h⟩ | h
    · omega
    · have := xcd_le h
      omega
theorem hc_sp {Es : List String} {cds : List Int} {P : Int → qHp → Prop} {X : String → qHp → Prop} {v : Int} {g1 : qHp} {sp : Int → Int → Prop} (hC : ∀ k r, hpP Es P X k r g1 → sp k r) (h : hcQ Es cds P X v g1) : ∃ k r, sp k r ∧ v = ecd cds k r := by
  rcases h with h | ⟨E, k, h1, h2, h3⟩
  · exact ⟨0, v, hC 0 v (Or.inl ⟨rfl, h⟩), rfl⟩
  · have := xcd_le h2
    exact ⟨k, 0, hC k 0 (Or.inr ⟨E, h1, h2⟩), by unfold ecd; rw [if_neg (by omega)]; exact h3⟩
theorem plan_val {V : qHp} {S : St} {b r : Int} (O : aOK V S) (h : ∃ L, leaA V S b L ∧ r = (L.length : Int)) : r = lenA V S b := by
  obtain ⟨L, h1, h2⟩ := h
  rw [h2, len_eq O h1]
theorem plB_u {V : qHp} {S : St} {b i : Int} (O : aOK V S) : ∀ p q : Int, (∃ L m, leaA V S b L ∧ L[i.toNat]? = some m ∧ p = m / 4) → (∃ L m, leaA V S b L ∧ L[i.toNat]? = some m ∧ q = m / 4) → p = q := by
  rintro p q ⟨L1, m1, q1, q2, q3⟩ ⟨L2, m2, q4, q5, q6⟩
  have e1 := leaA_u O.1 O.2.1 O.2.2.1 q1 q4
  subst e1
  rw [q2] at q5
  have e2 : m1 = m2 := by simpa using q5
  rw [q3, q6, e2]
theorem plS_u {V : qHp} {S : St} {b i : Int} (O : aOK V S) : ∀ p q : Int, (∃ L m, leaA V S b L ∧ L[i.toNat]? = some m ∧ p = m % 4) → (∃ L m, leaA V S b L ∧ L[i.toNat]? = some m ∧ q = m % 4) → p = q := by
  rintro p q ⟨L1, m1, q1, q2, q3⟩ ⟨L2, m2, q4, q5, q6⟩
  have e1 := leaA_u O.1 O.2.1 O.2.2.1 q1 q4
  subst e1
  rw [q2] at q5
  have e2 : m1 = m2 := by simpa using q5
  rw [q3, q6, e2]
theorem fh_u {V : qHp} {x : Int} : ∀ p q : Int, ((V 0 0 < p ∧ okH V x p) ∧ ∀ j, V 0 0 < j → j < p → ¬ okH V x j) → ((V 0 0 < q ∧ okH V x q) ∧ ∀ j, V 0 0 < j → j < q → ¬ okH V x j) → p = q := by
  rintro p q ⟨⟨h1, h2⟩, h3⟩ ⟨⟨h1', h2'⟩, h3'⟩
  by_cases z : p < q
  · exact absurd h2 (h3' p h1 z)
  · by_cases z2 : q < p
    · exact absurd h2' (h3 q h1' z2)
    · omega

abbrev hhC : List (Nat × Nat × Nat × Nat) := [(0, 125, 296, 98), (126, 132, 296, 98), (133, 138, 296, 98), (139, 144, 296, 98), (145, 150, 296, 98), (151, 156, 296, 98), (157, 162, 296, 98), (163, 169, 296, 98), (170, 179, 296, 98), (180, 185, 296, 98), (186, 191, 296, 98), (192, 197, 296, 98), (198, 203, 296, 98), (204, 210, 296, 98), (211, 217, 296, 98), (218, 223, 296, 98), (224, 229, 296, 98), (230, 236, 296, 98), (237, 243, 296, 98), (244, 249, 296, 98), (250, 258, 296, 98), (259, 264, 296, 98), (265, 270, 296, 98), (271, 276, 296, 98), (277, 283, 296, 98), (284, 289, 296, 98), (290, 295, 296, 98), (0, 125, 302, 100), (126, 132, 302, 100), (133, 138, 302, 100), (139, 144, 302, 100), (145, 150, 302, 100), (151, 156, 302, 100), (157, 162, 302, 100), (163, 169, 302, 100), (170, 179, 302, 100), (180, 185, 302, 100), (186, 191, 302, 100), (192, 197, 302, 100), (198, 203, 302, 100), (204, 210, 302, 100), (211, 217, 302, 100), (218, 223, 302, 100), (224, 229, 302, 100), (230, 236, 302, 100), (237, 243, 302, 100), (244, 249, 302, 100), (250, 258, 302, 100), (259, 264, 302, 100), (265, 270, 302, 100), (271, 276, 302, 100), (277, 283, 302, 100), (284, 289, 302, 100), (290, 295, 302, 100), (0, 125, 308, 102), (126, 132, 308, 102), (133, 138, 308, 102), (139, 144, 308, 102), (145, 150, 308, 102), (151, 156, 308, 102), (157, 162, 308, 102), (163, 169, 308, 102), (170, 179, 308, 102), (180, 185, 308, 102), (186, 191, 308, 102), (192, 197, 308, 102), (198, 203, 308, 102), (204, 210, 308, 102), (211, 217, 308, 102), (218, 223, 308, 102), (224, 229, 308, 102), (230, 236, 308, 102), (237, 243, 308, 102), (244, 249, 308, 102), (250, 258, 308, 102), (259, 264, 308, 102), (265, 270, 308, 102), (271, 276, 308, 102), (277, 283, 308, 102), (284, 289, 308, 102), (290, 295, 308, 102), (0, 125, 314, 104), (126, 132, 314, 104), (133, 138, 314, 104), (139, 144, 314, 104), (145, 150, 314, 104), (151, 156, 314, 104), (157, 162, 314, 104), (163, 169, 314, 104), (170, 179, 314, 104), (180, 185, 314, 104), (186, 191, 314, 104), (192, 197, 314, 104), (198, 203, 314, 104), (204, 210, 314, 104), (211, 217, 314, 104), (218, 223, 314, 104), (224, 229, 314, 104), (230, 236, 314, 104), (237, 243, 314, 104), (244, 249, 314, 104), (250, 258, 314, 104), (259, 264, 314, 104), (265, 270, 314, 104), (271, 276, 314, 104), (277, 283, 314, 104), (284, 289, 314, 104), (290, 295, 314, 104), (0, 125, 320, 106), (126, 132, 320, 106), (133, 138, 320, 106), (139, 144, 320, 106), (145, 150, 320, 106), (151, 156, 320, 106), (157, 162, 320, 106), (163, 169, 320, 106), (170, 179, 320, 106), (180, 185, 320, 106), (186, 191, 320, 106), (192, 197, 320, 106), (198, 203, 320, 106), (204, 210, 320, 106), (211, 217, 320, 106), (218, 223, 320, 106), (224, 229, 320, 106), (230, 236, 320, 106), (237, 243, 320, 106), (244, 249, 320, 106), (250, 258, 320, 106), (259, 264, 320, 106), (265, 270, 320, 106), (271, 276, 320, 106), (277, 283, 320, 106), (284, 289, 320, 106), (290, 295, 320, 106)]
abbrev cdC : Cond := .codeWith yL_call cL_call 6 (some .int) hhC
theorem mL_call : qMtH yL_call cL_call 6 (some .int) hhC 5 := ⟨qm 199 (by decide +kernel) rfl, qm 198 (by decide +kernel) rfl, qm 15 (by decide +kernel) rfl, (by decide +kernel), (by decide +kernel)⟩
theorem xin_addStack {g g1 : qHp} {rc : Int} {E : String} (h : cX_addStack g rc E g1) : xin [xIA, xIS] E := by
  obtain ⟨h, -⟩ := h
  rcases h with ⟨rfl, -⟩ | ⟨rfl, -⟩
  · exact Or.inl rfl
  · exact Or.inr (Or.inl rfl)
theorem KA_addStack {V : qHp} {S : St} {R : Int → Int} {g g1 : qHp} {a b c v : Int} (I : lq V S R g) (A : aI V S) (hn : qNm g) (h : hcQ [xIA, xIS] [-1002, -1003] (cP_addStack g a) (cX_addStack g a) v g1) : ∃ V' S' k r, sp_addStack a V S k r V' S' ∧ v = ecd [-1002, -1003] k r ∧ lq V' S' R g1 := by
  obtain ⟨I1, rfl, rfl, rfl⟩ := I
  obtain ⟨k, r, ⟨s1, s2, s3⟩, s4⟩ := hc_sp (sp := fun k r => sp_addStack a (vA g) (stA g) k r (vA g1) (stA g1) ∧ cInv g1 ∧ ∀ j, 23 ≤ j → g1 j = g j) (fun k r q => C_addStack I1 hn (lq_cm A) q) h
  exact ⟨_, _, k, r, s1, s4, s2, rfl, rfl, s3 23 (by decide)⟩
theorem xin_addBox {g g1 : qHp} {w s : Int} {E : String} (h : cX_addBox g w s E g1) : xin [xIO, xIA, xUO, xIS] E := by
  obtain ⟨h, -⟩ := h
  rcases h with ⟨rfl, -⟩ | ⟨rfl, -⟩ | ⟨rfl, -⟩ | ⟨rfl, -⟩
  · exact Or.inl rfl
  · exact Or.inr (Or.inl rfl)
  · exact Or.inr (Or.inr (Or.inl rfl))
  · exact Or.inr (Or.inr (Or.inr (Or.inl rfl)))
theorem KA_addBox {V : qHp} {S : St} {R : Int → Int} {g g1 : qHp} {a b c v : Int} (I : lq V S R g) (A : aI V S) (hn : qNm g) (h : hcQ [xIO, xIA, xUO, xIS] [-1001, -1002, -1004, -1003] (cP_addBox g a b) (cX_addBox g a b) v g1) : ∃ V' S' k r, sp_addBox a b V S k r V' S' ∧ v = ecd [-1001, -1002, -1004, -1003] k r ∧ lq V' S' R g1 := by
  obtain ⟨I1, rfl, rfl, rfl⟩ := I
  obtain ⟨k, r, ⟨s1, s2, s3⟩, s4⟩ := hc_sp (sp := fun k r => sp_addBox a b (vA g) (stA g) k r (vA g1) (stA g1) ∧ cInv g1 ∧ ∀ j, 23 ≤ j → g1 j = g j) (fun k r q => C_addBox I1 hn (lq_cm A) q) h
  exact ⟨_, _, k, r, s1, s4, s2, rfl, rfl, s3 23 (by decide)⟩
theorem xin_weight {g g1 : qHp} {x : Int} {E : String} (h : cX_weight g x E g1) : xin [xIO] E := by
  obtain ⟨h, -⟩ := h
  rcases h with ⟨rfl, -⟩
  · exact Or.inl rfl
theorem KA_weight {V : qHp} {S : St} {R : Int → Int} {g g1 : qHp} {a b c v : Int} (I : lq V S R g) (A : aI V S) (hn : qNm g) (h : hcQ [xIO] [-1001] (cP_weight g a) (cX_weight g a) v g1) : v = aq2 V S a ∧ lq V S R g1 := by
  obtain ⟨I1, rfl, rfl, rfl⟩ := I
  obtain ⟨k, r, ⟨s1, s2, s3⟩, s4⟩ := hc_sp (sp := fun k r => sp_weight a (vA g) (stA g) k r (vA g1) (stA g1) ∧ cInv g1 ∧ ∀ j, 23 ≤ j → g1 j = g j) (fun k r q => C_weight I1 hn (lq_cm A) q) h
  obtain ⟨e1, e2, e3⟩ := q_A1 (fun _ q => q) s1 s4
  exact ⟨e1, s2, e2, e3, s3 23 (by decide)⟩
theorem xin_stackOf {g g1 : qHp} {x : Int} {E : String} (h : cX_stackOf g x E g1) : xin [xIO] E := by
  obtain ⟨h, -⟩ := h
  rcases h with ⟨rfl, -⟩
  · exact Or.inl rfl
theorem KA_stackOf {V : qHp} {S : St} {R : Int → Int} {g g1 : qHp} {a b c v : Int} (I : lq V S R g) (A : aI V S) (hn : qNm g) (h : hcQ [xIO] [-1001] (cP_stackOf g a) (cX_stackOf g a) v g1) : v = aq3 S a ∧ lq V S R g1 := by
  obtain ⟨I1, rfl, rfl, rfl⟩ := I
  obtain ⟨k, r, ⟨s1, s2, s3⟩, s4⟩ := hc_sp (sp := fun k r => sp_stackOf a (vA g) (stA g) k r (vA g1) (stA g1) ∧ cInv g1 ∧ ∀ j, 23 ≤ j → g1 j = g j) (fun k r q => C_stackOf I1 hn (lq_cm A) q) h
  obtain ⟨e1, e2, e3⟩ := q_A1 (fun _ q => q) s1 s4
  exact ⟨e1, s2, e2, e3, s3 23 (by decide)⟩
theorem xin_level {g g1 : qHp} {x : Int} {E : String} (h : cX_level g x E g1) : xin [xIO] E := by
  obtain ⟨h, -⟩ := h
  rcases h with ⟨rfl, -⟩
  · exact Or.inl rfl
theorem KA_level {V : qHp} {S : St} {R : Int → Int} {g g1 : qHp} {a b c v : Int} (I : lq V S R g) (A : aI V S) (hn : qNm g) (h : hcQ [xIO] [-1001] (cP_level g a) (cX_level g a) v g1) : v = aq4 S a ∧ lq V S R g1 := by
  obtain ⟨I1, rfl, rfl, rfl⟩ := I
  obtain ⟨k, r, ⟨s1, s2, s3⟩, s4⟩ := hc_sp (sp := fun k r => sp_level a (vA g) (stA g) k r (vA g1) (stA g1) ∧ cInv g1 ∧ ∀ j, 23 ≤ j → g1 j = g j) (fun k r q => C_level I1 hn (lq_cm A) q) h
  obtain ⟨e1, e2, e3⟩ := q_A1 (fun _ q => q) s1 s4
  exact ⟨e1, s2, e2, e3, s3 23 (by decide)⟩
theorem xin_above {g g1 : qHp} {x : Int} {E : String} (h : cX_above g x E g1) : xin [xIO] E := by
  obtain ⟨h, -⟩ := h
  rcases h with ⟨rfl, -⟩
  · exact Or.inl rfl
theorem KA_above {V : qHp} {S : St} {R : Int → Int} {g g1 : qHp} {a b c v : Int} (I : lq V S R g) (A : aI V S) (hn : qNm g) (h : hcQ [xIO] [-1001] (cP_above g a) (cX_above g a) v g1) : v = aq5 S a ∧ lq V S R g1 := by
  obtain ⟨I1, rfl, rfl, rfl⟩ := I
  obtain ⟨k, r, ⟨s1, s2, s3⟩, s4⟩ := hc_sp (sp := fun k r => sp_above a (vA g) (stA g) k r (vA g1) (stA g1) ∧ cInv g1 ∧ ∀ j, 23 ≤ j → g1 j = g j) (fun k r q => C_above I1 hn (lq_cm A) q) h
  obtain ⟨e1, e2, e3⟩ := q_A1 (fun _ q => q) s1 s4
  exact ⟨e1, s2, e2, e3, s3 23 (by decide)⟩
theorem xin_height {g g1 : qHp} {s : Int} {E : String} (h : cX_height g s E g1) : xin [xIO] E := by
  obtain ⟨h, -⟩ := h
  rcases h with ⟨rfl, -⟩
  · exact Or.inl rfl
theorem KA_height {V : qHp} {S : St} {R : Int → Int} {g g1 : qHp} {a b c v : Int} (I : lq V S R g) (A : aI V S) (hn : qNm g) (h : hcQ [xIO] [-1001] (cP_height g a) (cX_height g a) v g1) : v = aq6 V S a ∧ lq V S R g1 := by
  obtain ⟨I1, rfl, rfl, rfl⟩ := I
  obtain ⟨k, r, ⟨s1, s2, s3⟩, s4⟩ := hc_sp (sp := fun k r => sp_height a (vA g) (stA g) k r (vA g1) (stA g1) ∧ cInv g1 ∧ ∀ j, 23 ≤ j → g1 j = g j) (fun k r q => C_height I1 hn (lq_cm A) q) h
  obtain ⟨e1, e2, e3⟩ := q_A1 (fun _ q => q) s1 s4
  exact ⟨e1, s2, e2, e3, s3 23 (by decide)⟩
theorem xin_boxAt {g g1 : qHp} {s k : Int} {E : String} (h : cX_boxAt g s k E g1) : xin [xIO, xNS] E := by
  obtain ⟨h, -⟩ := h
  rcases h with ⟨rfl, -⟩ | ⟨rfl, -⟩
  · exact Or.inl rfl
  · exact Or.inr (Or.inl rfl)
theorem KA_boxAt {V : qHp} {S : St} {R : Int → Int} {g g1 : qHp} {a b c v : Int} (I : lq V S R g) (A : aI V S) (hn : qNm g) (h : hcQ [xIO, xNS] [-1001, -1005] (cP_boxAt g a b) (cX_boxAt g a b) v g1) : v = aq7 V S a b ∧ lq V S R g1 := by
  obtain ⟨I1, rfl, rfl, rfl⟩ := I
  obtain ⟨k, r, ⟨s1, s2, s3⟩, s4⟩ := hc_sp (sp := fun k r => sp_boxAt a b (vA g) (stA g) k r (vA g1) (stA g1) ∧ cInv g1 ∧ ∀ j, 23 ≤ j → g1 j = g j) (fun k r q => C_boxAt I1 hn (lq_cm A) q) h
  obtain ⟨e1, e2, e3⟩ := q_A2 (fun _ _ q => q) s1 s4
  exact ⟨e1, s2, e2, e3, s3 23 (by decide)⟩
theorem xin_hold {g g1 : qHp} {x kd ut : Int} {E : String} (h : cX_hold g x kd ut E g1) : xin [xIO, xIA] E := by
  obtain ⟨h, -⟩ := h
  rcases h with ⟨rfl, -⟩ | ⟨rfl, -⟩
  · exact Or.inl rfl
  · exact Or.inr (Or.inl rfl)
theorem KA_hold {V : qHp} {S : St} {R : Int → Int} {g g1 : qHp} {a b c v : Int} (I : lq V S R g) (A : aI V S) (hn : qNm g) (h : hcQ [xIO, xIA] [-1001, -1002] (cP_hold g a (chI b) c) (cX_hold g a (chI b) c) v g1) : ∃ V' S' k r, sp_hold a (chI b) c V S k r V' S' ∧ v = ecd [-1001, -1002] k r ∧ lq V' S' R g1 := by
  obtain ⟨I1, rfl, rfl, rfl⟩ := I
  obtain ⟨k, r, ⟨s1, s2, s3⟩, s4⟩ := hc_sp (sp := fun k r => sp_hold a (chI b) c (vA g) (stA g) k r (vA g1) (stA g1) ∧ cInv g1 ∧ ∀ j, 23 ≤ j → g1 j = g j) (fun k r q => C_hold I1 hn (lq_cm A) q) h
  exact ⟨_, _, k, r, s1, s4, s2, rfl, rfl, s3 23 (by decide)⟩
theorem xin_release {g g1 : qHp} {x : Int} {E : String} (h : cX_release g x E g1) : xin [xIO, xIS] E := by
  obtain ⟨h, -⟩ := h
  rcases h with ⟨rfl, -⟩ | ⟨rfl, -⟩
  · exact Or.inl rfl
  · exact Or.inr (Or.inl rfl)
theorem KA_release {V : qHp} {S : St} {R : Int → Int} {g g1 : qHp} {a b c v : Int} (I : lq V S R g) (A : aI V S) (hn : qNm g) (h : hcQ [xIO, xIS] [-1001, -1003] (cP_release g a) (cX_release g a) v g1) : ∃ V' S' k r, sp_release a V S k r V' S' ∧ v = ecd [-1001, -1003] k r ∧ lq V' S' R g1 := by
  obtain ⟨I1, rfl, rfl, rfl⟩ := I
  obtain ⟨k, r, ⟨s1, s2, s3⟩, s4⟩ := hc_sp (sp := fun k r => sp_release a (vA g) (stA g) k r (vA g1) (stA g1) ∧ cInv g1 ∧ ∀ j, 23 ≤ j → g1 j = g j) (fun k r q => C_release I1 hn (lq_cm A) q) h
  exact ⟨_, _, k, r, s1, s4, s2, rfl, rfl, s3 23 (by decide)⟩
theorem xin_holdOf {g g1 : qHp} {x : Int} {E : String} (h : cX_holdOf g x E g1) : xin [xIO] E := by
  obtain ⟨h, -⟩ := h
  rcases h with ⟨rfl, -⟩
  · exact Or.inl rfl
theorem KA_holdOf {V : qHp} {S : St} {R : Int → Int} {g g1 : qHp} {a b c v : Int} (I : lq V S R g) (A : aI V S) (hn : qNm g) (h : hcQ [xIO] [-1001] (cP_holdOf g a) (cX_holdOf g a) v g1) : v = aq10 V S a ∧ lq V S R g1 := by
  obtain ⟨I1, rfl, rfl, rfl⟩ := I
  obtain ⟨k, r, ⟨s1, s2, s3⟩, s4⟩ := hc_sp (sp := fun k r => sp_holdOf a (vA g) (stA g) k r (vA g1) (stA g1) ∧ cInv g1 ∧ ∀ j, 23 ≤ j → g1 j = g j) (fun k r q => C_holdOf I1 hn (lq_cm A) q) h
  obtain ⟨e1, e2, e3⟩ := q_A1 (fun _ q => q) s1 s4
  exact ⟨e1, s2, e2, e3, s3 23 (by decide)⟩
theorem xin_heldUntil {g g1 : qHp} {x : Int} {E : String} (h : cX_heldUntil g x E g1) : xin [xIO, xNS] E := by
  obtain ⟨h, -⟩ := h
  rcases h with ⟨rfl, -⟩ | ⟨rfl, -⟩
  · exact Or.inl rfl
  · exact Or.inr (Or.inl rfl)
theorem KA_heldUntil {V : qHp} {S : St} {R : Int → Int} {g g1 : qHp} {a b c v : Int} (I : lq V S R g) (A : aI V S) (hn : qNm g) (h : hcQ [xIO, xNS] [-1001, -1005] (cP_heldUntil g a) (cX_heldUntil g a) v g1) : v = aq11 V S a ∧ lq V S R g1 := by
  obtain ⟨I1, rfl, rfl, rfl⟩ := I
  obtain ⟨k, r, ⟨s1, s2, s3⟩, s4⟩ := hc_sp (sp := fun k r => sp_heldUntil a (vA g) (stA g) k r (vA g1) (stA g1) ∧ cInv g1 ∧ ∀ j, 23 ≤ j → g1 j = g j) (fun k r q => C_heldUntil I1 hn (lq_cm A) q) h
  obtain ⟨e1, e2, e3⟩ := q_A2 (fun _ _ q => q) s1 s4
  exact ⟨e1, s2, e2, e3, s3 23 (by decide)⟩
theorem xin_pinnedAbove {g g1 : qHp} {x : Int} {E : String} (h : cX_pinnedAbove g x E g1) : xin [xIO] E := by
  obtain ⟨h, -⟩ := h
  rcases h with ⟨rfl, -⟩
  · exact Or.inl rfl
theorem KA_pinnedAbove {V : qHp} {S : St} {R : Int → Int} {g g1 : qHp} {a b c v : Int} (I : lq V S R g) (A : aI V S) (hn : qNm g) (h : hcQ [xIO] [-1001] (cP_pinnedAbove g a) (cX_pinnedAbove g a) v g1) : v = aq12 V S a ∧ lq V S R g1 := by
  obtain ⟨I1, rfl, rfl, rfl⟩ := I
  obtain ⟨k, r, ⟨s1, s2, s3⟩, s4⟩ := hc_sp (sp := fun k r => sp_pinnedAbove a (vA g) (stA g) k r (vA g1) (stA g1) ∧ cInv g1 ∧ ∀ j, 23 ≤ j → g1 j = g j) (fun k r q => C_pinnedAbove I1 hn (lq_cm A) q) h
  obtain ⟨e1, e2, e3⟩ := q_A1 (fun _ q => q) s1 s4
  exact ⟨e1, s2, e2, e3, s3 23 (by decide)⟩
theorem xin_why {g g1 : qHp} {x s : Int} {E : String} (h : cX_why g x s E g1) : xin [xIO] E := by
  obtain ⟨h, -⟩ := h
  rcases h with ⟨rfl, -⟩
  · exact Or.inl rfl
theorem KA_why {V : qHp} {S : St} {R : Int → Int} {g g1 : qHp} {a b c v : Int} (I : lq V S R g) (A : aI V S) (hn : qNm g) (h : hcQ [xIO] [-1001] (cP_why g a b) (cX_why g a b) v g1) : v = aq13 V S a b ∧ lq V S R g1 := by
  obtain ⟨I1, rfl, rfl, rfl⟩ := I
  obtain ⟨k, r, ⟨s1, s2, s3⟩, s4⟩ := hc_sp (sp := fun k r => sp_why a b (vA g) (stA g) k r (vA g1) (stA g1) ∧ cInv g1 ∧ ∀ j, 23 ≤ j → g1 j = g j) (fun k r q => C_why I1 hn (lq_cm A) q) h
  obtain ⟨e1, e2, e3⟩ := q_A1 (fun _ q => ⟨eps_of (fun _ _ => whyA_D) q.1, q.2⟩) s1 s4
  exact ⟨e1, s2, e2, e3, s3 23 (by decide)⟩
theorem xin_move {g g1 : qHp} {x s : Int} {E : String} (h : cX_move g x s E g1) : xin [xIO, xUO] E := by
  obtain ⟨h, -⟩ := h
  rcases h with ⟨rfl, -⟩ | ⟨rfl, -⟩
  · exact Or.inl rfl
  · exact Or.inr (Or.inl rfl)
theorem KA_move {V : qHp} {S : St} {R : Int → Int} {g g1 : qHp} {a b c v : Int} (I : lq V S R g) (A : aI V S) (hn : qNm g) (h : hcQ [xIO, xUO] [-1001, -1004] (cP_move g a b) (cX_move g a b) v g1) : ∃ V' S' k r, sp_move a b V S k r V' S' ∧ v = ecd [-1001, -1004] k r ∧ lq V' S' R g1 := by
  obtain ⟨I1, rfl, rfl, rfl⟩ := I
  obtain ⟨k, r, ⟨s1, s2, s3⟩, s4⟩ := hc_sp (sp := fun k r => sp_move a b (vA g) (stA g) k r (vA g1) (stA g1) ∧ cInv g1 ∧ ∀ j, 23 ≤ j → g1 j = g j) (fun k r q => C_move I1 hn (lq_cm A) q) h
  exact ⟨_, _, k, r, s1, s4, s2, rfl, rfl, s3 23 (by decide)⟩
theorem xin_planLength {g g1 : qHp} {b : Int} {E : String} (h : cX_planLength g b E g1) : xin [xIO, xNS] E := by
  rcases h with ⟨rfl, -⟩ | ⟨rfl, -⟩
  · exact Or.inl rfl
  · exact Or.inr (Or.inl rfl)
theorem KA_planLength {V : qHp} {S : St} {R : Int → Int} {g g1 : qHp} {a b c v : Int} (I : lq V S R g) (A : aI V S) (hn : qNm g) (h : hcQ [xIO, xNS] [-1001, -1005] (cP_planLength g a) (cX_planLength g a) v g1) : v = aqP V S a ∧ lq V S R g1 := by
  obtain ⟨I1, rfl, rfl, rfl⟩ := I
  obtain ⟨k, r, ⟨s1, s2, s3⟩, s4⟩ := hc_sp (sp := fun k r => sp_plan a (vA g) (stA g) k r (vA g1) (stA g1) ∧ cInv g1 ∧ ∀ j, 23 ≤ j → g1 j = g j) (fun k r q => C_planLength I1 hn (lq_cm A) q) h
  obtain ⟨e1, e2, e3⟩ := q_A2 (fun _ _ q => ⟨plan_val (aOK_A I1) q.1, q.2⟩) s1 s4
  exact ⟨e1, s2, e2, e3, s3 23 (by decide)⟩
theorem xin_planByTrying {g g1 : qHp} {b : Int} {E : String} (h : cX_planByTrying g b E g1) : xin [xIO, xNS] E := by
  rcases h with ⟨rfl, -⟩ | ⟨rfl, -⟩
  · exact Or.inl rfl
  · exact Or.inr (Or.inl rfl)
theorem KA_planByTrying {V : qHp} {S : St} {R : Int → Int} {g g1 : qHp} {a b c v : Int} (I : lq V S R g) (A : aI V S) (hn : qNm g) (h : hcQ [xIO, xNS] [-1001, -1005] (cP_planByTrying g a) (cX_planByTrying g a) v g1) : v = aqP V S a ∧ lq V S R g1 := by
  obtain ⟨I1, rfl, rfl, rfl⟩ := I
  obtain ⟨k, r, ⟨s1, s2, s3⟩, s4⟩ := hc_sp (sp := fun k r => sp_plan a (vA g) (stA g) k r (vA g1) (stA g1) ∧ cInv g1 ∧ ∀ j, 23 ≤ j → g1 j = g j) (fun k r q => C_planByTrying I1 hn (lq_cm A) q) h
  obtain ⟨e1, e2, e3⟩ := q_A2 (fun _ _ q => ⟨plan_val (aOK_A I1) q.1, q.2⟩) s1 s4
  exact ⟨e1, s2, e2, e3, s3 23 (by decide)⟩
theorem xin_planBox {g g1 : qHp} {b i : Int} {E : String} (h : cX_planBox g b i E g1) : xin [xIO, xNS] E := by
  rcases h with (⟨rfl, -⟩ | ⟨rfl, -⟩) | ⟨rfl, -⟩
  · exact Or.inl rfl
  · exact Or.inr (Or.inl rfl)
  · exact Or.inr (Or.inl rfl)
theorem KA_planBox {V : qHp} {S : St} {R : Int → Int} {g g1 : qHp} {a b c v : Int} (I : lq V S R g) (A : aI V S) (hn : qNm g) (h : hcQ [xIO, xNS] [-1001, -1005] (cP_planBox g a b) (cX_planBox g a b) v g1) : v = aq17 V S a b ∧ lq V S R g1 := by
  obtain ⟨I1, rfl, rfl, rfl⟩ := I
  obtain ⟨k, r, ⟨s1, s2, s3⟩, s4⟩ := hc_sp (sp := fun k r => sp_planBox a b (vA g) (stA g) k r (vA g1) (stA g1) ∧ cInv g1 ∧ ∀ j, 23 ≤ j → g1 j = g j) (fun k r q => C_planBox I1 hn (lq_cm A) q) h
  obtain ⟨e1, e2, e3⟩ := q_A2 (fun _ _ q => ⟨eps_of (plB_u (aOK_A I1)) q.1, q.2⟩) s1 s4
  exact ⟨e1, s2, e2, e3, s3 23 (by decide)⟩
theorem xin_planStack {g g1 : qHp} {b i : Int} {E : String} (h : cX_planStack g b i E g1) : xin [xIO, xNS] E := by
  rcases h with (⟨rfl, -⟩ | ⟨rfl, -⟩) | ⟨rfl, -⟩
  · exact Or.inl rfl
  · exact Or.inr (Or.inl rfl)
  · exact Or.inr (Or.inl rfl)
theorem KA_planStack {V : qHp} {S : St} {R : Int → Int} {g g1 : qHp} {a b c v : Int} (I : lq V S R g) (A : aI V S) (hn : qNm g) (h : hcQ [xIO, xNS] [-1001, -1005] (cP_planStack g a b) (cX_planStack g a b) v g1) : v = aq18 V S a b ∧ lq V S R g1 := by
  obtain ⟨I1, rfl, rfl, rfl⟩ := I
  obtain ⟨k, r, ⟨s1, s2, s3⟩, s4⟩ := hc_sp (sp := fun k r => sp_planStack a b (vA g) (stA g) k r (vA g1) (stA g1) ∧ cInv g1 ∧ ∀ j, 23 ≤ j → g1 j = g j) (fun k r q => C_planStack I1 hn (lq_cm A) q) h
  obtain ⟨e1, e2, e3⟩ := q_A2 (fun _ _ q => ⟨eps_of (plS_u (aOK_A I1)) q.1, q.2⟩) s1 s4
  exact ⟨e1, s2, e2, e3, s3 23 (by decide)⟩
theorem xin_dig {g g1 : qHp} {b : Int} {E : String} (h : cX_dig g b E g1) : xin [xIO, xNS] E := by
  rcases h with ⟨rfl, -⟩ | ⟨rfl, -⟩
  · exact Or.inl rfl
  · exact Or.inr (Or.inl rfl)
theorem KA_dig {V : qHp} {S : St} {R : Int → Int} {g g1 : qHp} {a b c v : Int} (I : lq V S R g) (A : aI V S) (hn : qNm g) (h : hcQ [xIO, xNS] [-1001, -1005] (cP_dig g a) (cX_dig g a) v g1) : ∃ V' S' k r, sp_dig a V S k r V' S' ∧ v = ecd [-1001, -1005] k r ∧ lq V' S' R g1 := by
  obtain ⟨I1, rfl, rfl, rfl⟩ := I
  obtain ⟨k, r, ⟨s1, s2, s3⟩, s4⟩ := hc_sp (sp := fun k r => sp_dig a (vA g) (stA g) k r (vA g1) (stA g1) ∧ cInv g1 ∧ ∀ j, 23 ≤ j → g1 j = g j) (fun k r q => C_dig I1 hn (lq_cm A) q) h
  exact ⟨_, _, k, r, s1, s4, s2, rfl, rfl, s3 23 (by decide)⟩
theorem xin_book {g g1 : qHp} {x h l : Int} {E : String} (h : cX_book g x h l E g1) : xin [xIO, xIA, xUO, xIS] E := by
  obtain ⟨h, -⟩ := h
  rcases h with ⟨rfl, -⟩ | ⟨rfl, -⟩ | ⟨rfl, -⟩ | ⟨rfl, -⟩
  · exact Or.inl rfl
  · exact Or.inr (Or.inl rfl)
  · exact Or.inr (Or.inr (Or.inl rfl))
  · exact Or.inr (Or.inr (Or.inr (Or.inl rfl)))
theorem KA_book {V : qHp} {S : St} {R : Int → Int} {g g1 : qHp} {a b c v : Int} (I : lq V S R g) (A : aI V S) (hn : qNm g) (h : hcQ [xIO, xIA, xUO, xIS] [-1001, -1002, -1004, -1003] (cP_book g a b c) (cX_book g a b c) v g1) : ∃ V' S' k r, sp_book a b c V S k r V' S' ∧ v = ecd [-1001, -1002, -1004, -1003] k r ∧ lq V' S' R g1 := by
  obtain ⟨I1, rfl, rfl, rfl⟩ := I
  obtain ⟨k, r, ⟨s1, s2, s3⟩, s4⟩ := hc_sp (sp := fun k r => sp_book a b c (vA g) (stA g) k r (vA g1) (stA g1) ∧ cInv g1 ∧ ∀ j, 23 ≤ j → g1 j = g j) (fun k r q => C_book I1 hn (lq_cm A) q) h
  exact ⟨_, _, k, r, s1, s4, s2, rfl, rfl, s3 23 (by decide)⟩
theorem xin_cancel {g g1 : qHp} {a : Int} {E : String} (h : cX_cancel g a E g1) : xin [xIO, xIS] E := by
  obtain ⟨h, -⟩ := h
  rcases h with ⟨rfl, -⟩ | ⟨rfl, -⟩
  · exact Or.inl rfl
  · exact Or.inr (Or.inl rfl)
theorem KA_cancel {V : qHp} {S : St} {R : Int → Int} {g g1 : qHp} {a b c v : Int} (I : lq V S R g) (A : aI V S) (hn : qNm g) (h : hcQ [xIO, xIS] [-1001, -1003] (cP_cancel g a) (cX_cancel g a) v g1) : ∃ V' S' k r, sp_cancel a V S k r V' S' ∧ v = ecd [-1001, -1003] k r ∧ lq V' S' R g1 := by
  obtain ⟨I1, rfl, rfl, rfl⟩ := I
  obtain ⟨k, r, ⟨s1, s2, s3⟩, s4⟩ := hc_sp (sp := fun k r => sp_cancel a (vA g) (stA g) k r (vA g1) (stA g1) ∧ cInv g1 ∧ ∀ j, 23 ≤ j → g1 j = g j) (fun k r q => C_cancel I1 hn (lq_cm A) q) h
  exact ⟨_, _, k, r, s1, s4, s2, rfl, rfl, s3 23 (by decide)⟩
theorem xin_stateOf {g g1 : qHp} {a : Int} {E : String} (h : cX_stateOf g a E g1) : xin [xIO] E := by
  obtain ⟨h, -⟩ := h
  rcases h with ⟨rfl, -⟩
  · exact Or.inl rfl
theorem KA_stateOf {V : qHp} {S : St} {R : Int → Int} {g g1 : qHp} {a b c v : Int} (I : lq V S R g) (A : aI V S) (hn : qNm g) (h : hcQ [xIO] [-1001] (cP_stateOf g a) (cX_stateOf g a) v g1) : v = aq22 V a ∧ lq V S R g1 := by
  obtain ⟨I1, rfl, rfl, rfl⟩ := I
  obtain ⟨k, r, ⟨s1, s2, s3⟩, s4⟩ := hc_sp (sp := fun k r => sp_stateOf a (vA g) (stA g) k r (vA g1) (stA g1) ∧ cInv g1 ∧ ∀ j, 23 ≤ j → g1 j = g j) (fun k r q => C_stateOf I1 hn (lq_cm A) q) h
  obtain ⟨e1, e2, e3⟩ := q_A1 (fun _ q => q) s1 s4
  exact ⟨e1, s2, e2, e3, s3 23 (by decide)⟩
theorem xin_appointmentOf {g g1 : qHp} {x : Int} {E : String} (h : cX_appointmentOf g x E g1) : xin [xIO, xNS] E := by
  obtain ⟨h, -⟩ := h
  rcases h with ⟨rfl, -⟩ | ⟨rfl, -⟩
  · exact Or.inl rfl
  · exact Or.inr (Or.inl rfl)
theorem KA_appointmentOf {V : qHp} {S : St} {R : Int → Int} {g g1 : qHp} {a b c v : Int} (I : lq V S R g) (A : aI V S) (hn : qNm g) (h : hcQ [xIO, xNS] [-1001, -1005] (cP_appointmentOf g a) (cX_appointmentOf g a) v g1) : v = aq23 V S a ∧ lq V S R g1 := by
  obtain ⟨I1, rfl, rfl, rfl⟩ := I
  obtain ⟨k, r, ⟨s1, s2, s3⟩, s4⟩ := hc_sp (sp := fun k r => sp_appointmentOf a (vA g) (stA g) k r (vA g1) (stA g1) ∧ cInv g1 ∧ ∀ j, 23 ≤ j → g1 j = g j) (fun k r q => C_appointmentOf I1 hn (lq_cm A) q) h
  obtain ⟨e1, e2, e3⟩ := q_A2 (fun _ _ q => q) s1 s4
  exact ⟨e1, s2, e2, e3, s3 23 (by decide)⟩
theorem xin_inLane {g g1 : qHp} {l h : Int} {E : String} (h : cX_inLane g l h E g1) : xin [xIO, xIA] E := by
  obtain ⟨h, -⟩ := h
  rcases h with ⟨rfl, -⟩ | ⟨rfl, -⟩
  · exact Or.inl rfl
  · exact Or.inr (Or.inl rfl)
theorem KA_inLane {V : qHp} {S : St} {R : Int → Int} {g g1 : qHp} {a b c v : Int} (I : lq V S R g) (A : aI V S) (hn : qNm g) (h : hcQ [xIO, xIA] [-1001, -1002] (cP_inLane g a b) (cX_inLane g a b) v g1) : v = aq24 V a b ∧ lq V S R g1 := by
  obtain ⟨I1, rfl, rfl, rfl⟩ := I
  obtain ⟨k, r, ⟨s1, s2, s3⟩, s4⟩ := hc_sp (sp := fun k r => sp_inLane a b (vA g) (stA g) k r (vA g1) (stA g1) ∧ cInv g1 ∧ ∀ j, 23 ≤ j → g1 j = g j) (fun k r q => C_inLane I1 hn (lq_cm A) q) h
  obtain ⟨e1, e2, e3⟩ := q_A2 (fun _ _ q => q) s1 s4
  exact ⟨e1, s2, e2, e3, s3 23 (by decide)⟩
theorem xin_firstHour {g g1 : qHp} {x : Int} {E : String} (h : cX_firstHour g x E g1) : xin [xIO, xNS] E := by
  obtain ⟨h, -⟩ := h
  rcases h with ⟨rfl, -⟩ | ⟨rfl, -⟩
  · exact Or.inl rfl
  · exact Or.inr (Or.inl rfl)
theorem KA_firstHour {V : qHp} {S : St} {R : Int → Int} {g g1 : qHp} {a b c v : Int} (I : lq V S R g) (A : aI V S) (hn : qNm g) (h : hcQ [xIO, xNS] [-1001, -1005] (cP_firstHour g a) (cX_firstHour g a) v g1) : v = aq25 V S a ∧ lq V S R g1 := by
  obtain ⟨I1, rfl, rfl, rfl⟩ := I
  obtain ⟨k, r, ⟨s1, s2, s3⟩, s4⟩ := hc_sp (sp := fun k r => sp_firstHour a (vA g) (stA g) k r (vA g1) (stA g1) ∧ cInv g1 ∧ ∀ j, 23 ≤ j → g1 j = g j) (fun k r q => C_firstHour I1 hn (lq_cm A) q) h
  obtain ⟨e1, e2, e3⟩ := q_A2 (fun _ _ q => ⟨eps_of fh_u q.1, q.2⟩) s1 s4
  exact ⟨e1, s2, e2, e3, s3 23 (by decide)⟩
theorem xin_pass {g g1 : qHp} {n : Int} {E : String} (h : cX_pass g n E g1) : xin [xIA] E := by
  obtain ⟨h, -⟩ := h
  rcases h with ⟨rfl, -⟩
  · exact Or.inl rfl
theorem KA_pass {V : qHp} {S : St} {R : Int → Int} {g g1 : qHp} {a b c v : Int} (I : lq V S R g) (A : aI V S) (hn : qNm g) (h : hcQ [xIA] [-1002] (cP_pass g a) (cX_pass g a) v g1) : ∃ V' S' k r, sp_pass a V S k r V' S' ∧ v = ecd [-1002] k r ∧ lq V' S' R g1 := by
  obtain ⟨I1, rfl, rfl, rfl⟩ := I
  obtain ⟨k, r, ⟨s1, s2, s3⟩, s4⟩ := hc_sp (sp := fun k r => sp_pass a (vA g) (stA g) k r (vA g1) (stA g1) ∧ cInv g1 ∧ ∀ j, 23 ≤ j → g1 j = g j) (fun k r q => C_pass I1 hn (lq_cm A) q) h
  exact ⟨_, _, k, r, s1, s4, s2, rfl, rfl, s3 23 (by decide)⟩
