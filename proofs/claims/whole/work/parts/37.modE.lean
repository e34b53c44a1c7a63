/-! the reference: the first plan of a length, depth first -/
theorem top_iff {g : qHp} {y b : Int} (o : yK g y) (hin : inS (stM g y) b) : (stM g y (soS (stM g y) b)).head? = some b ↔ ovR (stM g y) b 0 := by
  constructor
  · intro h
    obtain ⟨l, e⟩ := hd_cons h
    refine ⟨soS (stM g y) b, by rw [e]; exact List.mem_cons_self, ?_⟩
    rw [e]
    unfold ixO
    rw [if_pos rfl]
  · intro h
    obtain ⟨s, e⟩ := ov0_hd h
    obtain ⟨l, e2⟩ := hd_cons e
    rw [soS_at o (by rw [e2]; exact List.mem_cons_self)]
    exact e
def befL : List Int → Int → List Int → Prop
  | [], f, m :: _ => m < f
  | [], _, [] => False
  | p :: P, f, m :: L => m < p ∨ (m = p ∧ befL P f L)
  | _ :: _, _, [] => False
theorem bef_up {f m : Int} : ∀ {P L : List Int}, befL P m L → befL P f L ∨ ∃ m' R, L = P ++ m' :: R ∧ f ≤ m' ∧ m' < m
  | [], [], h => by exact absurd h (by simp [befL])
  | [], m0 :: R, h => by
    have h : m0 < m := h
    by_cases q : m0 < f
    · exact Or.inl q
    · exact Or.inr ⟨m0, R, rfl, by omega, h⟩
  | p :: P, [], h => by exact absurd h (by simp [befL])
  | p :: P, m0 :: R, h => by
    rcases h with h | ⟨rfl, h⟩
    · exact Or.inl (Or.inl h)
    · rcases bef_up (f := f) h with h | ⟨m', R', e, h1, h2⟩
      · exact Or.inl (Or.inr ⟨rfl, h⟩)
      · exact Or.inr ⟨m', R', by rw [e]; rfl, h1, h2⟩
theorem bef_sn {f p : Int} : ∀ {P L : List Int}, befL (P ++ [p]) f L → befL P p L ∨ ∃ R, L = P ++ p :: R ∧ befL [] f R
  | [], [], h => by exact absurd h (by simp [befL])
  | [], m0 :: R, h => by
    rcases h with h | ⟨rfl, h⟩
    · exact Or.inl h
    · exact Or.inr ⟨R, rfl, h⟩
  | q :: P, [], h => by exact absurd h (by simp [befL])
  | q :: P, m0 :: R, h => by
    rcases h with h | ⟨rfl, h⟩
    · exact Or.inl (Or.inl h)
    · rcases bef_sn h with h | ⟨R', e, h1⟩
      · exact Or.inl (Or.inr ⟨rfl, h⟩)
      · exact Or.inr ⟨R', by rw [e]; rfl, h1⟩
theorem bef_sn2 {f p : Int} : ∀ {P L : List Int}, befL P p L → befL (P ++ [p]) f L
  | [], [], h => by exact absurd h (by simp [befL])
  | [], m0 :: R, h => Or.inl h
  | q :: P, [], h => by exact absurd h (by simp [befL])
  | q :: P, m0 :: R, h => by
    rcases h with h | ⟨rfl, h⟩
    · exact Or.inl h
    · exact Or.inr ⟨rfl, bef_sn2 h⟩
theorem bef_app {f : Int} : ∀ {P R : List Int}, befL [] f R → befL P f (P ++ R)
  | [], R, h => h
  | p :: P, R, h => Or.inr ⟨rfl, bef_app h⟩
theorem lex_bef {f : Int} : ∀ {A B : List Int}, lexL A B → befL B f A
  | [], _, h => by exact absurd h (by simp [lexL])
  | a :: A, [], h => by exact absurd h (by simp [lexL])
  | a :: A, b :: B, h => by
    rcases h with h | ⟨rfl, h⟩
    · exact Or.inl h
    · exact Or.inr ⟨rfl, lex_bef h⟩
/-- how much of the search is left -/
def remX : List Int → Int → Int
  | [], f => (81 - f) * 45212176
  | [p], f => (80 - p) * 45212176 + (81 - f) * 551368
  | [p, q], f => (80 - p) * 45212176 + (80 - q) * 551368 + (81 - f) * 6724
  | [p, q, u], f => (80 - p) * 45212176 + (80 - q) * 551368 + (80 - u) * 6724 + (81 - f) * 82
  | p :: q :: u :: v :: _, f => (80 - p) * 45212176 + (80 - q) * 551368 + (80 - u) * 6724 + (80 - v) * 82 + (81 - f)
def rmD (d : Int) (P : List Int) (f : Int) : Int := if d < 0 then 0 else remX P f
theorem rem_pos {P : List Int} {f : Int} (hf : f ≤ 80) (hd : digs P) (hl : P.length ≤ 4) : 0 < remX P f := by
  refine four (P := fun P => 0 < remX P f) ?_ (fun p hp => ?_) (fun p q hp hq => ?_) (fun p q u hp hq hu => ?_) (fun p q u v hp hq hu hv => ?_) hd hl <;> (simp only [remX]; omega)
theorem rem_dn {P : List Int} {f m : Int} (h0 : 0 ≤ f) (hf : f ≤ m) (hm : m < 80) (hd : digs P) (hl : P.length ≤ 3) : remX (P ++ [m]) 0 < remX P f := by
  have key : P.length ≤ 3 → remX (P ++ [m]) 0 < remX P f := by
    refine four (P := fun P => P.length ≤ 3 → remX (P ++ [m]) 0 < remX P f) (fun _ => ?_) (fun p hp _ => ?_) (fun p q hp hq _ => ?_) (fun p q u hp hq hu _ => ?_) (fun p q u v hp hq hu hv h => ?_) hd (by omega)
    · show remX [m] 0 < remX [] f
      simp only [remX]
      omega
    · show remX [p, m] 0 < remX [p] f
      simp only [remX]
      omega
    · show remX [p, q, m] 0 < remX [p, q] f
      simp only [remX]
      omega
    · show remX [p, q, u, m] 0 < remX [p, q, u] f
      simp only [remX]
      omega
    · exfalso
      simp at h
  exact key hl
theorem rem_up {P : List Int} {f p : Int} (hf : f ≤ 80) (hp : 0 ≤ p ∧ p < 80) (hd : digs P) (hl : P.length ≤ 3) : remX P (p + 1) < remX (P ++ [p]) f := by
  have key : P.length ≤ 3 → remX P (p + 1) < remX (P ++ [p]) f := by
    refine four (P := fun P => P.length ≤ 3 → remX P (p + 1) < remX (P ++ [p]) f) (fun _ => ?_) (fun p1 h1 _ => ?_) (fun p1 q h1 hq _ => ?_) (fun p1 q u h1 hq hu _ => ?_) (fun p1 q u v h1 hq hu hv h => ?_) hd (by omega)
    · show remX [] (p + 1) < remX [p] f
      simp only [remX]
      omega
    · show remX [p1] (p + 1) < remX [p1, p] f
      simp only [remX]
      omega
    · show remX [p1, q] (p + 1) < remX [p1, q, p] f
      simp only [remX]
      omega
    · show remX [p1, q, u] (p + 1) < remX [p1, q, u, p] f
      simp only [remX]
      omega
    · exfalso
      simp at h
  exact key hl
abbrev runN (g : qHp) (b : Int) (L : List Int) (a z : St) : Prop := runR (g 23 2) (cut4 (g 24)) (wM g) (pnM g) b L a z
abbrev plnN (g : qHp) (b : Int) (L : List Int) : Prop := plnR (g 23 2) (cut4 (g 24)) (wM g) (pnM g) b (stM g 0) L
/-- what the search leaves alone -/
def fndF (g g1 : qHp) : Prop := (∀ j, 0 ≤ j → j < 4 → g1 29 j = g 29 j) ∧ (∀ j, 0 ≤ j → j < 16 → g1 30 j = g 30 j) ∧ ∀ k, k ≠ 29 → k ≠ 30 → k ≠ 31 → g1 k = g k
theorem fndF_0 (g : qHp) : fndF g g := ⟨fun _ _ _ => rfl, fun _ _ _ => rfl, fun _ _ _ _ => rfl⟩
theorem fndF_tr {g g1 g2 : qHp} (a : fndF g g1) (b : fndF g1 g2) : fndF g g2 := ⟨fun j h h2 => (b.1 j h h2).trans (a.1 j h h2), fun j h h2 => (b.2.1 j h h2).trans (a.2.1 j h h2), fun k h h2 h3 => (b.2.2 k h h2 h3).trans (a.2.2 k h h2 h3)⟩
theorem fndF_yK {g g1 : qHp} (F : fndF g g1) (o : yK g 0) : yK g1 0 ∧ stM g1 0 = stM g 0 := yK_eq (by rw [F.2.2 23 (by decide) (by decide) (by decide)]) (F.2.2 24 (by decide) (by decide) (by decide)) (fun j a c => by have := F.1 j a c; simpa using this) (fun j a c => by have := F.2.1 j a c; simpa using this) o
theorem fndF_w {g g1 : qHp} (F : fndF g g1) : g1 23 2 = g 23 2 ∧ g1 24 = g 24 ∧ wM g1 = wM g ∧ pnM g1 = pnM g := by
  have e := F.2.2 23 (by decide) (by decide) (by decide)
  refine ⟨by rw [e], F.2.2 24 (by decide) (by decide) (by decide), ?_, ?_⟩
  · show cGet (g1 23 4) (g1 25) 0 = _
    rw [e, F.2.2 25 (by decide) (by decide) (by decide)]
  · show (fun x => decide (cGet (g1 23 4) (g1 27) 45 x = 112)) = _
    rw [e, F.2.2 27 (by decide) (by decide) (by decide)]
theorem fndF_stp {g g1 : qHp} (F : fndF g g1) {z : St} {b m : Int} : stpN g1 z b m ↔ stpN g z b m := by
  obtain ⟨e1, e2, e3, e4⟩ := fndF_w F
  unfold stpN
  rw [e1, e2, e3, e4]
theorem fndF_pln {g g1 : qHp} (F : fndF g g1) (o : yK g 0) {b : Int} {L : List Int} : plnN g1 b L ↔ plnN g b L := by
  obtain ⟨e1, e2, e3, e4⟩ := fndF_w F
  unfold plnN
  rw [e1, e2, e3, e4, (fndF_yK F o).2]
/-- the boxes of a yard are those that are inside -/
abbrev insN (g : qHp) (z : St) : Prop := ∀ x, inS z x ↔ (0 ≤ x ∧ x < g 23 4 ∧ g 26 x = 1)
def ndsI (g g1 : qHp) (b : Int) (P : List Int) : Prop := digs P ∧ (∀ i : Nat, i < P.length → P[i]? = some (g1 31 (i : Int))) ∧ ∀ i : Nat, i ≤ P.length → yK g1 (i : Int) ∧ runN g b (P.take i) (stM g 0) (stM g1 (i : Int))
def dfsI (g g1 : qHp) (b many d f : Int) (P : List Int) : Prop := fndF g g1 ∧ ((d = -1 ∧ ∀ L, plnN g b L → (L.length : Int) ≠ many) ∨ (d = (P.length : Int) ∧ ndsI g g1 b P ∧ ∀ L, plnN g b L → (L.length : Int) = many → ¬ befL P f L))
section DFS
variable {g g1 : qHp} {b many d f : Int} {P : List Int}
theorem dfs_0 (o : yK g 0) (hm : ∀ L, plnN g b L → digs L) : dfsI g g b many 0 0 [] := by
  refine ⟨fndF_0 g, Or.inr ⟨rfl, ⟨?_, ?_, ?_⟩, ?_⟩⟩
  · intro _ h
    cases h
  · intro i h
    simp at h
  · intro i h
    have e : i = 0 := by simpa using h
    subst e
    exact ⟨o, rfl⟩
  · intro L hL _ hb
    cases L with
    | nil => exact hb
    | cons m L =>
      have hb : m < 0 := hb
      have := hm _ hL m List.mem_cons_self
      omega
theorem dfs_cut (o : yK g 0) (N : ndsI g g1 b P) {R : List Int} {z : St} (h : runN g b (P ++ R) (stM g 0) z) : runN g b R (stM g1 (P.length : Int)) z := by
  obtain ⟨y, a1, a2⟩ := run_app.mp h
  have q := (N.2.2 P.length (Nat.le_refl _)).2
  rw [List.take_length] at q
  have e := run_det o.1.2 (yOK_cut o) o.2.2.2.2.1 a1 q
  rw [e] at a2
  exact a2
theorem dfs_stp (o : yK g 0) (N : ndsI g g1 b P) {m : Int} {R : List Int} (h : plnN g b (P ++ m :: R)) : stpN g (stM g1 (P.length : Int)) b m := by
  obtain ⟨z, h1, h2⟩ := h
  obtain ⟨a', q, -⟩ := dfs_cut o N h1
  exact ⟨a', q⟩
/-- no move from f on, or nothing to be found here: a step back -/
theorem dfs_up {P1 : List Int} {p1 : Int} (I : dfsI g g1 b many d f (P1 ++ [p1])) (hd : 0 ≤ d) (hx : ∀ R, plnN g b ((P1 ++ [p1]) ++ R) → (((P1 ++ [p1]) ++ R).length : Int) = many → befL [] f R) : dfsI g g1 b many (d + -1) (p1 + 1) P1 := by
  obtain ⟨F, ⟨e, -⟩ | ⟨e, ⟨N1, N2, N3⟩, B⟩⟩ := I
  · omega
  · refine ⟨F, Or.inr ⟨by rw [e, List.length_append]; simp; omega, ⟨fun m h => N1 m (List.mem_append_left _ h), fun i h => ?_, fun i h => ?_⟩, fun L hL hl hb => ?_⟩⟩
    · rw [← N2 i (by rw [List.length_append]; omega), List.getElem?_append_left h]
    · have q := N3 i (by rw [List.length_append]; omega)
      rw [List.take_append_of_le_length h] at q
      exact q
    · rcases bef_up (f := p1) hb with h | ⟨m', R, e2, h1, h2⟩
      · exact B L hL hl (bef_sn2 h)
      · have e3 : m' = p1 := by omega
        subst e3
        have e4 : L = (P1 ++ [m']) ++ R := by rw [e2]; simp
        rw [e4] at hL hl
        refine B _ hL hl (bef_app (hx R hL hl))
theorem dfs_ex (I : dfsI g g1 b many 0 f []) (hx : ∀ R, plnN g b R → (R.length : Int) = many → befL [] f R) : dfsI g g1 b many (0 + -1) 0 [] := by
  obtain ⟨F, ⟨e, -⟩ | ⟨e, N, B⟩⟩ := I
  · omega
  · exact ⟨F, Or.inl ⟨rfl, fun L hL hl => B L hL hl (hx L hL hl)⟩⟩
/-- why a step back: no move -/
theorem dfs_nm (o : yK g 0) (N : ndsI g g1 b P) (hl : (P.length : Int) < many) (h : ∀ j, f ≤ j → ¬ stpN g (stM g1 (P.length : Int)) b j) : ∀ R, plnN g b (P ++ R) → ((P ++ R).length : Int) = many → befL [] f R := by
  intro R hR hl2
  cases R with
  | nil =>
    rw [List.append_nil] at hl2
    omega
  | cons m R =>
    show m < f
    by_cases q : m < f
    · exact q
    · exact absurd (dfs_stp o N hR) (h m (by omega))
/-- why a step back: at the end, and not dug out -/
theorem dfs_nt (o : yK g 0) (N : ndsI g g1 b P) (hl : (P.length : Int) = many) (hn : ¬ ovR (stM g1 (P.length : Int)) b 0) : ∀ R, plnN g b (P ++ R) → ((P ++ R).length : Int) = many → befL [] f R := by
  intro R hR hl2
  rw [List.length_append] at hl2
  have e : R = [] := List.length_eq_zero_iff.mp (by omega)
  subst e
  obtain ⟨z, h1, h2⟩ := hR
  have e : stM g1 (P.length : Int) = z := dfs_cut o N h1
  exact absurd (by rw [e]; exact h2) hn
/-- a step on -/
theorem dfs_dn {g2 : qHp} {m : Int} (o : yK g 0) (I : dfsI g g1 b many d f P) (hd : 0 ≤ d ∧ d < 5) (hf0 : 0 ≤ f) (hm : f ≤ m ∧ m < 80) (hs : stpN g (stM g1 d) b m) (h1 : ∀ j, f ≤ j → j < m → ¬ stpN g (stM g1 d) b j) (Q : cpQ (qUp g1 31 d m) g2 d (d + 1)) :
    yK g2 (d + 1) ∧ okM (g2 23 2) (cut4 (g2 24)) (wM g) (pnM g) (stM g2 (d + 1)) (soS (stM g2 (d + 1)) (m / 4)) (m % 4) (m / 4) ∧ dfsI g (mvM g2 (d + 1) (soS (stM g2 (d + 1)) (m / 4)) (m % 4) (m / 4)) b many (d + 1) 0 (P ++ [m]) := by
  obtain ⟨F, ⟨e, -⟩ | ⟨e, N, B⟩⟩ := I
  · omega
  have N0 := N
  obtain ⟨N1, N2, N3⟩ := N
  have eP : (P.length : Int) = d := e.symm
  have hy : ∀ y, yK g1 y → yK (qUp g1 31 d m) y ∧ stM (qUp g1 31 d m) y = stM g1 y := fun y q => yK_eq (by rw [qUp_row (by decide)]) (qUp_row (by decide)) (fun j _ _ => by rw [qUp_k (by decide)]) (fun j _ _ => by rw [qUp_k (by decide)]) q
  have hd1 := N3 P.length (Nat.le_refl _)
  rw [eP, List.take_length] at hd1
  obtain ⟨u1, u2⟩ := hy d hd1.1
  obtain ⟨t1, t2⟩ := cpQ_t Q u1
  rw [u2] at t2
  have r23 : g2 23 = g 23 := by rw [Q.2.2.2.2 23 (by decide) (by decide), qUp_row (by decide)]; exact F.2.2 23 (by decide) (by decide) (by decide)
  have r24 : g2 24 = g 24 := by rw [Q.2.2.2.2 24 (by decide) (by decide), qUp_row (by decide)]; exact F.2.2 24 (by decide) (by decide) (by decide)
  obtain ⟨z', s, t, x, hm4, hxb, ok, ez⟩ := hs
  obtain ⟨k1, k2, k3, k4, k5, k6, -⟩ := id ok
  have hc := o.1
  have hx4 : m / 4 = x := by omega
  have ht4 : m % 4 = t := by omega
  obtain ⟨l, hl⟩ := hd_cons k6
  have es : soS (stM g2 (d + 1)) x = s := soS_at t1 (by rw [t2, hl]; exact List.mem_cons_self)
  have ok2 : okM (g2 23 2) (cut4 (g2 24)) (wM g) (pnM g) (stM g2 (d + 1)) s t x := by
    rw [r23, r24, t2]
    exact ok
  rw [hx4, ht4, es]
  obtain ⟨m1, m2, m3, m4, m5, m6, m7, m8, m9, m10⟩ := mvM_ok t1 ok2
  have h29 := (t1.2.1 t m5.1 m5.2).1
  have h29 : 0 ≤ g2 29 (4 * (d + 1) + t) := h29
  have hot : ∀ y, y ≠ d + 1 → yK g1 y → yK (mvM g2 (d + 1) s t x) y ∧ stM (mvM g2 (d + 1) s t x) y = stM g1 y := by
    intro y hne q
    obtain ⟨v1, v2⟩ := hy y q
    obtain ⟨w1, w2⟩ := cpQ_o Q hne v1
    obtain ⟨x1, x2⟩ := mvM_ot m4 m5 ⟨h29, m8⟩ hne w1
    exact ⟨x1, by rw [x2, w2, v2]⟩
  refine ⟨t1, ok2, ⟨fun j a c => ?_, fun j a c => ?_, fun k a c c2 => ?_⟩, Or.inr ⟨by rw [List.length_append]; simp; omega, ⟨fun q hq => ?_, fun i hi => ?_, fun i hi => ?_⟩, fun L hL hl2 hb => ?_⟩⟩
  · unfold mvM
    rw [qUp_j (by omega), qUp_k (by decide), qUp_j (by omega), Q.2.2.1 j (by omega), qUp_k (by decide)]
    exact F.1 j a c
  · unfold mvM
    rw [qUp_k (by decide), qUp_j (by omega), qUp_k (by decide), Q.2.2.2.1 j (by omega), qUp_k (by decide)]
    exact F.2.1 j a c
  · rw [m3 k a c, Q.2.2.2.2 k a c, qUp_row c2]
    exact F.2.2 k a c c2
  · rcases List.mem_append.mp hq with q1 | q1
    · exact N1 q q1
    · have q2 : q = m := by simpa using q1
      omega
  · rw [m3 31 (by decide) (by decide), Q.2.2.2.2 31 (by decide) (by decide)]
    rw [List.length_append] at hi
    simp at hi
    by_cases q : i = P.length
    · rw [q, eP, qUp_s]
      simp
    · rw [qUp_j (by omega), ← N2 i (by omega), List.getElem?_append_left (by omega)]
  · rw [List.length_append] at hi
    simp at hi
    by_cases q : i = P.length + 1
    · have e2 : (i : Int) = d + 1 := by omega
      have e3 : (P ++ [m]).take i = P ++ [m] := by rw [q]; exact List.take_of_length_le (by rw [List.length_append]; simp)
      rw [e2, e3, m1, t2]
      exact ⟨m2, run_app.mpr ⟨_, hd1.2, _, ⟨s, t, x, hm4, hxb, ok, rfl⟩, rfl⟩⟩
    · have q3 := N3 i (by omega)
      obtain ⟨x1, x2⟩ := hot i (by omega) q3.1
      rw [x2, List.take_append_of_le_length (by omega)]
      exact ⟨x1, q3.2⟩
  · have hdg : digs L := by
      obtain ⟨z, h1, -⟩ := hL
      exact run_dig o.1.2 (yOK_cut o) o.2.2.2.2.1 h1
    rcases bef_sn hb with h | ⟨R, e2, h⟩
    · rcases bef_up (f := f) h with h | ⟨m', R, e2, h3, h4⟩
      · exact B L hL hl2 h
      · rw [e2] at hL
        have q := dfs_stp o N0 hL
        rw [eP] at q
        exact h1 m' h3 h4 q
    · cases R with
      | nil => exact h
      | cons m2 R =>
        have h : m2 < 0 := h
        have := hdg m2 (by rw [e2]; simp)
        omega
end DFS
/-- what a search finds -/
def fdQ (g g' : qHp) (b many r : Int) : Prop := fndF g g' ∧ ((r = 1 ∧ ∃ L, plnN g b L ∧ (L.length : Int) = many ∧ (∀ i : Nat, i < L.length → L[i]? = some (g' 31 (i : Int))) ∧ ∀ L', plnN g b L' → L'.length = L.length → ¬ lexL L' L) ∨ (r = 0 ∧ ∀ L, plnN g b L → (L.length : Int) ≠ many))
theorem dfs_hit {g g1 : qHp} {b many d f : Int} {P : List Int} (I : dfsI g g1 b many d f P) (hd : 0 ≤ d) (hm : d = many) (ht : ovR (stM g1 d) b 0) : fdQ g g1 b many 1 := by
  obtain ⟨F, ⟨e, -⟩ | ⟨e, ⟨N1, N2, N3⟩, B⟩⟩ := I
  · omega
  have q := N3 P.length (Nat.le_refl _)
  rw [← e, List.take_length] at q
  exact ⟨F, Or.inl ⟨rfl, P, ⟨_, q.2, ht⟩, by omega, N2, fun L' hL' hl h => B L' hL' (by omega) (lex_bef h)⟩⟩
theorem dfs_end {g g1 : qHp} {b many d f : Int} {P : List Int} (I : dfsI g g1 b many d f P) (hd : d < 0) : fdQ g g1 b many 0 := by
  obtain ⟨F, ⟨-, e⟩ | ⟨e, -⟩⟩ := I
  · exact ⟨F, Or.inr ⟨rfl, e⟩⟩
  · omega
theorem dig_sn {P : List Int} {m : Int} (h : digs P) (hm : 0 ≤ m ∧ m < 80) : digs (P ++ [m]) := fun q hq => by
  rcases List.mem_append.mp hq with q1 | q1
  · exact h q q1
  · have q2 : q = m := by simpa using q1
    rw [q2]
    exact hm
theorem sn_ex {P : List Int} (h : P.length ≠ 0) : ∃ P1 p1, P = P1 ++ [p1] := ⟨P.dropLast, P.getLast (fun e => h (by rw [e]; rfl)), (List.dropLast_concat_getLast _).symm⟩
theorem nm_in {g g1 : qHp} {b : Int} {P : List Int} (N : ndsI g g1 b P) (F : fndF g g1) (hi : insN g (stM g 0)) : insN g1 (stM g1 (P.length : Int)) := by
  intro x
  rw [F.2.2 23 (by decide) (by decide) (by decide), F.2.2 26 (by decide) (by decide) (by decide)]
  exact (inS_run (N.2.2 P.length (Nat.le_refl _)).2).trans (hi x)
set_option maxRecDepth 20000 in
theorem KX6_nextMove (g : qHp) (y : Int) (hy : -2147483648 ≤ y ∧ y < 2147483648) (fm : Int) (hfm : -2147483648 ≤ fm ∧ fm < 2147483648) (b : Int) (hb : -2147483648 ≤ b ∧ b < 2147483648) (hy2 : 0 ≤ y ∧ y < 6) (o : yK g y) (hio : insN g (stM g y)) (hf2 : 0 ≤ fm ∧ fm ≤ 80) : qC yX6_nextMove (.code yX6_nextMove cX6_nextMove 5 (some .int)) 3 0 (fun ad => [.ref (ad 23), .int (iI y), .int (iI fm), .int (iI b)]) g (qPi (fun (r : Int) (g' : qHp) => ((fm ≤ r ∧ r < 80 ∧ stpN g (stM g y) b r ∧ ∀ j, fm ≤ j → j < r → ¬ stpN g (stM g y) b j) ∨ (r = 80 ∧ ∀ j, fm ≤ j → ¬ stpN g (stM g y) b j)) ∧ g' = g)) qNo := by
  refine q_meth (by decide +kernel) rfl (fun _ => (Nat.le_of_ble_eq_true rfl)) (fun X ω C => ?_)
  refine q_nm (fun hn => ?_)
  have r23_4 : 0 ≤ g 23 4 ∧ g 23 4 ≤ 20 := hn 23 4
  have r23_2 : 0 ≤ g 23 2 ∧ g 23 2 ≤ 4 := hn 23 2
  refine q_loc [(0, .ref (ω.1 23)), (1, .int (iI y)), (2, .int (iI fm)), (3, .int (iI b))] ⟨rfl, rfl, rfl, rfl, trivial⟩ ?_
  refine q_iload_n C 2 dX6_nextMove_0 rfl rfl ?_
  refine q_istoreV C dX6_nextMove_1 (by decide) (fun v1 e1 => ?_)
  have loopA : ∀ (nA : Nat) (m : Int), ((81 - m) < (nA : Int)) → (fm ≤ m ∧ m ≤ 80) → (∀ j, fm ≤ j → j < m → ¬ stpN g (stM g y) b j) → qT X ω 5 0 (qEnd X ω (qPi (fun (r : Int) (g' : qHp) => ((fm ≤ r ∧ r < 80 ∧ stpN g (stM g y) b r ∧ ∀ j, fm ≤ j → j < r → ¬ stpN g (stM g y) b j) ∨ (r = 80 ∧ ∀ j, fm ≤ j → ¬ stpN g (stM g y) b j)) ∧ g' = g)) qNo 0) g 3 [(0, .ref (ω.1 23)), (1, .int (iI y)), (2, .int (iI fm)), (3, .int (iI b)), (4, .int (iI m))] [] := by
    intro nA
    induction nA with
    | zero => intro m hmA hm2 hI; exfalso; omega
    | succ nA ihA =>
      intro m hmA hm2 hI
      refine q_iload C dX6_nextMove_3 rfl ?_
      refine q_iconst C dX6_nextMove_5 ?_
      refine q_aload_n C 0 dX6_nextMove_6 rfl rfl ?_
      refine q_geti C (b := 23) 4 4 0 20 rfl (by decide) rfl in_X6 (by decide) fl_X6_52 rfl rfl rfl dX6_nextMove_7 (fun v7 e7 l7 u7 => ?_)
      refine q_imul C dX6_nextMove_10 ?_
      refine q_icmp_ge C 70 dX6_nextMove_11 (by decide) (by omega) (by omega) (fun c11 => ?_) (fun c11 => ?_)
      · refine q_bipush C dX6_nextMove_70 (by decide +kernel) ?_
        refine q_iretI C dX6_nextMove_72 (by omega) (by decide) ⟨Or.inr ⟨rfl, fun j a q => ?_⟩, rfl⟩
        have q2 := ((hio _).mp ((stp_iff o).mp q).2.1).2.1
        exact hI j a (by omega) q
      · refine q_iload C dX6_nextMove_14 rfl ?_
        refine q_iconst C dX6_nextMove_16 ?_
        refine q_idiv C dX6_nextMove_17 (by omega) (by omega) ?_
        refine q_iload_n C 3 dX6_nextMove_18 rfl rfl ?_
        refine q_icmp_eq C 64 dX6_nextMove_19 (by decide) (by omega) (by omega) (fun c19 => ?_) (fun c19 => ?_)
        · have hno : ¬ stpN g (stM g y) b m := by
            intro q
            obtain ⟨q1, q2, q3⟩ := (stp_iff o).mp q
            first
              | exact q1 (by omega)
              | (have := q3.2.2.2.1; omega)
              | (have := ((hio _).mp q2).2.2; omega)
              | (rcases h55 with ⟨z1, z2⟩ | ⟨z1, z2⟩; (· omega); (· exact z1 q3))
          refine q_iinc C dX6_nextMove_64 rfl (by decide) (fun v64 e64 => ?_)
          refine q_goto C 3 dX6_nextMove_67 (by decide) ?_
          refine q_loc [(0, .ref (ω.1 23)), (1, .int (iI y)), (2, .int (iI fm)), (3, .int (iI b)), (4, .int (iI v64))] ⟨rfl, rfl, rfl, rfl, rfl, trivial⟩ ?_
          exact ihA v64 (by omega) (by omega) (fun j a c => by by_cases e : j = m; (· rw [e]; exact hno); (· exact hI j a (by omega)))
        · refine q_iload C dX6_nextMove_22 rfl ?_
          refine q_iconst C dX6_nextMove_24 ?_
          refine q_irem C dX6_nextMove_25 (by omega) (by omega) ?_
          refine q_aload_n C 0 dX6_nextMove_26 rfl rfl ?_
          refine q_geti C (b := 23) 2 2 0 4 rfl (by decide) rfl in_X6 (by decide) fl_X6_59 rfl rfl rfl dX6_nextMove_27 (fun v27 e27 l27 u27 => ?_)
          refine q_icmp_ge C 64 dX6_nextMove_30 (by decide) (by omega) (by omega) (fun c30 => ?_) (fun c30 => ?_)
          · have hno : ¬ stpN g (stM g y) b m := by
              intro q
              obtain ⟨q1, q2, q3⟩ := (stp_iff o).mp q
              first
                | exact q1 (by omega)
                | (have := q3.2.2.2.1; omega)
                | (have := ((hio _).mp q2).2.2; omega)
                | (rcases h55 with ⟨z1, z2⟩ | ⟨z1, z2⟩; (· omega); (· exact z1 q3))
            refine q_iinc C dX6_nextMove_64 rfl (by decide) (fun v64 e64 => ?_)
            refine q_goto C 3 dX6_nextMove_67 (by decide) ?_
            refine q_loc [(0, .ref (ω.1 23)), (1, .int (iI y)), (2, .int (iI fm)), (3, .int (iI b)), (4, .int (iI v64))] ⟨rfl, rfl, rfl, rfl, rfl, trivial⟩ ?_
            exact ihA v64 (by omega) (by omega) (fun j a c => by by_cases e : j = m; (· rw [e]; exact hno); (· exact hI j a (by omega)))
          · refine q_aload_n C 0 dX6_nextMove_33 rfl rfl ?_
            refine q_getr C (b := 23) 6 rfl (by decide) rfl in_X6 (by decide) fl_X6_16 rfl dX6_nextMove_34 ?_
            refine q_iload C dX6_nextMove_37 rfl ?_
            refine q_iconst C dX6_nextMove_39 ?_
            refine q_idiv C dX6_nextMove_40 (by omega) (by omega) ?_
            refine q_zald C (b := 26) (n := 20) 0 1 rfl (by decide) (by decide) (by omega) (fun _ => rfl) dX6_nextMove_41 (fun v41 e41 l41 u41 => ?_)
            refine q_ifeq C 64 dX6_nextMove_42 (by decide) (by omega) (fun c42 => ?_) (fun c42 => ?_)
            · have hno : ¬ stpN g (stM g y) b m := by
                intro q
                obtain ⟨q1, q2, q3⟩ := (stp_iff o).mp q
                first
                  | exact q1 (by omega)
                  | (have := q3.2.2.2.1; omega)
                  | (have := ((hio _).mp q2).2.2; omega)
                  | (rcases h55 with ⟨z1, z2⟩ | ⟨z1, z2⟩; (· omega); (· exact z1 q3))
              refine q_iinc C dX6_nextMove_64 rfl (by decide) (fun v64 e64 => ?_)
              refine q_goto C 3 dX6_nextMove_67 (by decide) ?_
              refine q_loc [(0, .ref (ω.1 23)), (1, .int (iI y)), (2, .int (iI fm)), (3, .int (iI b)), (4, .int (iI v64))] ⟨rfl, rfl, rfl, rfl, rfl, trivial⟩ ?_
              exact ihA v64 (by omega) (by omega) (fun j a c => by by_cases e : j = m; (· rw [e]; exact hno); (· exact hI j a (by omega)))
            · refine q_aload_n C 0 dX6_nextMove_45 rfl rfl ?_
              refine q_iload_n C 1 dX6_nextMove_46 rfl rfl ?_
              refine q_iload C dX6_nextMove_47 rfl ?_
              refine q_iconst C dX6_nextMove_49 ?_
              refine q_idiv C dX6_nextMove_50 (by omega) (by omega) ?_
              refine q_iload C dX6_nextMove_51 rfl ?_
              refine q_iconst C dX6_nextMove_53 ?_
              refine q_irem C dX6_nextMove_54 (by omega) (by omega) ?_
              refine q_Vf0 C (KX6_canMove _ _ (by omega) _ (by omega) _ (by omega) hy2 o (by omega) ((hio _).mpr ⟨by omega, by omega, by omega⟩) (fun x hx => ((hio x).mp hx).2.1)) mX6_canMove ml_X6_84 dX6_nextMove_55 (by decide) (by decide) rfl rfl rfl (Nat.le_of_ble_eq_true rfl) rfl (by decide) rfl rfl (fun v55 l55 u55 h55 => ?_)
              refine q_ifeq C 64 dX6_nextMove_58 (by decide) (by omega) (fun c58 => ?_) (fun c58 => ?_)
              · have hno : ¬ stpN g (stM g y) b m := by
                  intro q
                  obtain ⟨q1, q2, q3⟩ := (stp_iff o).mp q
                  first
                    | exact q1 (by omega)
                    | (have := q3.2.2.2.1; omega)
                    | (have := ((hio _).mp q2).2.2; omega)
                    | (rcases h55 with ⟨z1, z2⟩ | ⟨z1, z2⟩; (· omega); (· exact z1 q3))
                refine q_iinc C dX6_nextMove_64 rfl (by decide) (fun v64 e64 => ?_)
                refine q_goto C 3 dX6_nextMove_67 (by decide) ?_
                refine q_loc [(0, .ref (ω.1 23)), (1, .int (iI y)), (2, .int (iI fm)), (3, .int (iI b)), (4, .int (iI v64))] ⟨rfl, rfl, rfl, rfl, rfl, trivial⟩ ?_
                exact ihA v64 (by omega) (by omega) (fun j a c => by by_cases e : j = m; (· rw [e]; exact hno); (· exact hI j a (by omega)))
              · refine q_iload C dX6_nextMove_61 rfl ?_
                exact q_iretI C dX6_nextMove_63 (by omega) (by decide) ⟨Or.inl ⟨by omega, by omega, (stp_iff o).mpr ⟨by omega, (hio _).mpr ⟨by omega, by omega, by omega⟩, by rcases h55 with ⟨z1, z2⟩ | ⟨z1, z2⟩; (· exact z1); (· omega)⟩, hI⟩, rfl⟩
  refine q_loc [(0, .ref (ω.1 23)), (1, .int (iI y)), (2, .int (iI fm)), (3, .int (iI b)), (4, .int (iI v1))] ⟨rfl, rfl, rfl, rfl, rfl, trivial⟩ ?_
  exact loopA ((81 - v1).toNat + 1) v1 (by omega) (by omega) (fun j a c => by exfalso; omega)
set_option maxRecDepth 20000 in
theorem KX6_finds (g : qHp) (b : Int) (hb : -2147483648 ≤ b ∧ b < 2147483648) (mn : Int) (hmn : -2147483648 ≤ mn ∧ mn < 2147483648) (o : yK g 0) (hio : insN g (stM g 0)) (hm2 : 0 ≤ mn ∧ mn ≤ 4) (hin : inS (stM g 0) b) : qC yX6_finds (.code yX6_finds cX6_finds 6 (some .boolean)) 4 0 (fun ad => [.ref (ad 23), .int (iI b), .int (iI mn)]) g (qPi (fun (r : Int) (g' : qHp) => fdQ g g' b mn r)) qNo := by
  refine q_meth (by decide +kernel) rfl (fun _ => (Nat.le_of_ble_eq_true rfl)) (fun X ω C => ?_)
  refine q_loc [(0, .ref (ω.1 23)), (1, .int (iI b)), (2, .int (iI mn))] ⟨rfl, rfl, rfl, trivial⟩ ?_
  refine q_iconst C dX6_finds_0 ?_
  refine q_istoreV_n C 3 dX6_finds_1 rfl (by decide) (fun v1 e1 => ?_)
  refine q_iconst C dX6_finds_2 ?_
  refine q_istoreV C dX6_finds_3 (by decide) (fun v3 e3 => ?_)
  have loopA : ∀ (nA : Nat) (d : Int) (f : Int) (P : List Int) (g1 : qHp), ((rmD d P f) < (nA : Int)) → (-1 ≤ d ∧ d ≤ mn ∧ 0 ≤ f ∧ f ≤ 80 ∧ (d ≠ -1 → d = (P.length : Int) ∧ digs P)) → (dfsI g g1 b mn d f P) → qT X ω 6 0 (qEnd X ω (qPi (fun (r : Int) (g' : qHp) => fdQ g g' b mn r)) qNo 0) g1 5 [(0, .ref (ω.1 23)), (1, .int (iI b)), (2, .int (iI mn)), (3, .int (iI d)), (4, .int (iI f))] [] := by
    intro nA
    induction nA with
    | zero => intro d f P g1 hmA hd hI; exfalso; unfold rmD at hmA; split at hmA; (· omega); (· have := rem_pos hd.2.2.2.1 (hd.2.2.2.2 (by omega)).2 (by have := (hd.2.2.2.2 (by omega)).1; omega); omega)
    | succ nA ihA =>
      intro d f P g1 hmA hd hI
      refine q_iload_n C 3 dX6_finds_5 rfl rfl ?_
      refine q_iflt C 116 dX6_finds_6 (by decide) (by omega) (fun c6 => ?_) (fun c6 => ?_)
      · refine q_iconst C dX6_finds_116 ?_
        exact q_iretZ C dX6_finds_117 (by omega) (by decide) (dfs_end hI (by omega))
      · obtain ⟨hdP, hdg⟩ := hd.2.2.2.2 (by omega)
        have F := hI.1
        have N : ndsI g g1 b P := by
          rcases hI.2 with ⟨q, -⟩ | ⟨-, q, -⟩
          · omega
          · exact q
        have oy := (N.2.2 P.length (Nat.le_refl _)).1
        have iy := nm_in N F hio
        rw [← hdP] at oy iy
        have hinb : inS (stM g1 d) b := by
          rw [hdP]
          exact (inS_run (N.2.2 P.length (Nat.le_refl _)).2).mpr hin
        have hrp := rem_pos hd.2.2.2.1 hdg (by omega)
        have hmm : rmD d P f = remX P f := by
          unfold rmD
          rw [if_neg (by omega)]
        refine q_iload_n C 3 dX6_finds_9 rfl rfl ?_
        refine q_iload_n C 2 dX6_finds_10 rfl rfl ?_
        refine q_icmp_ge C 25 dX6_finds_11 (by decide) (by omega) (by omega) (fun c11 => ?_) (fun c11 => ?_)
        · refine q_bipush C dX6_finds_25 (by decide +kernel) ?_
          refine q_istoreV C dX6_finds_27 (by decide) (fun v27 e27 => ?_)
          refine q_iload_n C 3 dX6_finds_29 rfl rfl ?_
          refine q_iload_n C 2 dX6_finds_30 rfl rfl ?_
          refine q_icmp_ne C 45 dX6_finds_31 (by decide) (by omega) (by omega) (fun c31 => ?_) (fun c31 => ?_)
          · exfalso; omega
          · refine q_aload_n C 0 dX6_finds_34 rfl rfl ?_
            refine q_iload_n C 3 dX6_finds_35 rfl rfl ?_
            refine q_iload_n C 1 dX6_finds_36 rfl rfl ?_
            refine q_Vf0 C (KX6_isTop _ _ (by omega) _ (by omega) (by omega) _ oy hinb) mX6_isTop ml_X6_69 dX6_finds_37 (by decide) (by decide) rfl rfl rfl (Nat.le_of_ble_eq_true rfl) rfl (by decide) rfl rfl (fun v37 l37 u37 h37 => ?_)
            have Tq := top_iff oy hinb
            refine q_ifeq C 45 dX6_finds_40 (by decide) (by omega) (fun c40 => ?_) (fun c40 => ?_)
            · refine q_iload C dX6_finds_45 rfl ?_
              refine q_bipush C dX6_finds_47 (by decide +kernel) ?_
              refine q_icmp_ge C 92 dX6_finds_49 (by decide) (by omega) (by omega) (fun c49 => ?_) (fun c49 => ?_)
              · have hx : ∀ R, plnN g b (P ++ R) → ((P ++ R).length : Int) = mn → befL [] f R := dfs_nt o N (by omega) (by rw [← hdP]; intro q; have := Tq.mpr q; rcases h37 with ⟨z1, z2⟩ | ⟨z1, z2⟩; (· omega); (· exact z1 this))
                refine q_iinc C dX6_finds_92 rfl (by decide) (fun v92 e92 => ?_)
                refine q_iload_n C 3 dX6_finds_95 rfl rfl ?_
                refine q_ifge C 103 dX6_finds_96 (by decide) (by omega) (fun c96 => ?_) (fun c96 => ?_)
                · obtain ⟨P1, p1, ePP⟩ := sn_ex (P := P) (by omega)
                  subst ePP
                  rw [List.length_append] at hdP
                  simp at hdP
                  have ep : g1 31 v92 = p1 := by
                    have q := N.2.1 P1.length (by rw [List.length_append]; simp)
                    rw [show ((P1.length : Nat) : Int) = v92 by omega] at q
                    simpa using q.symm
                  have hdg1 : digs P1 := fun q hq => hdg q (List.mem_append_left _ hq)
                  have hp1 := hdg p1 (List.mem_append_right _ List.mem_cons_self)
                  have hlt := rem_up (f := f) hd.2.2.2.1 hp1 hdg1 (by omega)
                  refine q_aload_n C 0 dX6_finds_103 rfl rfl ?_
                  refine q_getr C (b := 23) 11 rfl (by decide) rfl in_X6 (by decide) fl_X6_33 rfl dX6_finds_104 ?_
                  refine q_iload_n C 3 dX6_finds_107 rfl rfl ?_
                  refine q_iald C (b := 31) (n := 6) 0 79 rfl (by decide) (by decide) (by omega) (fun _ => rfl) dX6_finds_108 (fun v108 e108 l108 u108 => ?_)
                  refine q_iconst C dX6_finds_109 ?_
                  refine q_iadd C dX6_finds_110 ?_
                  refine q_istoreV C dX6_finds_111 (by decide) (fun v111 e111 => ?_)
                  have e108b : v108 = p1 := by rw [e108, ep]
                  have hm3 : rmD v92 P1 v111 < rmD d (P1 ++ [p1]) f := by
                    unfold rmD
                    rw [if_neg (by omega), if_neg (by omega), e111, e108b]
                    exact hlt
                  have hdd : v92 ≠ -1 → v92 = (P1.length : Int) ∧ digs P1 := fun _ => ⟨by omega, hdg1⟩
                  refine q_goto C 5 dX6_finds_113 (by decide) ?_
                  refine q_loc [(0, .ref (ω.1 23)), (1, .int (iI b)), (2, .int (iI mn)), (3, .int (iI v92)), (4, .int (iI v111))] ⟨rfl, rfl, rfl, rfl, rfl, trivial⟩ ?_
                  exact ihA v92 v111 P1 _ (by omega) ⟨by omega, by omega, by omega, by omega, hdd⟩ (by subst e92; rw [e111, e108b]; exact dfs_up hI (by omega) hx)
                · refine q_iconst C dX6_finds_99 ?_
                  refine q_goto C 111 dX6_finds_100 (by decide) ?_
                  refine q_istoreV C dX6_finds_111 (by decide) (fun v111 e111 => ?_)
                  have eP0 : P = [] := List.length_eq_zero_iff.mp (by omega)
                  subst eP0
                  have hm3 : rmD v92 [] v111 < rmD d [] f := by
                    rw [hmm]
                    unfold rmD
                    rw [if_pos (by omega)]
                    exact hrp
                  have hdd : v92 ≠ -1 → v92 = (([] : List Int).length : Int) ∧ digs [] := fun q => by exfalso; omega
                  refine q_goto C 5 dX6_finds_113 (by decide) ?_
                  refine q_loc [(0, .ref (ω.1 23)), (1, .int (iI b)), (2, .int (iI mn)), (3, .int (iI v92)), (4, .int (iI v111))] ⟨rfl, rfl, rfl, rfl, rfl, trivial⟩ ?_
                  exact ihA v92 v111 [] _ (by omega) ⟨by omega, by omega, by omega, by omega, hdd⟩ (by subst e92; subst e111; have q : d = 0 := by {omega}; subst q; exact dfs_ex hI hx)
              · exfalso; omega
            · refine q_iconst C dX6_finds_43 ?_
              exact q_iretZ C dX6_finds_44 (by omega) (by decide) (dfs_hit hI (by omega) (by omega) (Tq.mp (by rcases h37 with ⟨z1, z2⟩ | ⟨z1, z2⟩; (· exact z1); (· omega))))
        · refine q_aload_n C 0 dX6_finds_14 rfl rfl ?_
          refine q_iload_n C 3 dX6_finds_15 rfl rfl ?_
          refine q_iload C dX6_finds_16 rfl ?_
          refine q_iload_n C 1 dX6_finds_18 rfl rfl ?_
          refine q_Vf0 C (KX6_nextMove _ _ (by omega) _ (by omega) _ (by omega) (by omega) oy iy (by omega)) mX6_nextMove ml_X6_87 dX6_finds_19 (by decide) (by decide) rfl rfl rfl (Nat.le_of_ble_eq_true rfl) rfl (by decide) rfl rfl (fun v19 l19 u19 h19 => ?_)
          simp only [fndF_stp F] at h19
          refine q_goto C 27 dX6_finds_22 (by decide) ?_
          refine q_istoreV C dX6_finds_27 (by decide) (fun v27 e27 => ?_)
          refine q_iload_n C 3 dX6_finds_29 rfl rfl ?_
          refine q_iload_n C 2 dX6_finds_30 rfl rfl ?_
          refine q_icmp_ne C 45 dX6_finds_31 (by decide) (by omega) (by omega) (fun c31 => ?_) (fun c31 => ?_)
          · refine q_iload C dX6_finds_45 rfl ?_
            refine q_bipush C dX6_finds_47 (by decide +kernel) ?_
            refine q_icmp_ge C 92 dX6_finds_49 (by decide) (by omega) (by omega) (fun c49 => ?_) (fun c49 => ?_)
            · have hx : ∀ R, plnN g b (P ++ R) → ((P ++ R).length : Int) = mn → befL [] f R := dfs_nm o N (by omega) (by rw [← hdP]; rcases h19 with ⟨z1, z2, -⟩ | ⟨-, z2⟩; (· omega); (· exact z2))
              refine q_iinc C dX6_finds_92 rfl (by decide) (fun v92 e92 => ?_)
              refine q_iload_n C 3 dX6_finds_95 rfl rfl ?_
              refine q_ifge C 103 dX6_finds_96 (by decide) (by omega) (fun c96 => ?_) (fun c96 => ?_)
              · obtain ⟨P1, p1, ePP⟩ := sn_ex (P := P) (by omega)
                subst ePP
                rw [List.length_append] at hdP
                simp at hdP
                have ep : g1 31 v92 = p1 := by
                  have q := N.2.1 P1.length (by rw [List.length_append]; simp)
                  rw [show ((P1.length : Nat) : Int) = v92 by omega] at q
                  simpa using q.symm
                have hdg1 : digs P1 := fun q hq => hdg q (List.mem_append_left _ hq)
                have hp1 := hdg p1 (List.mem_append_right _ List.mem_cons_self)
                have hlt := rem_up (f := f) hd.2.2.2.1 hp1 hdg1 (by omega)
                refine q_aload_n C 0 dX6_finds_103 rfl rfl ?_
                refine q_getr C (b := 23) 11 rfl (by decide) rfl in_X6 (by decide) fl_X6_33 rfl dX6_finds_104 ?_
                refine q_iload_n C 3 dX6_finds_107 rfl rfl ?_
                refine q_iald C (b := 31) (n := 6) 0 79 rfl (by decide) (by decide) (by omega) (fun _ => rfl) dX6_finds_108 (fun v108 e108 l108 u108 => ?_)
                refine q_iconst C dX6_finds_109 ?_
                refine q_iadd C dX6_finds_110 ?_
                refine q_istoreV C dX6_finds_111 (by decide) (fun v111 e111 => ?_)
                have e108b : v108 = p1 := by rw [e108, ep]
                have hm3 : rmD v92 P1 v111 < rmD d (P1 ++ [p1]) f := by
                  unfold rmD
                  rw [if_neg (by omega), if_neg (by omega), e111, e108b]
                  exact hlt
                have hdd : v92 ≠ -1 → v92 = (P1.length : Int) ∧ digs P1 := fun _ => ⟨by omega, hdg1⟩
                refine q_goto C 5 dX6_finds_113 (by decide) ?_
                refine q_loc [(0, .ref (ω.1 23)), (1, .int (iI b)), (2, .int (iI mn)), (3, .int (iI v92)), (4, .int (iI v111))] ⟨rfl, rfl, rfl, rfl, rfl, trivial⟩ ?_
                exact ihA v92 v111 P1 _ (by omega) ⟨by omega, by omega, by omega, by omega, hdd⟩ (by subst e92; rw [e111, e108b]; exact dfs_up hI (by omega) hx)
              · refine q_iconst C dX6_finds_99 ?_
                refine q_goto C 111 dX6_finds_100 (by decide) ?_
                refine q_istoreV C dX6_finds_111 (by decide) (fun v111 e111 => ?_)
                have eP0 : P = [] := List.length_eq_zero_iff.mp (by omega)
                subst eP0
                have hm3 : rmD v92 [] v111 < rmD d [] f := by
                  rw [hmm]
                  unfold rmD
                  rw [if_pos (by omega)]
                  exact hrp
                have hdd : v92 ≠ -1 → v92 = (([] : List Int).length : Int) ∧ digs [] := fun q => by exfalso; omega
                refine q_goto C 5 dX6_finds_113 (by decide) ?_
                refine q_loc [(0, .ref (ω.1 23)), (1, .int (iI b)), (2, .int (iI mn)), (3, .int (iI v92)), (4, .int (iI v111))] ⟨rfl, rfl, rfl, rfl, rfl, trivial⟩ ?_
                exact ihA v92 v111 [] _ (by omega) ⟨by omega, by omega, by omega, by omega, hdd⟩ (by subst e92; subst e111; have q : d = 0 := by {omega}; subst q; exact dfs_ex hI hx)
            · have h19b : f ≤ v27 ∧ v27 < 80 ∧ stpN g (stM g1 d) b v27 ∧ ∀ j, f ≤ j → j < v27 → ¬ stpN g (stM g1 d) b j := by
                rcases h19 with ⟨z1, z2, z3, z4⟩ | ⟨z1, -⟩
                · rw [e27]; exact ⟨z1, z2, z3, z4⟩
                · omega
              refine q_aload_n C 0 dX6_finds_52 rfl rfl ?_
              refine q_getr C (b := 23) 11 rfl (by decide) rfl in_X6 (by decide) fl_X6_33 rfl dX6_finds_53 ?_
              refine q_iload_n C 3 dX6_finds_56 rfl rfl ?_
              refine q_iload C dX6_finds_57 rfl ?_
              refine q_iast C (b := 31) (n := 6) rfl (by decide) (by decide) (by omega)  (show 0 ≤ _ ∧ _ ≤ 79 from (by omega)) dX6_finds_59 ?_
              refine q_aload_n C 0 dX6_finds_60 rfl rfl ?_
              refine q_iload_n C 3 dX6_finds_61 rfl rfl ?_
              refine q_iload_n C 3 dX6_finds_62 rfl rfl ?_
              refine q_iconst C dX6_finds_63 ?_
              refine q_iadd C dX6_finds_64 ?_
              refine q_Vw0 C (KX6_copies _ _ (by omega) _ (by omega) (by omega) (by omega) (by omega)) mX6_copies ml_X6_91 dX6_finds_65 (by decide) (by decide) rfl rfl rfl (Nat.le_of_ble_eq_true rfl) rfl (by decide) rfl rfl (fun g65 h65 => ?_)
              have D := dfs_dn o hI (by omega) (by omega) ⟨h19b.1, h19b.2.1⟩ h19b.2.2.1 h19b.2.2.2 h65
              have hlt := rem_dn (f := f) (m := v27) (by omega) h19b.1 h19b.2.1 hdg (by omega)
              refine q_aload_n C 0 dX6_finds_68 rfl rfl ?_
              refine q_iload_n C 3 dX6_finds_69 rfl rfl ?_
              refine q_iconst C dX6_finds_70 ?_
              refine q_iadd C dX6_finds_71 ?_
              refine q_iload C dX6_finds_72 rfl ?_
              refine q_iconst C dX6_finds_74 ?_
              refine q_idiv C dX6_finds_75 (by omega) (by omega) ?_
              refine q_iload C dX6_finds_76 rfl ?_
              refine q_iconst C dX6_finds_78 ?_
              refine q_irem C dX6_finds_79 (by omega) (by omega) ?_
              refine q_Vv0 C (KX6_moves _ _ (by omega) _ (by omega) _ (by omega) (by omega) D.1 _ _ D.2.1) mX6_moves ml_X6_95 dX6_finds_80 (by decide) (by decide) rfl rfl rfl (Nat.le_of_ble_eq_true rfl) rfl (by decide) rfl rfl ?_
              refine q_iinc C dX6_finds_83 rfl (by decide) (fun v83 e83 => ?_)
              refine q_iconst C dX6_finds_86 ?_
              refine q_istoreV C dX6_finds_87 (by decide) (fun v87 e87 => ?_)
              have hm3 : rmD v83 (P ++ [v27]) v87 < rmD d P f := by
                unfold rmD
                rw [if_neg (by omega), if_neg (by omega), e87]
                exact hlt
              have hdd : v83 ≠ -1 → v83 = ((P ++ [v27]).length : Int) ∧ digs (P ++ [v27]) := fun _ => ⟨by rw [List.length_append]; simp; omega, dig_sn hdg ⟨by omega, by omega⟩⟩
              refine q_goto C 113 dX6_finds_89 (by decide) ?_
              refine q_goto C 5 dX6_finds_113 (by decide) ?_
              refine q_loc [(0, .ref (ω.1 23)), (1, .int (iI b)), (2, .int (iI mn)), (3, .int (iI v83)), (4, .int (iI v87))] ⟨rfl, rfl, rfl, rfl, rfl, trivial⟩ ?_
              exact ihA v83 v87 (P ++ [v27]) _ (by omega) ⟨by omega, by omega, by omega, by omega, hdd⟩ (by subst e83; subst e87; exact D.2.2)
          · exfalso; omega
  refine q_loc [(0, .ref (ω.1 23)), (1, .int (iI b)), (2, .int (iI mn)), (3, .int (iI v1)), (4, .int (iI v3))] ⟨rfl, rfl, rfl, rfl, rfl, trivial⟩ ?_
  exact loopA ((rmD v1 [] v3).toNat + 1) v1 v3 [] _ (by omega) (by subst e1; subst e3; exact ⟨by omega, by omega, by omega, by omega, fun _ => ⟨rfl, fun _ h => by cases h⟩⟩) (by subst e1; subst e3; exact dfs_0 o (fun L hL => by obtain ⟨z, h1, -⟩ := hL; exact run_dig o.1.2 (yOK_cut o) o.2.2.2.2.1 h1))
