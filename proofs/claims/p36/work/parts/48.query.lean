/-! the law's calls: what each answers, as a value over the abstract yard -/
noncomputable def ifP (p : Prop) (a b : Int) : Int := @ite _ p (Classical.propDecidable p) a b
theorem ifP_t {p : Prop} {a b : Int} (h : p) : ifP p a b = a := @if_pos p (Classical.propDecidable p) h _ _ _
theorem ifP_f {p : Prop} {a b : Int} (h : ¬ p) : ifP p a b = b := @if_neg p (Classical.propDecidable p) h _ _ _
noncomputable def lenA (V : qHp) (S : St) (b : Int) : Int := ((Classical.epsilon (fun L : List Int => leaA V S b L)).length : Int)
noncomputable def eps (P : Int → Prop) : Int := Classical.epsilon P
theorem eps_of {P : Int → Prop} (hu : ∀ a b, P a → P b → a = b) {a : Int} (h : P a) : a = eps P := hu _ _ h (Classical.epsilon_spec ⟨a, h⟩)
noncomputable def aq2 (V : qHp) (S : St) (x : Int) : Int := ifP (inS S x) (V 2 x) (-1001)
noncomputable def aq3 (S : St) (x : Int) : Int := ifP (inS S x) (soS S x) (-1001)
noncomputable def aq4 (S : St) (x : Int) : Int := ifP (inS S x) (unS S x) (-1001)
noncomputable def aq5 (S : St) (x : Int) : Int := ifP (inS S x) (ixO x (S (soS S x)) : Nat) (-1001)
noncomputable def aq6 (V : qHp) (S : St) (s : Int) : Int := ifP (isT V s) (hgt S s) (-1001)
noncomputable def aq7 (V : qHp) (S : St) (s k : Int) : Int := ifP (isT V s) (ifP (0 ≤ k ∧ k < hgt S s) (atS S s k) (-1005)) (-1001)
noncomputable def aq10 (V : qHp) (S : St) (x : Int) : Int := ifP (inS S x) (V 3 x) (-1001)
noncomputable def aq11 (V : qHp) (S : St) (x : Int) : Int := ifP (inS S x) (ifP (V 3 x ≠ 45) (V 4 x) (-1005)) (-1001)
noncomputable def aq12 (V : qHp) (S : St) (x : Int) : Int := ifP (inS S x) (cntF (fun i => pinA V (atS S (soS S x) i)) (hgt S (soS S x) - (unS S x + 1)).toNat (unS S x + 1)) (-1001)
noncomputable def aq13 (V : qHp) (S : St) (x s : Int) : Int := ifP (inS S x ∧ isT V s) (eps (whyA V S x s)) (-1001)
noncomputable def aqP (V : qHp) (S : St) (b : Int) : Int := ifP (inS S b) (ifP (∃ L, leaA V S b L) (lenA V S b) (-1005)) (-1001)
noncomputable def aq17 (V : qHp) (S : St) (b i : Int) : Int := ifP (inS S b) (ifP (∃ L, leaA V S b L ∧ (0 ≤ i ∧ i < (L.length : Int))) (eps (fun r => ∃ L m, leaA V S b L ∧ L[i.toNat]? = some m ∧ r = m / 4)) (-1005)) (-1001)
noncomputable def aq18 (V : qHp) (S : St) (b i : Int) : Int := ifP (inS S b) (ifP (∃ L, leaA V S b L ∧ (0 ≤ i ∧ i < (L.length : Int))) (eps (fun r => ∃ L m, leaA V S b L ∧ L[i.toNat]? = some m ∧ r = m % 4)) (-1005)) (-1001)
noncomputable def aq22 (V : qHp) (a : Int) : Int := ifP (0 ≤ a ∧ a < V 0 5) (V 8 a) (-1001)
noncomputable def aq23 (V : qHp) (S : St) (x : Int) : Int := ifP (inS S x) (ifP (bkAB V x ≠ -1) (bkAB V x) (-1005)) (-1001)
noncomputable def aq24 (V : qHp) (l h : Int) : Int := ifP (0 ≤ l ∧ l ≤ 2) (ifP (0 ≤ h ∧ h ≤ 999) (bkAL V l h) (-1002)) (-1001)
noncomputable def aq25 (V : qHp) (S : St) (x : Int) : Int := ifP (inS S x) (ifP (∃ j, V 0 0 < j ∧ j ≤ 999 ∧ okH V x j) (eps (fun r => (V 0 0 < r ∧ okH V x r) ∧ ∀ j, V 0 0 < j → j < r → ¬ okH V x j)) (-1005)) (-1001)
noncomputable def aqI (S : St) (x : Int) : Int := ifP (inS S x) 1 0
/-! out of what a call may do -/
def enc : List Int → Int → Int
  | [], _ => 0
  | a :: l, k => if k = 1 then a else enc l (k - 1)
def ecd (cd : List Int) (k r : Int) : Int := if k = 0 then r else enc cd k
section ANS
variable {V V' : qHp} {S S' : St} {k r v : Int}
theorem q_A0 {A : anS} {f : Int} (hA : A r V' S' → r = f ∧ V' = V ∧ S' = S) (h : spc [] A V S 0 r V' S') : r = f ∧ V' = V ∧ S' = S := hA (h.2.1 rfl)
theorem q_A1 {C : Prop} {A : anS} {f e1 : Int} (hA : C → A r V' S' → r = f ∧ V' = V ∧ S' = S) (h : spc [C] A V S k r V' S') (he : v = ecd [e1] k r) : v = ifP C f e1 ∧ V' = V ∧ S' = S := by
  obtain ⟨h1, h2, h3⟩ := h
  rcases h1 with ⟨c, rfl⟩ | ⟨c, hk⟩
  · rw [ifP_f c]
    exact ⟨he, h3 (by decide)⟩
  · have hk : k = 0 := hk
    subst hk
    obtain ⟨q1, q2⟩ := hA c (h2 rfl)
    rw [ifP_t c]
    exact ⟨by rw [he, q1]; rfl, q2⟩
theorem q_A2 {C C2 : Prop} {A : anS} {f e1 e2 : Int} (hA : C → C2 → A r V' S' → r = f ∧ V' = V ∧ S' = S) (h : spc [C, C2] A V S k r V' S') (he : v = ecd [e1, e2] k r) : v = ifP C (ifP C2 f e2) e1 ∧ V' = V ∧ S' = S := by
  obtain ⟨h1, h2, h3⟩ := h
  rcases h1 with ⟨c, rfl⟩ | ⟨c, ⟨c2, rfl⟩ | ⟨c2, hk⟩⟩
  · rw [ifP_f c]
    exact ⟨he, h3 (by decide)⟩
  · rw [ifP_t c, ifP_f c2]
    exact ⟨he, h3 (by decide)⟩
  · have hk : k = 0 := hk
    subst hk
    obtain ⟨q1, q2⟩ := hA c c2 (h2 rfl)
    rw [ifP_t c, ifP_t c2]
    exact ⟨by rw [he, q1]; rfl, q2⟩
/-- refused, or done -/
theorem q_M1 {C : Prop} {A : anS} {e1 : Int} (h : spc [C] A V S k r V' S') (he : v = ecd [e1] k r) : (¬ C ∧ v = e1 ∧ V' = V ∧ S' = S) ∨ (C ∧ A v V' S') := by
  obtain ⟨h1, h2, h3⟩ := h
  rcases h1 with ⟨c, rfl⟩ | ⟨c, hk⟩
  · exact Or.inl ⟨c, he, h3 (by decide)⟩
  · have hk : k = 0 := hk
    subst hk
    have e : v = r := he
    rw [e]
    exact Or.inr ⟨c, h2 rfl⟩
theorem q_M2 {C C2 : Prop} {A : anS} {e1 e2 : Int} (h : spc [C, C2] A V S k r V' S') (he : v = ecd [e1, e2] k r) : (¬ C ∧ v = e1 ∧ V' = V ∧ S' = S) ∨ (C ∧ ¬ C2 ∧ v = e2 ∧ V' = V ∧ S' = S) ∨ (C ∧ C2 ∧ A v V' S') := by
  obtain ⟨h1, h2, h3⟩ := h
  rcases h1 with ⟨c, rfl⟩ | ⟨c, ⟨c2, rfl⟩ | ⟨c2, hk⟩⟩
  · exact Or.inl ⟨c, he, h3 (by decide)⟩
  · exact Or.inr (Or.inl ⟨c, c2, he, h3 (by decide)⟩)
  · have hk : k = 0 := hk
    subst hk
    have e : v = r := he
    rw [e]
    exact Or.inr (Or.inr ⟨c, c2, h2 rfl⟩)
theorem q_M4 {C C2 C3 C4 : Prop} {A : anS} {e1 e2 e3 e4 : Int} (h : spc [C, C2, C3, C4] A V S k r V' S') (he : v = ecd [e1, e2, e3, e4] k r) : ((v = e1 ∨ v = e2 ∨ v = e3 ∨ v = e4) ∧ V' = V ∧ S' = S) ∨ (C ∧ C2 ∧ C3 ∧ C4 ∧ A v V' S') := by
  obtain ⟨h1, h2, h3⟩ := h
  rcases h1 with ⟨c, rfl⟩ | ⟨c, ⟨c2, rfl⟩ | ⟨c2, ⟨c3, rfl⟩ | ⟨c3, ⟨c4, rfl⟩ | ⟨c4, hk⟩⟩⟩⟩
  · exact Or.inl ⟨Or.inl he, h3 (by decide)⟩
  · exact Or.inl ⟨Or.inr (Or.inl he), h3 (by decide)⟩
  · exact Or.inl ⟨Or.inr (Or.inr (Or.inl he)), h3 (by decide)⟩
  · exact Or.inl ⟨Or.inr (Or.inr (Or.inr he)), h3 (by decide)⟩
  · have hk : k = 0 := hk
    subst hk
    have e : v = r := he
    rw [e]
    exact Or.inr ⟨c, c2, c3, c4, h2 rfl⟩
end ANS
/-! what holds of every yard that the law comes to -/
def aI (V : qHp) (S : St) : Prop := (∀ u, srtW (V 2) (S u)) ∧ (∀ x, inS S x → 1 ≤ V 2 x ∧ x < V 0 4) ∧ (∀ x, V 3 x ≠ 45 → V 0 0 < V 4 x)
def aJ (V : qHp) (S : St) : Prop := aOK V S ∧ (∀ s, isT V s → hgt S s ≤ V 1 s) ∧ nBS S ≤ 8 ∧ (0 ≤ V 0 0 ∧ V 0 0 ≤ 999) ∧ 0 ≤ V 0 3 ∧ (0 ≤ V 0 4 ∧ V 0 4 ≤ 20) ∧ (0 ≤ V 0 5 ∧ V 0 5 ≤ 30) ∧ (∀ x, V 0 4 ≤ x → V 3 x = 45)
theorem aI_eq {V V' : qHp} {S : St} (I : aI V S) (h2 : V' 2 = V 2) (h3 : V' 3 = V 3) (h4 : V' 4 = V 4) (h00 : V' 0 0 = V 0 0) (h04 : V' 0 4 = V 0 4) : aI V' S := by
  unfold aI at *
  rw [h2, h3, h4, h00, h04]
  exact I
theorem aI_run {V : qHp} {S z : St} {b : Int} {L : List Int} (I : aI V S) (h : runA V b L S z) : aI V z := ⟨srt_run I.1 h, fun x hx => I.2.1 x ((inS_run h).mp hx), I.2.2⟩
theorem aI_tk {V : qHp} {z : St} {c s b : Int} (hz : wfS c z) (hh : (z s).head? = some b) (I : aI V z) : aI V (tkS z b) := by
  refine ⟨fun u => ?_, fun x hx => I.2.1 x ((inS_tk hz hh).mp hx).1, I.2.2⟩
  unfold tkS
  split
  · exact srt_tail (I.1 u)
  · exact I.1 u
/-! passing hours -/
/-- what serving, an hour, hours keep: r boxes leave, at most n moves are made -/
def psK (V : qHp) (S : St) (n r : Int) (V' : qHp) (S' : St) : Prop := aI V' S' ∧ 0 ≤ r ∧ nBS S' = nBS S - r ∧ V' 0 3 = V 0 3 ∧ V' 0 4 = V 0 4 ∧ V' 0 5 = V 0 5 ∧ V' 1 = V 1 ∧ (V 0 1 ≤ V' 0 1 ∧ V' 0 1 ≤ V 0 1 + n)
theorem psK_rf {V : qHp} {S : St} (I : aI V S) : psK V S 0 0 V S := ⟨I, by omega, by omega, rfl, rfl, rfl, rfl, by omega⟩
theorem psK_tr {V V1 V2 : qHp} {S S1 S2 : St} {n m r q : Int} (h1 : psK V S n r V1 S1) (h2 : psK V1 S1 m q V2 S2) : psK V S (n + m) (r + q) V2 S2 := by
  obtain ⟨-, a1, a2, a3, a4, a5, a6, a7⟩ := h1
  obtain ⟨b0, b1, b2, b3, b4, b5, b6, b7⟩ := h2
  exact ⟨b0, by omega, by omega, by rw [b3, a3], by rw [b4, a4], by rw [b5, a5], by rw [b6, a6], by omega⟩
theorem srv_A {V V' : qHp} {S S' : St} {l h r : Int} (O : aOK V S) (I : aI V S) (hm : 0 ≤ V 0 1 ∧ V 0 1 ≤ 1000000) (H : srvA V S (bkAL V l h) r V' S') : psK V S 4 r V' S' ∧ V' 0 0 = V 0 0 := by
  rcases H with ⟨h1, rfl, rfl, rfl⟩ | ⟨h1, h2, rfl, rfl, rfl⟩ | ⟨h1, h2, L, z, h3, h4, rfl, rfl, rfl⟩
  · exact ⟨⟨I, by omega, by omega, rfl, rfl, rfl, rfl, by omega⟩, rfl⟩
  · have e : ∀ k, k ≠ 8 → qUp V 8 (bkAL V l h) 109 k = V k := fun k hk => qUp_row hk
    refine ⟨⟨aI_eq I (e 2 (by decide)) (e 3 (by decide)) (e 4 (by decide)) (by rw [e 0 (by decide)]) (by rw [e 0 (by decide)]), by omega, by omega, by rw [e 0 (by decide)], by rw [e 0 (by decide)], by rw [e 0 (by decide)], e 1 (by decide), by rw [e 0 (by decide)]; omega⟩, by rw [e 0 (by decide)]⟩
  · have hz : wfS (V 0 3) z := wf_run O.2.1 O.2.2.1 h4
    have h3' := h3
    obtain ⟨n, hn, ⟨z', p1, p2⟩, -⟩ := h3'
    have ez := run_det O.1 O.2.1 O.2.2.1 h4 p1
    subst ez
    obtain ⟨s, hh⟩ := ov0_hd p2
    have hl := lea_len O h3 hn
    have ew : w32 (V 0 1 + L.length) = V 0 1 + L.length := w32_id (by omega)
    rw [ew]
    have e : ∀ k, k ≠ 0 → k ≠ 8 → qUp (qUp (qUp V 0 1 (V 0 1 + L.length)) 0 2 (w64 (V 0 2 + V 2 (V 5 (bkAL V l h))))) 8 (bkAL V l h) 100 k = V k := fun k h0 h8 => by rw [qUp_row h8, qUp_row h0, qUp_row h0]
    have e0 : ∀ j, j ≠ 1 → j ≠ 2 → qUp (qUp (qUp V 0 1 (V 0 1 + L.length)) 0 2 (w64 (V 0 2 + V 2 (V 5 (bkAL V l h))))) 8 (bkAL V l h) 100 0 j = V 0 j := fun j j1 j2 => by rw [qUp_k (by decide), qUp_j j2, qUp_j j1]
    have e1 : qUp (qUp (qUp V 0 1 (V 0 1 + L.length)) 0 2 (w64 (V 0 2 + V 2 (V 5 (bkAL V l h))))) 8 (bkAL V l h) 100 0 1 = V 0 1 + L.length := by rw [qUp_k (by decide), qUp_j (by decide), qUp_s]
    refine ⟨⟨aI_eq (aI_tk hz hh (aI_run I h4)) (e 2 (by decide) (by decide)) (e 3 (by decide) (by decide)) (e 4 (by decide) (by decide)) (e0 0 (by decide) (by decide)) (e0 4 (by decide) (by decide)), by omega, ?_, e0 3 (by decide) (by decide), e0 4 (by decide) (by decide), e0 5 (by decide) (by decide), e 1 (by decide) (by decide), by rw [e1]; omega⟩, e0 0 (by decide) (by decide)⟩
    rw [nb_tk hz hh, nb_congr (fun x => inS_run h4)]
theorem ln_A {h : Int} : ∀ {n : Nat} {V V' : qHp} {S S' : St} {r : Int}, aOK V S → aI V S → (0 ≤ V 0 1 ∧ V 0 1 + 4 * n ≤ 1000000) → lnA h n V S r V' S' → psK V S (4 * n) r V' S' ∧ V' 0 0 = V 0 0
  | 0, V, V', S, S', r, O, I, hm, H => by
    obtain ⟨rfl, rfl, rfl⟩ := H
    exact ⟨psK_rf I, rfl⟩
  | n + 1, V, V', S, S', r, O, I, hm, H => by
    obtain ⟨V1, S1, r1, r2, h1, h2, rfl⟩ := H
    obtain ⟨k1, k2⟩ := ln_A O I (by omega) h1
    have q := k1.2.2.2.2.2.2.2
    obtain ⟨k3, k4⟩ := srv_A (ln_O O h1).1 k1.1 (by omega) h2
    have k5 := psK_tr k1 k3
    rw [show (4 : Int) * ((n + 1 : Nat) : Int) = 4 * (n : Int) + 4 by omega]
    exact ⟨k5, by rw [k4, k2]⟩
theorem eh_A {V : qHp} {S : St} (I : aI V S) : psK V S 0 0 (ehA V (V 0 0 + 1)) S ∧ ehA V (V 0 0 + 1) 0 0 = V 0 0 + 1 := by
  have e2 : ehA V (V 0 0 + 1) 2 = V 2 := by funext j; simp [ehA]
  have e1 : ehA V (V 0 0 + 1) 1 = V 1 := by funext j; simp [ehA]
  have e0 : ∀ j, j ≠ 0 → ehA V (V 0 0 + 1) 0 j = V 0 j := fun j hj => by simp [ehA, hj]
  have e00 : ehA V (V 0 0 + 1) 0 0 = V 0 0 + 1 := by simp [ehA]
  refine ⟨⟨⟨by rw [e2]; exact I.1, by rw [e2, e0 4 (by decide)]; exact I.2.1, fun x hx => ?_⟩, by omega, by omega, e0 3 (by decide), e0 4 (by decide), e0 5 (by decide), e1, by rw [e0 1 (by decide)]; omega⟩, e00⟩
  rw [e00]
  have h3 : ehA V (V 0 0 + 1) 3 x = if V 3 x ≠ 45 ∧ V 4 x = V 0 0 + 1 then 45 else V 3 x := by simp [ehA]
  have h4 : ehA V (V 0 0 + 1) 4 x = if V 3 x ≠ 45 ∧ V 4 x = V 0 0 + 1 then 0 else V 4 x := by simp [ehA]
  rw [h3] at hx
  rw [h4]
  by_cases q : V 3 x ≠ 45 ∧ V 4 x = V 0 0 + 1
  · rw [if_pos q] at hx
    exact absurd rfl hx
  · rw [if_neg q] at hx ⊢
    have := I.2.2 x hx
    have : V 4 x ≠ V 0 0 + 1 := fun z => q ⟨hx, z⟩
    omega
theorem ps_A : ∀ {n : Nat} {V V' : qHp} {S S' : St} {r : Int}, aOK V S → aI V S → (0 ≤ V 0 1 ∧ V 0 1 + 12 * n ≤ 1000000) → psA n V S r V' S' → psK V S (12 * n) r V' S'
  | 0, V, V', S, S', r, O, I, hm, H => by
    obtain ⟨rfl, rfl, rfl⟩ := H
    exact psK_rf I
  | n + 1, V, V', S, S', r, O, I, hm, H => by
    obtain ⟨V1, S1, r1, r2, h1, h2, rfl⟩ := H
    have k1 := ps_A O I (by omega) h1
    have q := k1.2.2.2.2.2.2.2
    obtain ⟨k2, k3⟩ := eh_A k1.1
    have q2 := k2.2.2.2.2.2.2.2
    obtain ⟨k4, -⟩ := ln_A (n := 3) (eh_O (ps_O O h1).1) k2.1 (by omega) h2
    have k5 := psK_tr k1 (psK_tr k2 k4)
    rw [show (12 : Int) * ((n + 1 : Nat) : Int) = 12 * (n : Int) + (0 + 4 * ((3 : Nat) : Int)) by omega, show r1 + r2 = r1 + (0 + r2) by omega]
    exact k5
