/-! the reference's calls, over the abstract yard -/
def rInv (g : qHp) : Prop := yK g 0 ∧ insN g (stB g)
section RA
variable {g g1 : qHp}
theorem c0_facts (I : rInv g) : yK (c0 g) 0 ∧ insN (c0 g) (stB (c0 g)) ∧ c0 g 23 0 = 0 ∧ vB (c0 g) = vB g ∧ stB (c0 g) = stB g ∧ ∀ j, j < 23 ∨ 36 ≤ j → c0 g j = g j := by
  obtain ⟨o, hio⟩ := I
  obtain ⟨k1, k2⟩ := cN_yK (k := 0) o
  refine ⟨k1, fun x => ?_, c0_0 g, vB_eq (fun j hj => c0_j g hj) (fun k hk _ _ _ _ _ => c0_k g hk), k2, fun j hj => c0_k g (by omega)⟩
  show inS (stM (qUp g 23 0 0) 0) x ↔ _
  rw [k2, c0_j g (by decide), c0_k g (by decide)]
  exact hio x
/-- a call refused -/
theorem rN (o : yK g 0) (hio : insN g (stB g)) {k : Int} : qUp g 23 0 k 23 0 = k ∧ vB (qUp g 23 0 k) = vB g ∧ stB (qUp g 23 0 k) = stB g ∧ rInv (qUp g 23 0 k) ∧ ∀ j, j < 23 ∨ 36 ≤ j → qUp g 23 0 k j = g j := by
  obtain ⟨k1, k2⟩ := cN_yK (k := k) o
  refine ⟨qUp_s _ _ _ _, vB_eq (fun j hj => qUp_j hj) (fun k hk _ _ _ _ _ => qUp_row hk), k2, ⟨k1, fun x => ?_⟩, fun j hj => qUp_row (by omega)⟩
  show inS (stM (qUp g 23 0 k) 0) x ↔ _
  rw [k2, qUp_j (by decide), qUp_row (by decide)]
  exact hio x
theorem rF (o : yK g 0) (hio : insN g (stB g)) {cs : List Prop} {A : anS} {k : Int} {rr : Int} (hk : k ≠ 0) (hc : fstF cs 1 k) : spc cs A (vB g) (stB g) (qUp g 23 0 k 23 0) rr (vB (qUp g 23 0 k)) (stB (qUp g 23 0 k)) ∧ rInv (qUp g 23 0 k) ∧ ∀ j, j < 23 ∨ 36 ≤ j → qUp g 23 0 k j = g j := by
  obtain ⟨e1, e2, e3, e4, e5⟩ := rN (k := k) o hio
  rw [e1]
  exact ⟨spc_no hk hc e2 e3, e4, e5⟩
/-- a call that changes nothing -/
theorem rO (o : yK g 0) (hio : insN g (stB g)) (hz : g 23 0 = 0) {cs : List Prop} {A : anS} {rr : Int} (hc : fstF cs 1 0) (hA : A rr (vB g) (stB g)) : spc cs A (vB g) (stB g) (g 23 0) rr (vB g) (stB g) ∧ rInv g ∧ ∀ j, j < 23 ∨ 36 ≤ j → g j = g j := by
  rw [hz]
  exact ⟨spc_ok hc hA, ⟨o, hio⟩, fun _ _ => rfl⟩
theorem h29_B (o : yK g 0) {s : Int} (hs : 0 ≤ s ∧ s < 4) : hgt (stB g) s = g 29 s := by
  have h := stOf_len (h := hM g 0) (p := pM g 0) hs (o.2.1 s hs.1 hs.2).1
  have e : hM g 0 s = g 29 s := by show g 29 (4 * 0 + s) = _; congr 1; omega
  rw [← e]
  exact h
theorem so_4 (o : yK g 0) {b : Int} (hb : inS (stB g) b) : 0 ≤ soS (stB g) b ∧ soS (stB g) b < 4 := by
  have h1 := (nod_in o hb).2.1
  have h2 := o.1
  show 0 ≤ soS (stM g 0) b ∧ soS (stM g 0) b < 4
  omega
theorem hM0 (g : qHp) (s : Int) : hM g 0 s = g 29 s := by show g 29 (4 * 0 + s) = _; congr 1; omega
theorem pM0 (g : qHp) (j : Int) : pM g 0 j = g 30 j := by show g 30 (16 * 0 + j) = _; congr 1; omega
theorem at_B (o : yK g 0) {s k : Int} (hs : 0 ≤ s ∧ s < 4) (h0 : 0 ≤ k) (h1 : k < g 29 s) : atS (stB g) s k = g 30 (4 * s + k) := by
  have h := at_of (h := hM g 0) (p := pM g 0) hs h0 (by rw [hM0]; exact h1)
  rw [pM0, show s * 4 + k = 4 * s + k by omega] at h
  exact h
theorem hd_in {S : St} {s x : Int} (h : (S s).head? = some x) : inS S x := by
  obtain ⟨l, e⟩ := hd_cons h
  exact ⟨s, by rw [e]; exact List.mem_cons_self⟩
theorem cap_B (o : yK g 0) (hio : insN g (stB g)) {s w : Int} (hs : 0 ≤ s ∧ s < g 23 2) : (hM g 0 s < g 24 s ∧ ∀ x, (stM g 0 s).head? = some x → w ≤ g 25 x) ↔ (hgt (stB g) s < vB g 1 s ∧ bearS (vB g) (stB g) s w) := by
  have hc := o.1
  have e1 := h29_B o (s := s) (by omega)
  have e2 : vB g 1 s = g 24 s := cut4_in (by omega)
  rw [e1, e2, hM0]
  have e3 : ∀ x, inS (stB g) x → vB g 2 x = g 25 x := fun x hx => cGet_in ⟨((hio x).mp hx).1, ((hio x).mp hx).2.1⟩
  unfold bearS
  constructor
  · rintro ⟨a, b⟩
    exact ⟨a, fun x hx => by rw [e3 x (hd_in hx)]; exact b x hx⟩
  · rintro ⟨a, b⟩
    exact ⟨a, fun x hx => by rw [← e3 x (hd_in hx)]; exact b x hx⟩
theorem cntI_cut {p : Int → Bool} {n : Nat} : ∀ {m : Nat}, n ≤ m → (∀ i : Int, n ≤ i → i < m → p i = false) → cntI p m = cntI p n
  | 0, h, _ => by
    have e : n = 0 := by omega
    rw [e]
  | m + 1, h, hp => by
    by_cases e : n = m + 1
    · rw [e]
    · rw [← cntI_cut (n := n) (m := m) (by omega) (fun i a b => hp i a (by omega))]
      have q := hp m (by omega) (by omega)
      show cntI p m + (bif p m then 1 else 0) = _
      rw [q]
      simp
theorem cnt_B (hio : insN g (stB g)) (hn : qNm g) : nBS (stB g) = cntI (inO g) (g 23 4).toNat := by
  have r : 0 ≤ g 23 4 ∧ g 23 4 ≤ 20 := hn 23 4
  have h1 : nBS (stB g) = cntI (fun x => @decide (inS (stB g) x) (Classical.propDecidable _)) (g 23 4).toNat := by
    unfold nBS
    refine cntI_cut (by omega) (fun i a b => @decide_eq_false _ (Classical.propDecidable _) (fun q => ?_))
    have := ((hio i).mp q).2.1
    omega
  rw [h1]
  refine cntI_congr (fun i a b => ?_)
  unfold inO
  by_cases q : g 26 i = 1
  · rw [decide_eq_true q, @decide_eq_true _ (Classical.propDecidable _) ((hio i).mpr ⟨a, by omega, q⟩)]
  · rw [decide_eq_false q, @decide_eq_false _ (Classical.propDecidable _) (fun z => q ((hio i).mp z).2.2)]
theorem kd_B {b : Int} (h : 0 ≤ b ∧ b < g 23 4) : vB g 3 b = g 27 b ∧ (g 27 b ≠ 45 → vB g 4 b = g 28 b) := by
  have e : vB g 3 b = g 27 b := cGet_in h
  refine ⟨e, fun q => ?_⟩
  show (if cGet (g 23 4) (g 27) 45 b = 45 then 0 else g 28 b) = _
  rw [cGet_in h, if_neg q]
theorem hl_B {b h : Int} (hb : 0 ≤ b ∧ b < g 23 4) : hl2 g b h ↔ hlA (vB g) b h := by
  obtain ⟨k1, k2⟩ := kd_B hb
  unfold hlA
  constructor
  · rintro ⟨a, c⟩
    exact ⟨by rw [k1]; exact a, by rw [k2 a]; exact c⟩
  · rintro ⟨a, c⟩
    rw [k1] at a
    rw [k2 a] at c
    exact ⟨a, c⟩
theorem fr_B {h : Int} : frM g h ↔ frA (vB g) h := by
  unfold frA
  rw [bkO_B, bkO_B, bkO_B]
theorem ok_B {b j : Int} (hb : 0 ≤ b ∧ b < g 23 4) : (¬ hl2 g b j ∧ frM g j) ↔ okH (vB g) b j := by
  unfold okH
  rw [hl_B hb, fr_B]
theorem cn_B {t : Int} : cnA (vB g) t = cntI (stO g t) (g 23 13).toNat := by
  refine cntI_congr (fun i a b => ?_)
  have b2 : i < ((g 23 13).toNat : Int) := b
  show decide (cGet (g 23 13) (g 35) 99 i = t) = decide (g 35 i = t)
  rw [cGet_in ⟨a, by omega⟩]
theorem cntF_congr {p q : Int → Bool} : ∀ {n : Nat} {i : Int}, (∀ j, i ≤ j → j < i + n → p j = q j) → cntF p n i = cntF q n i
  | 0, _, _ => rfl
  | n + 1, i, h => by
    unfold cntF
    rw [h i (by omega) (by omega), cntF_congr (n := n) (i := i + 1) (fun j a b => h j (by omega) (by omega))]
theorem pin_B (o : yK g 0) (hio : insN g (stB g)) {b : Int} (hb : inS (stB g) b) : cntF (fun i => decide (g 27 (g 30 (4 * soS (stM g 0) b + i)) = 112)) (hM g 0 (soS (stM g 0) b) - (unS (stB g) b + 1)).toNat (unS (stB g) b + 1) = cntF (fun i => pinA (vB g) (atS (stB g) (soS (stB g) b) i)) (hgt (stB g) (soS (stB g) b) - (unS (stB g) b + 1)).toNat (unS (stB g) b + 1) := by
  obtain ⟨x1, x2, x3, x4⟩ := nod_in o hb
  have hc := o.1
  have hs4 : 0 ≤ soS (stM g 0) b ∧ soS (stM g 0) b < 4 := by omega
  have e1 := h29_B o hs4
  rw [hM0, e1]
  have hu : 0 ≤ unS (stB g) b + 1 := by
    have := ix_lt x1
    unfold unS hgt
    show 0 ≤ ((stM g 0 (soS (stM g 0) b)).length : Int) - 1 - (ixO b (stM g 0 (soS (stM g 0) b)) : Nat) + 1
    omega
  refine cntF_congr (fun j a c => ?_)
  have hj : 0 ≤ j ∧ j < g 29 (soS (stM g 0) b) := by omega
  have ea := at_B o hs4 hj.1 hj.2
  have hm : g 30 (4 * soS (stM g 0) b + j) ∈ stM g 0 (soS (stM g 0) b) := (stM_mem hs4 (by rw [hM0]; omega)).mpr ⟨j, hj.1, by rw [hM0]; exact hj.2, by congr 1; omega⟩
  have hk := (hio _).mp ⟨_, hm⟩
  show decide (g 27 (g 30 (4 * soS (stM g 0) b + j)) = 112) = decide (vB g 3 (atS (stB g) (soS (stM g 0) b) j) = 112)
  rw [ea, (kd_B ⟨hk.1, hk.2.1⟩).1]
theorem why_B (o : yK g 0) (hio : insN g (stB g)) {b s r : Int} (hb : inS (stB g) b) (hs : 0 ≤ s ∧ s < g 23 2) (h : whyM g b s r) : whyA (vB g) (stB g) b s r := by
  have hk := (hio _).mp hb
  have k3 := (kd_B ⟨hk.1, hk.2.1⟩).1
  have hc := o.1
  have hs4 : 0 ≤ s ∧ s < 4 := by omega
  have e1 := h29_B o hs4
  have e2 : vB g 1 s = g 24 s := cut4_in hs4
  have e4 : vB g 2 b = g 25 b := cGet_in ⟨hk.1, hk.2.1⟩
  have cp := cap_B o hio (w := g 25 b) hs
  have hle := o.2.2.2.1 s hs.1 hs.2
  rw [hM0] at hle
  unfold whyA
  rw [k3, e4]
  rcases h with h | ⟨h1, h2, h3⟩ | ⟨h1, h2, h | ⟨h3, ⟨h4, h5⟩ | ⟨h4, ⟨h5, h6⟩ | ⟨h5, h6⟩⟩⟩⟩
  · exact Or.inl h
  · exact Or.inr ⟨h1, Or.inl ⟨h2, h3⟩⟩
  · exact Or.inr ⟨h1, Or.inr ⟨h2, Or.inl h⟩⟩
  · exact Or.inr ⟨h1, Or.inr ⟨h2, Or.inr ⟨h3, Or.inl ⟨by rw [e1, e2]; omega, h5⟩⟩⟩⟩
  · have q := cp.mp h5
    exact Or.inr ⟨h1, Or.inr ⟨h2, Or.inr ⟨h3, Or.inr ⟨q.1, Or.inl ⟨q.2, h6⟩⟩⟩⟩⟩
  · refine Or.inr ⟨h1, Or.inr ⟨h2, Or.inr ⟨h3, Or.inr ⟨by rw [e1, e2]; omega, Or.inr ⟨fun z => h5 (cp.mpr ⟨by rw [e1, e2]; omega, z⟩), h6⟩⟩⟩⟩⟩
/-- the frame of a search -/
theorem rI_fnd (o : yK g 0) (hio : insN g (stB g)) (F : fndF g g1) : rInv g1 ∧ vB g1 = vB g ∧ stB g1 = stB g ∧ g1 23 0 = g 23 0 ∧ ∀ j, j < 23 ∨ 36 ≤ j → g1 j = g j := by
  obtain ⟨o1, e1⟩ := fndF_yK F o
  have e23 := F.2.2 23 (by decide) (by decide) (by decide)
  refine ⟨⟨o1, fun x => ?_⟩, fndF_B F, e1, by rw [e23], fun j hj => F.2.2 j (by omega) (by omega) (by omega)⟩
  show inS (stM g1 0) x ↔ _
  rw [e1, e23, F.2.2 26 (by decide) (by decide) (by decide)]
  exact hio x
theorem rI_mk {n : Int} {z : St} (hio : insN g (stB g)) (Q : mkQ g g1 n z) (hi : ∀ x, inS z x ↔ inS (stB g) x) : rInv g1 ∧ vB g1 = qUp (vB g) 0 1 (w32 (g 23 12 + n)) ∧ stB g1 = z ∧ g1 23 0 = g 23 0 ∧ ∀ j, j < 23 ∨ 36 ≤ j → g1 j = g j := by
  obtain ⟨a1, a2, a3, a4, a5⟩ := Q
  refine ⟨⟨a4, fun x => ?_⟩, ?_, a5, a2 0 (by decide), fun j hj => a1 j (by omega) (by omega) (by omega)⟩
  · show inS (stM g1 0) x ↔ _
    rw [a5, a2 4 (by decide), a1 26 (by decide) (by decide) (by decide), hi x]
    exact hio x
  · have vd : ∀ G : qHp, vB G = vV (G 23 1) (G 23 12) (G 23 18) (G 23 2) (G 23 4) (G 23 13) (G 24) (G 25) (G 27) (G 28) (G 32) (G 33) (G 34) (G 35) := fun _ => rfl
    rw [vd g1, a2 1 (by decide), a3, a2 18 (by decide), a2 2 (by decide), a2 4 (by decide), a2 13 (by decide), a1 24 (by decide) (by decide) (by decide), a1 25 (by decide) (by decide) (by decide), a1 27 (by decide) (by decide) (by decide), a1 28 (by decide) (by decide) (by decide), a1 32 (by decide) (by decide) (by decide), a1 33 (by decide) (by decide) (by decide), a1 34 (by decide) (by decide) (by decide), a1 35 (by decide) (by decide) (by decide)]
    exact vV_mv
end RA
abbrev rP_addStack (g0 : qHp) (rc : Int) : Int → qHp → Prop := fun r g' => (((1 ≤ rc ∧ rc ≤ 4) ∧ g0 23 2 ≠ 4) ∧ (r = g0 23 2) ∧ g' = (qUp (qUp g0 24 (g0 23 2) rc) 23 2 (g0 23 2 + 1))) ∨ ((¬ (1 ≤ rc ∧ rc ≤ 4)) ∧ g' = qUp g0 23 0 1) ∨ (((1 ≤ rc ∧ rc ≤ 4) ∧ g0 23 2 = 4) ∧ g' = qUp g0 23 0 2)
abbrev rP_addBox (g0 : qHp) (w s : Int) : Int → qHp → Prop := fun r g' => (((0 ≤ s ∧ s < g0 23 2) ∧ (1 ≤ w ∧ w ≤ 30) ∧ (hM g0 0 s < g0 24 s ∧ ∀ x, (stM g0 0 s).head? = some x → w ≤ g0 25 x) ∧ (cntI (inO g0) (g0 23 4).toNat ≠ 8 ∧ g0 23 4 ≠ 20)) ∧ (r = g0 23 4) ∧ g' = abM g0 w s) ∨ ((¬ (0 ≤ s ∧ s < g0 23 2)) ∧ g' = qUp g0 23 0 1) ∨ (((0 ≤ s ∧ s < g0 23 2) ∧ ¬ (1 ≤ w ∧ w ≤ 30)) ∧ g' = qUp g0 23 0 2) ∨ (((0 ≤ s ∧ s < g0 23 2) ∧ (1 ≤ w ∧ w ≤ 30) ∧ ¬ (hM g0 0 s < g0 24 s ∧ ∀ x, (stM g0 0 s).head? = some x → w ≤ g0 25 x)) ∧ g' = qUp g0 23 0 3) ∨ (((0 ≤ s ∧ s < g0 23 2) ∧ (1 ≤ w ∧ w ≤ 30) ∧ (hM g0 0 s < g0 24 s ∧ ∀ x, (stM g0 0 s).head? = some x → w ≤ g0 25 x) ∧ ¬ (cntI (inO g0) (g0 23 4).toNat ≠ 8 ∧ g0 23 4 ≠ 20)) ∧ g' = qUp g0 23 0 4)
abbrev rP_boxes (g0 : qHp) : Int → qHp → Prop := fun r g' => ((True) ∧ (r = cntI (inO g0) (g0 23 4).toNat) ∧ g' = g0)
abbrev rP_isInYard (g0 : qHp) (b : Int) : Int → qHp → Prop := fun r g' => (((0 ≤ b ∧ b < g0 23 4 ∧ g0 26 b = 1)) ∧ (r = 1) ∧ g' = g0) ∨ ((¬ (0 ≤ b ∧ b < g0 23 4 ∧ g0 26 b = 1)) ∧ (r = 0) ∧ g' = g0)
abbrev rP_weight (g0 : qHp) (b : Int) : Int → qHp → Prop := fun r g' => (((0 ≤ b ∧ b < g0 23 4 ∧ g0 26 b = 1)) ∧ (r = g0 25 b) ∧ g' = g0) ∨ ((¬ (0 ≤ b ∧ b < g0 23 4 ∧ g0 26 b = 1)) ∧ g' = qUp g0 23 0 1)
abbrev rP_stackOf (g0 : qHp) (b : Int) : Int → qHp → Prop := fun r g' => (((0 ≤ b ∧ b < g0 23 4 ∧ g0 26 b = 1)) ∧ (r = soS (stM g0 0) b) ∧ g' = g0) ∨ ((¬ (0 ≤ b ∧ b < g0 23 4 ∧ g0 26 b = 1)) ∧ g' = qUp g0 23 0 1)
abbrev rP_level (g0 : qHp) (b : Int) : Int → qHp → Prop := fun r g' => (((0 ≤ b ∧ b < g0 23 4 ∧ g0 26 b = 1)) ∧ (r = hM g0 0 (soS (stM g0 0) b) - 1 - (ixO b (stM g0 0 (soS (stM g0 0) b)) : Nat)) ∧ g' = g0) ∨ ((¬ (0 ≤ b ∧ b < g0 23 4 ∧ g0 26 b = 1)) ∧ g' = qUp g0 23 0 1)
abbrev rP_above (g0 : qHp) (b : Int) : Int → qHp → Prop := fun r g' => (((0 ≤ b ∧ b < g0 23 4 ∧ g0 26 b = 1)) ∧ (r = (ixO b (stM g0 0 (soS (stM g0 0) b)) : Nat)) ∧ g' = g0) ∨ ((¬ (0 ≤ b ∧ b < g0 23 4 ∧ g0 26 b = 1)) ∧ g' = qUp g0 23 0 1)
abbrev rP_height (g0 : qHp) (s : Int) : Int → qHp → Prop := fun r g' => (((0 ≤ s ∧ s < g0 23 2)) ∧ (r = g0 29 s) ∧ g' = g0) ∨ ((¬ (0 ≤ s ∧ s < g0 23 2)) ∧ g' = qUp g0 23 0 1)
abbrev rP_boxAt (g0 : qHp) (s k : Int) : Int → qHp → Prop := fun r g' => (((0 ≤ s ∧ s < g0 23 2) ∧ (0 ≤ k ∧ k < g0 29 s)) ∧ (r = g0 30 (4 * s + k)) ∧ g' = g0) ∨ ((¬ (0 ≤ s ∧ s < g0 23 2)) ∧ g' = qUp g0 23 0 1) ∨ (((0 ≤ s ∧ s < g0 23 2) ∧ ¬ (0 ≤ k ∧ k < g0 29 s)) ∧ g' = qUp g0 23 0 2)
abbrev rP_hold (g0 : qHp) (b kd ut : Int) : Int → qHp → Prop := fun r g' => (((0 ≤ b ∧ b < g0 23 4 ∧ g0 26 b = 1) ∧ ((kd = 112 ∨ kd = 108) ∧ (g0 23 1 < ut ∧ ut ≤ 1000)) ∧ (fstB (bkN g0 b) (g0 23 13) = -1 ∨ ut ≤ g0 33 (fstB (bkN g0 b) (g0 23 13)))) ∧ r = 0 ∧ g' = (qUp (qUp g0 27 b kd) 28 b ut)) ∨ (((0 ≤ b ∧ b < g0 23 4 ∧ g0 26 b = 1) ∧ ((kd = 112 ∨ kd = 108) ∧ (g0 23 1 < ut ∧ ut ≤ 1000)) ∧ fstB (bkN g0 b) (g0 23 13) ≠ -1 ∧ g0 33 (fstB (bkN g0 b) (g0 23 13)) < ut) ∧ r = 1 ∧ g' = qUp (qUp (qUp g0 27 b kd) 28 b ut) 35 (fstB (bkN g0 b) (g0 23 13)) 103) ∨ (¬ (0 ≤ b ∧ b < g0 23 4 ∧ g0 26 b = 1) ∧ g' = qUp g0 23 0 1) ∨ (((0 ≤ b ∧ b < g0 23 4 ∧ g0 26 b = 1) ∧ ¬ ((kd = 112 ∨ kd = 108) ∧ (g0 23 1 < ut ∧ ut ≤ 1000))) ∧ g' = qUp g0 23 0 2)
abbrev rP_release (g0 : qHp) (b : Int) : Int → qHp → Prop := fun r g' => (((0 ≤ b ∧ b < g0 23 4 ∧ g0 26 b = 1) ∧ g0 27 b ≠ 45) ∧ (r = g0 28 b) ∧ g' = qUp g0 27 b 45) ∨ ((¬ (0 ≤ b ∧ b < g0 23 4 ∧ g0 26 b = 1)) ∧ g' = qUp g0 23 0 1) ∨ (((0 ≤ b ∧ b < g0 23 4 ∧ g0 26 b = 1) ∧ g0 27 b = 45) ∧ g' = qUp g0 23 0 2)
abbrev rP_holdOf (g0 : qHp) (b : Int) : Int → qHp → Prop := fun r g' => ((0 ≤ b ∧ b < g0 23 4 ∧ g0 26 b = 1) ∧ r = g0 27 b ∧ g' = g0) ∨ (¬ (0 ≤ b ∧ b < g0 23 4 ∧ g0 26 b = 1) ∧ g' = qUp g0 23 0 1)
abbrev rP_heldUntil (g0 : qHp) (b : Int) : Int → qHp → Prop := fun r g' => (((0 ≤ b ∧ b < g0 23 4 ∧ g0 26 b = 1) ∧ g0 27 b ≠ 45) ∧ (r = g0 28 b) ∧ g' = g0) ∨ ((¬ (0 ≤ b ∧ b < g0 23 4 ∧ g0 26 b = 1)) ∧ g' = qUp g0 23 0 1) ∨ (((0 ≤ b ∧ b < g0 23 4 ∧ g0 26 b = 1) ∧ g0 27 b = 45) ∧ g' = qUp g0 23 0 2)
abbrev rP_pinnedAbove (g0 : qHp) (b : Int) : Int → qHp → Prop := fun r g' => (((0 ≤ b ∧ b < g0 23 4 ∧ g0 26 b = 1)) ∧ (r = cntF (fun i => decide (g0 27 (g0 30 (4 * soS (stM g0 0) b + i)) = 112)) (hM g0 0 (soS (stM g0 0) b) - ((hM g0 0 (soS (stM g0 0) b) - 1 - (ixO b (stM g0 0 (soS (stM g0 0) b)) : Nat)) + 1)).toNat ((hM g0 0 (soS (stM g0 0) b) - 1 - (ixO b (stM g0 0 (soS (stM g0 0) b)) : Nat)) + 1)) ∧ g' = g0) ∨ ((¬ (0 ≤ b ∧ b < g0 23 4 ∧ g0 26 b = 1)) ∧ g' = qUp g0 23 0 1)
abbrev rP_why (g0 : qHp) (b s : Int) : Int → qHp → Prop := fun r g' => (((0 ≤ b ∧ b < g0 23 4 ∧ g0 26 b = 1) ∧ (0 ≤ s ∧ s < g0 23 2)) ∧ whyM g0 b s r ∧ g' = g0) ∨ (¬ ((0 ≤ b ∧ b < g0 23 4 ∧ g0 26 b = 1) ∧ (0 ≤ s ∧ s < g0 23 2)) ∧ g' = qUp g0 23 0 1)
abbrev rP_move (g0 : qHp) (b s : Int) : Int → qHp → Prop := fun r g' => ((((0 ≤ b ∧ b < g0 23 4 ∧ g0 26 b = 1) ∧ (0 ≤ s ∧ s < g0 23 2)) ∧ okN g0 (stM g0 0) (soS (stM g0 0) b) s b) ∧ (r = w32 ((mvM g0 0 (soS (stM g0 0) b) s b) 23 12 + 1)) ∧ g' = (qUp (mvM g0 0 (soS (stM g0 0) b) s b) 23 12 (w32 ((mvM g0 0 (soS (stM g0 0) b) s b) 23 12 + 1)))) ∨ ((¬ ((0 ≤ b ∧ b < g0 23 4 ∧ g0 26 b = 1) ∧ (0 ≤ s ∧ s < g0 23 2))) ∧ g' = qUp g0 23 0 1) ∨ ((((0 ≤ b ∧ b < g0 23 4 ∧ g0 26 b = 1) ∧ (0 ≤ s ∧ s < g0 23 2)) ∧ ¬ okN g0 (stM g0 0) (soS (stM g0 0) b) s b) ∧ g' = qUp g0 23 0 2)
abbrev rP_planLength (g0 : qHp) (b : Int) : Int → qHp → Prop := fun r g' => planQ g0 b r g'
abbrev rP_planByTrying (g0 : qHp) (b : Int) : Int → qHp → Prop := fun r g' => planQ g0 b r g'
abbrev rP_planBox (g0 : qHp) (b i : Int) : Int → qHp → Prop := fun r g' => ∃ r0, plaQ g0 b i r0 g' ∧ r = r0 / 4
abbrev rP_planStack (g0 : qHp) (b i : Int) : Int → qHp → Prop := fun r g' => ∃ r0, plaQ g0 b i r0 g' ∧ r = r0 % 4
abbrev rP_dig (g0 : qHp) (b : Int) : Int → qHp → Prop := fun r g' => digQ g0 b r g'
abbrev rP_moves_ (g0 : qHp) : Int → qHp → Prop := fun r g' => ((True) ∧ (r = g0 23 12) ∧ g' = g0)
abbrev rP_book (g0 : qHp) (b h l : Int) : Int → qHp → Prop := fun r g' => ((((0 ≤ b ∧ b < g0 23 4 ∧ g0 26 b = 1) ∧ (0 ≤ l ∧ l ≤ 2)) ∧ (g0 23 1 < h ∧ h ≤ 999) ∧ ¬ hl2 g0 b h ∧ (fstB (bkN g0 b) (g0 23 13) = -1 ∧ fstB (bkO g0 l h) (g0 23 13) = -1 ∧ g0 23 13 ≠ 30)) ∧ (r = g0 23 13) ∧ g' = bkM g0 b h l) ∨ ((¬ ((0 ≤ b ∧ b < g0 23 4 ∧ g0 26 b = 1) ∧ (0 ≤ l ∧ l ≤ 2))) ∧ g' = qUp g0 23 0 1) ∨ ((((0 ≤ b ∧ b < g0 23 4 ∧ g0 26 b = 1) ∧ (0 ≤ l ∧ l ≤ 2)) ∧ ¬ (g0 23 1 < h ∧ h ≤ 999)) ∧ g' = qUp g0 23 0 2) ∨ ((((0 ≤ b ∧ b < g0 23 4 ∧ g0 26 b = 1) ∧ (0 ≤ l ∧ l ≤ 2)) ∧ (g0 23 1 < h ∧ h ≤ 999) ∧ hl2 g0 b h) ∧ g' = qUp g0 23 0 3) ∨ ((((0 ≤ b ∧ b < g0 23 4 ∧ g0 26 b = 1) ∧ (0 ≤ l ∧ l ≤ 2)) ∧ (g0 23 1 < h ∧ h ≤ 999) ∧ ¬ hl2 g0 b h ∧ ¬ (fstB (bkN g0 b) (g0 23 13) = -1 ∧ fstB (bkO g0 l h) (g0 23 13) = -1 ∧ g0 23 13 ≠ 30)) ∧ g' = qUp g0 23 0 4)
abbrev rP_cancel (g0 : qHp) (a : Int) : Int → qHp → Prop := fun r g' => (((0 ≤ a ∧ a < g0 23 13) ∧ g0 35 a = 98) ∧ (r = cntI (stO (qUp g0 35 a 99) 98) (g0 23 13).toNat) ∧ g' = qUp g0 35 a 99) ∨ ((¬ (0 ≤ a ∧ a < g0 23 13)) ∧ g' = qUp g0 23 0 1) ∨ (((0 ≤ a ∧ a < g0 23 13) ∧ g0 35 a ≠ 98) ∧ g' = qUp g0 23 0 2)
abbrev rP_stateOf (g0 : qHp) (a : Int) : Int → qHp → Prop := fun r g' => ((0 ≤ a ∧ a < g0 23 13) ∧ r = g0 35 a ∧ g' = g0) ∨ (¬ (0 ≤ a ∧ a < g0 23 13) ∧ g' = qUp g0 23 0 1)
abbrev rP_appointmentOf (g0 : qHp) (b : Int) : Int → qHp → Prop := fun r g' => (((0 ≤ b ∧ b < g0 23 4 ∧ g0 26 b = 1) ∧ fstB (bkN g0 b) (g0 23 13) ≠ -1) ∧ (r = fstB (bkN g0 b) (g0 23 13)) ∧ g' = g0) ∨ ((¬ (0 ≤ b ∧ b < g0 23 4 ∧ g0 26 b = 1)) ∧ g' = qUp g0 23 0 1) ∨ (((0 ≤ b ∧ b < g0 23 4 ∧ g0 26 b = 1) ∧ fstB (bkN g0 b) (g0 23 13) = -1) ∧ g' = qUp g0 23 0 2)
abbrev rP_inLane (g0 : qHp) (l h : Int) : Int → qHp → Prop := fun r g' => (((0 ≤ l ∧ l ≤ 2) ∧ (0 ≤ h ∧ h ≤ 999)) ∧ (r = fstB (bkO g0 l h) (g0 23 13)) ∧ g' = g0) ∨ ((¬ (0 ≤ l ∧ l ≤ 2)) ∧ g' = qUp g0 23 0 1) ∨ (((0 ≤ l ∧ l ≤ 2) ∧ ¬ (0 ≤ h ∧ h ≤ 999)) ∧ g' = qUp g0 23 0 2)
abbrev rP_firstHour (g0 : qHp) (b : Int) : Int → qHp → Prop := fun r g' => (((0 ≤ b ∧ b < g0 23 4 ∧ g0 26 b = 1) ∧ (g0 23 1 < r ∧ r ≤ 999)) ∧ ((¬ hl2 g0 b r ∧ frM g0 r) ∧ ∀ j, g0 23 1 < j → j < r → ¬ (¬ hl2 g0 b j ∧ frM g0 j)) ∧ g' = g0) ∨ ((¬ (0 ≤ b ∧ b < g0 23 4 ∧ g0 26 b = 1)) ∧ g' = qUp g0 23 0 1) ∨ (((0 ≤ b ∧ b < g0 23 4 ∧ g0 26 b = 1) ∧ ∀ j, g0 23 1 < j → j ≤ 999 → ¬ (¬ hl2 g0 b j ∧ frM g0 j)) ∧ g' = qUp g0 23 0 2)
abbrev rP_pass (g0 : qHp) (n : Int) : Int → qHp → Prop := fun r g' => (((1 ≤ n ∧ n ≤ 24) ∧ g0 23 1 + n ≤ 999) ∧ psA n.toNat (vB g0) (stB g0) r (vB g') (stB g') ∧ psJ g0 g') ∨ (¬ ((1 ≤ n ∧ n ≤ 24) ∧ g0 23 1 + n ≤ 999) ∧ g' = qUp g0 23 0 1)
abbrev rP_now (g0 : qHp) : Int → qHp → Prop := fun r g' => ((True) ∧ (r = g0 23 1) ∧ g' = g0)
abbrev rP_weightLeft (g0 : qHp) : Int → qHp → Prop := fun r g' => (r = g0 23 18) ∧ g' = g0
theorem R_boxes {g g1 : qHp} {rr : Int} (o : yK g 0) (hio : insN g (stB g)) (hz : g 23 0 = 0) (hn : qNm g) (hP0 : rP_boxes g rr g1) : sp_boxes (vB g) (stB g) (g1 23 0) rr (vB g1) (stB g1) ∧ rInv g1 ∧ ∀ j, j < 23 ∨ 36 ≤ j → g1 j = g j := by
  obtain ⟨-, h2, rfl⟩ := hP0
  exact rO o hio hz (rfl) ⟨by rw [h2]; exact (cnt_B hio hn).symm, rfl, rfl⟩
theorem R_isInYard {g g1 : qHp} {rr b : Int} (o : yK g 0) (hio : insN g (stB g)) (hz : g 23 0 = 0) (hn : qNm g) (hP0 : rP_isInYard g b rr g1) : sp_isInYard b (vB g) (stB g) (g1 23 0) rr (vB g1) (stB g1) ∧ rInv g1 ∧ ∀ j, j < 23 ∨ 36 ≤ j → g1 j = g j := by
  rcases hP0 with ⟨h1, h2, rfl⟩ | ⟨h1, h2, rfl⟩
  · exact rO o hio hz rfl ⟨Or.inl ⟨(hio _).mpr h1, h2⟩, rfl, rfl⟩
  · exact rO o hio hz rfl ⟨Or.inr ⟨fun q => h1 ((hio _).mp q), h2⟩, rfl, rfl⟩
theorem R_weight {g g1 : qHp} {rr b : Int} (o : yK g 0) (hio : insN g (stB g)) (hz : g 23 0 = 0) (hn : qNm g) (hP0 : rP_weight g b rr g1) : sp_weight b (vB g) (stB g) (g1 23 0) rr (vB g1) (stB g1) ∧ rInv g1 ∧ ∀ j, j < 23 ∨ 36 ≤ j → g1 j = g j := by
  rcases hP0 with ⟨h1, h2, rfl⟩ | ⟨h1, rfl⟩
  · exact rO o hio hz (Or.inr ⟨(hio _).mpr h1, rfl⟩) ⟨by rw [h2]; exact (cGet_in ⟨h1.1, h1.2.1⟩).symm, rfl, rfl⟩
  · exact rF o hio (by decide) (Or.inl ⟨fun q => h1 ((hio _).mp q), rfl⟩)
theorem R_stackOf {g g1 : qHp} {rr b : Int} (o : yK g 0) (hio : insN g (stB g)) (hz : g 23 0 = 0) (hn : qNm g) (hP0 : rP_stackOf g b rr g1) : sp_stackOf b (vB g) (stB g) (g1 23 0) rr (vB g1) (stB g1) ∧ rInv g1 ∧ ∀ j, j < 23 ∨ 36 ≤ j → g1 j = g j := by
  rcases hP0 with ⟨h1, h2, rfl⟩ | ⟨h1, rfl⟩
  · exact rO o hio hz (Or.inr ⟨(hio _).mpr h1, rfl⟩) ⟨h2, rfl, rfl⟩
  · exact rF o hio (by decide) (Or.inl ⟨fun q => h1 ((hio _).mp q), rfl⟩)
theorem R_level {g g1 : qHp} {rr b : Int} (o : yK g 0) (hio : insN g (stB g)) (hz : g 23 0 = 0) (hn : qNm g) (hP0 : rP_level g b rr g1) : sp_level b (vB g) (stB g) (g1 23 0) rr (vB g1) (stB g1) ∧ rInv g1 ∧ ∀ j, j < 23 ∨ 36 ≤ j → g1 j = g j := by
  rcases hP0 with ⟨h1, h2, rfl⟩ | ⟨h1, rfl⟩
  · exact rO o hio hz (Or.inr ⟨(hio _).mpr h1, rfl⟩) ⟨by rw [h2]; unfold unS; rw [h29_B o (so_4 o ((hio _).mpr h1)), hM0], rfl, rfl⟩
  · exact rF o hio (by decide) (Or.inl ⟨fun q => h1 ((hio _).mp q), rfl⟩)
theorem R_above {g g1 : qHp} {rr b : Int} (o : yK g 0) (hio : insN g (stB g)) (hz : g 23 0 = 0) (hn : qNm g) (hP0 : rP_above g b rr g1) : sp_above b (vB g) (stB g) (g1 23 0) rr (vB g1) (stB g1) ∧ rInv g1 ∧ ∀ j, j < 23 ∨ 36 ≤ j → g1 j = g j := by
  rcases hP0 with ⟨h1, h2, rfl⟩ | ⟨h1, rfl⟩
  · exact rO o hio hz (Or.inr ⟨(hio _).mpr h1, rfl⟩) ⟨h2, rfl, rfl⟩
  · exact rF o hio (by decide) (Or.inl ⟨fun q => h1 ((hio _).mp q), rfl⟩)
theorem R_pinnedAbove {g g1 : qHp} {rr b : Int} (o : yK g 0) (hio : insN g (stB g)) (hz : g 23 0 = 0) (hn : qNm g) (hP0 : rP_pinnedAbove g b rr g1) : sp_pinnedAbove b (vB g) (stB g) (g1 23 0) rr (vB g1) (stB g1) ∧ rInv g1 ∧ ∀ j, j < 23 ∨ 36 ≤ j → g1 j = g j := by
  rcases hP0 with ⟨h1, h2, rfl⟩ | ⟨h1, rfl⟩
  · exact rO o hio hz (Or.inr ⟨(hio _).mpr h1, rfl⟩) ⟨by rw [h2, ← pin_B o hio ((hio _).mpr h1)]; unfold unS; rw [h29_B o (so_4 o ((hio _).mpr h1)), hM0], rfl, rfl⟩
  · exact rF o hio (by decide) (Or.inl ⟨fun q => h1 ((hio _).mp q), rfl⟩)
theorem R_holdOf {g g1 : qHp} {rr b : Int} (o : yK g 0) (hio : insN g (stB g)) (hz : g 23 0 = 0) (hn : qNm g) (hP0 : rP_holdOf g b rr g1) : sp_holdOf b (vB g) (stB g) (g1 23 0) rr (vB g1) (stB g1) ∧ rInv g1 ∧ ∀ j, j < 23 ∨ 36 ≤ j → g1 j = g j := by
  rcases hP0 with ⟨h1, h2, rfl⟩ | ⟨h1, rfl⟩
  · exact rO o hio hz (Or.inr ⟨(hio _).mpr h1, rfl⟩) ⟨by rw [h2]; exact (kd_B ⟨h1.1, h1.2.1⟩).1.symm, rfl, rfl⟩
  · exact rF o hio (by decide) (Or.inl ⟨fun q => h1 ((hio _).mp q), rfl⟩)
theorem R_height {g g1 : qHp} {rr s : Int} (o : yK g 0) (hio : insN g (stB g)) (hz : g 23 0 = 0) (hn : qNm g) (hP0 : rP_height g s rr g1) : sp_height s (vB g) (stB g) (g1 23 0) rr (vB g1) (stB g1) ∧ rInv g1 ∧ ∀ j, j < 23 ∨ 36 ≤ j → g1 j = g j := by
  rcases hP0 with ⟨h1, h2, rfl⟩ | ⟨h1, rfl⟩
  · exact rO o hio hz (Or.inr ⟨h1, rfl⟩) ⟨by rw [h2]; exact (h29_B o (by have := o.1; omega)).symm, rfl, rfl⟩
  · exact rF o hio (by decide) (Or.inl ⟨h1, rfl⟩)
theorem R_boxAt {g g1 : qHp} {rr s k : Int} (o : yK g 0) (hio : insN g (stB g)) (hz : g 23 0 = 0) (hn : qNm g) (hP0 : rP_boxAt g s k rr g1) : sp_boxAt s k (vB g) (stB g) (g1 23 0) rr (vB g1) (stB g1) ∧ rInv g1 ∧ ∀ j, j < 23 ∨ 36 ≤ j → g1 j = g j := by
  rcases hP0 with ⟨⟨h1, h2⟩, h3, rfl⟩ | ⟨h1, rfl⟩ | ⟨⟨h1, h2⟩, rfl⟩
  · have e := h29_B o (s := s) (by have := o.1; omega)
    exact rO o hio hz (Or.inr ⟨h1, Or.inr ⟨by rw [e]; exact h2, rfl⟩⟩) ⟨by rw [h3]; exact (at_B o (by have := o.1; omega) h2.1 h2.2).symm, rfl, rfl⟩
  · exact rF o hio (by decide) (Or.inl ⟨h1, rfl⟩)
  · have e := h29_B o (s := s) (by have := o.1; omega)
    exact rF o hio (by decide) (Or.inr ⟨h1, Or.inl ⟨by rw [e]; exact h2, rfl⟩⟩)
theorem R_heldUntil {g g1 : qHp} {rr b : Int} (o : yK g 0) (hio : insN g (stB g)) (hz : g 23 0 = 0) (hn : qNm g) (hP0 : rP_heldUntil g b rr g1) : sp_heldUntil b (vB g) (stB g) (g1 23 0) rr (vB g1) (stB g1) ∧ rInv g1 ∧ ∀ j, j < 23 ∨ 36 ≤ j → g1 j = g j := by
  rcases hP0 with ⟨⟨h1, h2⟩, h3, rfl⟩ | ⟨h1, rfl⟩ | ⟨⟨h1, h2⟩, rfl⟩
  · have kb := kd_B ⟨h1.1, h1.2.1⟩
    exact rO o hio hz (Or.inr ⟨(hio _).mpr h1, Or.inr ⟨by rw [kb.1]; exact h2, rfl⟩⟩) ⟨by rw [h3]; exact (kb.2 h2).symm, rfl, rfl⟩
  · exact rF o hio (by decide) (Or.inl ⟨fun q => h1 ((hio _).mp q), rfl⟩)
  · have kb := kd_B ⟨h1.1, h1.2.1⟩
    exact rF o hio (by decide) (Or.inr ⟨(hio _).mpr h1, Or.inl ⟨fun q => q (kb.1.trans h2), rfl⟩⟩)
theorem R_why {g g1 : qHp} {rr b s : Int} (o : yK g 0) (hio : insN g (stB g)) (hz : g 23 0 = 0) (hn : qNm g) (hP0 : rP_why g b s rr g1) : sp_why b s (vB g) (stB g) (g1 23 0) rr (vB g1) (stB g1) ∧ rInv g1 ∧ ∀ j, j < 23 ∨ 36 ≤ j → g1 j = g j := by
  rcases hP0 with ⟨⟨h1, h1b⟩, h2, rfl⟩ | ⟨h1, rfl⟩
  · exact rO o hio hz (Or.inr ⟨⟨(hio _).mpr h1, h1b⟩, rfl⟩) ⟨why_B o hio ((hio _).mpr h1) h1b h2, rfl, rfl⟩
  · exact rF o hio (by decide) (Or.inl ⟨fun q => h1 ⟨(hio _).mp q.1, q.2⟩, rfl⟩)
theorem R_moves_ {g g1 : qHp} {rr : Int} (o : yK g 0) (hio : insN g (stB g)) (hz : g 23 0 = 0) (hn : qNm g) (hP0 : rP_moves_ g rr g1) : sp_moves (vB g) (stB g) (g1 23 0) rr (vB g1) (stB g1) ∧ rInv g1 ∧ ∀ j, j < 23 ∨ 36 ≤ j → g1 j = g j := by
  obtain ⟨-, h2, rfl⟩ := hP0
  exact rO o hio hz (rfl) ⟨h2, rfl, rfl⟩
theorem R_now {g g1 : qHp} {rr : Int} (o : yK g 0) (hio : insN g (stB g)) (hz : g 23 0 = 0) (hn : qNm g) (hP0 : rP_now g rr g1) : sp_now (vB g) (stB g) (g1 23 0) rr (vB g1) (stB g1) ∧ rInv g1 ∧ ∀ j, j < 23 ∨ 36 ≤ j → g1 j = g j := by
  obtain ⟨-, h2, rfl⟩ := hP0
  exact rO o hio hz (rfl) ⟨h2, rfl, rfl⟩
theorem R_weightLeft {g g1 : qHp} {rr : Int} (o : yK g 0) (hio : insN g (stB g)) (hz : g 23 0 = 0) (hn : qNm g) (hP0 : rP_weightLeft g rr g1) : sp_weightLeft (vB g) (stB g) (g1 23 0) rr (vB g1) (stB g1) ∧ rInv g1 ∧ ∀ j, j < 23 ∨ 36 ≤ j → g1 j = g j := by
  obtain ⟨h2, rfl⟩ := hP0
  exact rO o hio hz (rfl) ⟨h2, rfl, rfl⟩
theorem R_stateOf {g g1 : qHp} {rr a : Int} (o : yK g 0) (hio : insN g (stB g)) (hz : g 23 0 = 0) (hn : qNm g) (hP0 : rP_stateOf g a rr g1) : sp_stateOf a (vB g) (stB g) (g1 23 0) rr (vB g1) (stB g1) ∧ rInv g1 ∧ ∀ j, j < 23 ∨ 36 ≤ j → g1 j = g j := by
  rcases hP0 with ⟨h1, h2, rfl⟩ | ⟨h1, rfl⟩
  · exact rO o hio hz (Or.inr ⟨h1, rfl⟩) ⟨by rw [h2]; exact (cGet_in h1).symm, rfl, rfl⟩
  · exact rF o hio (by decide) (Or.inl ⟨h1, rfl⟩)
theorem R_appointmentOf {g g1 : qHp} {rr b : Int} (o : yK g 0) (hio : insN g (stB g)) (hz : g 23 0 = 0) (hn : qNm g) (hP0 : rP_appointmentOf g b rr g1) : sp_appointmentOf b (vB g) (stB g) (g1 23 0) rr (vB g1) (stB g1) ∧ rInv g1 ∧ ∀ j, j < 23 ∨ 36 ≤ j → g1 j = g j := by
  rcases hP0 with ⟨⟨h1, h2⟩, h3, rfl⟩ | ⟨h1, rfl⟩ | ⟨⟨h1, h2⟩, rfl⟩
  · exact rO o hio hz (Or.inr ⟨(hio _).mpr h1, Or.inr ⟨by rw [bkN_B]; exact h2, rfl⟩⟩) ⟨by rw [bkN_B]; exact h3, rfl, rfl⟩
  · exact rF o hio (by decide) (Or.inl ⟨fun q => h1 ((hio _).mp q), rfl⟩)
  · exact rF o hio (by decide) (Or.inr ⟨(hio _).mpr h1, Or.inl ⟨fun q => q (by rw [bkN_B]; exact h2), rfl⟩⟩)
theorem R_inLane {g g1 : qHp} {rr l h : Int} (o : yK g 0) (hio : insN g (stB g)) (hz : g 23 0 = 0) (hn : qNm g) (hP0 : rP_inLane g l h rr g1) : sp_inLane l h (vB g) (stB g) (g1 23 0) rr (vB g1) (stB g1) ∧ rInv g1 ∧ ∀ j, j < 23 ∨ 36 ≤ j → g1 j = g j := by
  rcases hP0 with ⟨⟨h1, h2⟩, h3, rfl⟩ | ⟨h1, rfl⟩ | ⟨⟨h1, h2⟩, rfl⟩
  · exact rO o hio hz (Or.inr ⟨h1, Or.inr ⟨h2, rfl⟩⟩) ⟨by rw [bkO_B]; exact h3, rfl, rfl⟩
  · exact rF o hio (by decide) (Or.inl ⟨h1, rfl⟩)
  · exact rF o hio (by decide) (Or.inr ⟨h1, Or.inl ⟨h2, rfl⟩⟩)
theorem R_firstHour {g g1 : qHp} {rr b : Int} (o : yK g 0) (hio : insN g (stB g)) (hz : g 23 0 = 0) (hn : qNm g) (hP0 : rP_firstHour g b rr g1) : sp_firstHour b (vB g) (stB g) (g1 23 0) rr (vB g1) (stB g1) ∧ rInv g1 ∧ ∀ j, j < 23 ∨ 36 ≤ j → g1 j = g j := by
  rcases hP0 with ⟨⟨h1, h2⟩, ⟨h3, h4⟩, rfl⟩ | ⟨h1, rfl⟩ | ⟨⟨h1, h2⟩, rfl⟩
  · have hb : 0 ≤ b ∧ b < g1 23 4 := ⟨h1.1, h1.2.1⟩
    exact rO o hio hz (Or.inr ⟨(hio _).mpr h1, Or.inr ⟨⟨rr, h2.1, h2.2, (ok_B hb).mp h3⟩, rfl⟩⟩) ⟨⟨⟨h2.1, (ok_B hb).mp h3⟩, fun j a c q => h4 j a c ((ok_B hb).mpr q)⟩, rfl, rfl⟩
  · exact rF o hio (by decide) (Or.inl ⟨fun q => h1 ((hio _).mp q), rfl⟩)
  · exact rF o hio (by decide) (Or.inr ⟨(hio _).mpr h1, Or.inl ⟨fun ⟨j, a, c, q⟩ => h2 j a c ((ok_B ⟨h1.1, h1.2.1⟩).mpr q), rfl⟩⟩)
