/-! adding a begun plan's next ones: the walk's invariant -/
abbrev kidG (g : qHp) (b lim : Int) (L : List Int) (s t x B : Int) : Prop := isKid (g 10 5) (cut4 (g 11)) (cGet (g 1 3) (g 2) 0) (pinB g) b lim L (stOf (g 12) (g 13)) s t x B
def addI (g g1 : qHp) (b lim : Int) (L : List Int) (n : Nat) (CH : List Int) (f t : Int) : Prop := hpO (g1 17) (g1 16 1) ∧ (hpL (g1 17) (g1 16 1).toNat).Perm (CH ++ hpL (g 17) (g 16 1).toNat) ∧ g1 16 1 = g 16 1 + CH.length ∧ hpK g g1 ∧ (∀ B ∈ CH, ∃ s t x, kidG g b lim L s t x B) ∧ (∀ s u x B, kidG g b lim L s u x B → (s < f ∨ (s = f ∧ u < t)) → B ∈ CH) ∧ sumW lim CH ≤ ttC (lim - (L.length + n)) n (g 14 b) (g 10 5).toNat f.toNat + rwC (lim - (L.length + n)) n (g 14 b) f t.toNat
/-- what adding asks for -/
def addP (g : qHp) (b lim B : Int) (L : List Int) (n : Nat) : Prop := yOK (g 10 5) (g 11) (g 12) (g 13) (g 14) ∧ (0 ≤ b ∧ b < 20) ∧ B = keyN ((L.length : Int) + n) L ∧ digs L ∧ ovR (stOf (g 12) (g 13)) b n ∧ (1 ≤ n ∧ n ≤ 3) ∧ (0 ≤ lim - (L.length + n) ∧ lim - (L.length + n) ≤ 1) ∧ lim ≤ 4 ∧ hpO (g 17) (g 16 1) ∧ 0 ≤ g 16 1 ∧ g 16 1 + (wB lim B - 1) ≤ 1024
/-- what it leaves -/
def addQ (g g1 : qHp) (b lim B : Int) (L : List Int) : Prop := ∃ CH : List Int, hpO (g1 17) (g1 16 1) ∧ (hpL (g1 17) (g1 16 1).toNat).Perm (CH ++ hpL (g 17) (g 16 1).toNat) ∧ g1 16 1 = g 16 1 + CH.length ∧ hpK g g1 ∧ (∀ B ∈ CH, ∃ s t x, kidG g b lim L s t x B) ∧ (∀ s u x B, kidG g b lim L s u x B → B ∈ CH) ∧ sumW lim CH ≤ wB lim B - 1
section ADDING
variable {g g1 g2 : qHp} {b lim B : Int} {L : List Int} {n : Nat} {CH : List Int} {f t : Int}
theorem add_hm (P : addP g b lim B L n) : b ∈ stOf (g 12) (g 13) (g 14 b) ∧ ixO b (stOf (g 12) (g 13) (g 14 b)) = n ∧ (0 ≤ g 14 b ∧ g 14 b < g 10 5) := by
  obtain ⟨o, hb, -, -, ⟨s, h1, h2⟩, -⟩ := P
  have e := o.2.2.2.2.2.1 s b h1
  rw [e]
  exact ⟨h1, h2, o.2.2.2.2.1.2.2.2.2 s b h1⟩
theorem add_L (P : addP g b lim B L n) : L.length ≤ 3 ∧ B / 2147483648 = L.length + n ∧ B % 8 = L.length ∧ wB lim B = wN (lim - (L.length + n)) n ∧ (0 ≤ B ∧ B ≤ 1099511627775) ∧ (B % 2147483648 - B % 8) % (bSh (B % 8) * 128) = 0 := by
  obtain ⟨o, hb, hB, hd, -, hn, he, hl, -⟩ := P
  have h3 : L.length ≤ 3 := by omega
  have k := key_need (nd := (L.length : Int) + n) hd (by omega)
  have k2 := key_low (nd := (L.length : Int) + n) hd h3
  have k3 := key_rng hd (by omega)
  rw [← hB] at k k2
  refine ⟨h3, k.1, k.2, ?_, ?_, ?_⟩
  · unfold wB
    rw [k.1, k.2]
    congr 1
    omega
  · rw [hB]
    unfold keyN
    omega
  · rw [k2.1, k.2]
    exact k2.2
theorem addI_0 (P : addP g b lim B L n) : addI g g b lim L n [] 0 0 := by
  refine ⟨P.2.2.2.2.2.2.2.2.1, List.Perm.refl _, by simp, ⟨fun _ _ _ => rfl, fun _ _ => rfl⟩, fun B h => (nomatch h), fun s u x B k h => ?_, ?_⟩
  · have := k.1.1
    have := k.1.2.2.1
    omega
  · show (0 : Int) ≤ 0 + 0
    decide
theorem addI_row (h0 : 0 ≤ f) (I : addI g g1 b lim L n CH f (g 10 5)) : addI g g1 b lim L n CH (f + 1) 0 := by
  obtain ⟨i1, i2, i3, i4, i5, i6, i7⟩ := I
  refine ⟨i1, i2, i3, i4, i5, fun s u x B k h => i6 s u x B k ?_, ?_⟩
  · have := k.1.2.2.2.1
    have := k.1.2.2.1
    omega
  · rw [ttC_s h0]
    show _ ≤ _ + (0 : Int)
    omega
theorem addI_end (P : addP g b lim B L n) (I : addI g g1 b lim L n CH (g 10 5) 0) : addQ g g1 b lim B L := by
  obtain ⟨i1, i2, i3, i4, i5, i6, i7⟩ := I
  have hm := add_hm P
  have hL := add_L P
  have hc := P.1.1
  have q := (ttC_I (e := lim - (L.length + n)) (n := n) (hm := g 14 b) hc (by omega) P.2.2.2.2.2.2.1 (by have := P.2.2.2.2.2.1; omega)).1
  have i7 : sumW lim CH ≤ ttC (lim - (L.length + n)) n (g 14 b) (g 10 5).toNat (g 10 5).toNat + (0 : Int) := i7
  exact ⟨CH, i1, i2, i3, i4, i5, fun s u x B k => i6 s u x B k (Or.inl k.1.2.1), by omega⟩
theorem addI_no (h0 : 0 ≤ t) (I : addI g g1 b lim L n CH f t) (no : ∀ x B, ¬ kidG g b lim L f t x B) : addI g g1 b lim L n CH f (t + 1) := by
  obtain ⟨i1, i2, i3, i4, i5, i6, i7⟩ := I
  have q := cst_nn (lim - (L.length + n)) n (g 14 b) f t
  refine ⟨i1, i2, i3, i4, i5, fun s u x B k h => ?_, by rw [rwC_s h0]; omega⟩
  by_cases e : s = f ∧ u = t
  · obtain ⟨rfl, rfl⟩ := e
    exact absurd k (no x B)
  · exact i6 s u x B k (by omega)
theorem addI_yes {x B' : Int} (P : addP g b lim B L n) (h0 : 0 ≤ t) (I : addI g g1 b lim L n CH f t) (k : kidG g b lim L f t x B') (hw : wB lim B' ≤ cst (lim - (L.length + n)) n (g 14 b) f t) (a1 : hpO (g2 17) (g1 16 1 + 1)) (a2 : (hpL (g2 17) (g1 16 1 + 1).toNat).Perm (B' :: hpL (g1 17) (g1 16 1).toNat)) (a3 : g2 16 1 = g1 16 1 + 1) (a4 : hpK g1 g2) : addI g g2 b lim L n (B' :: CH) f (t + 1) := by
  obtain ⟨i1, i2, i3, i4, i5, i6, i7⟩ := I
  rw [← a3] at a1 a2
  refine ⟨a1, a2.trans (i2.cons _), by rw [a3, i3]; simp only [List.length_cons]; push_cast; omega, ⟨fun k k1 k2 => by rw [a4.1 k k1 k2, i4.1 k k1 k2], fun j hj => by rw [a4.2 j hj, i4.2 j hj]⟩, fun D hD => ?_, fun s u y D kD h => ?_, by rw [rwC_s h0]; simp only [sumW]; omega⟩
  · rcases List.mem_cons.mp hD with q | q
    · exact ⟨f, t, x, by rw [q]; exact k⟩
    · exact i5 D q
  · by_cases e : s = f ∧ u = t
    · obtain ⟨rfl, rfl⟩ := e
      rw [kid_u (yOK_cut P.1) P.1.2.2.2.2.1 k kD]
      exact List.mem_cons_self
    · exact List.mem_cons_of_mem _ (i6 s u y D kD (by omega))
/-- there is room for one more -/
theorem addI_room (P : addP g b lim B L n) (h0 : 0 ≤ t ∧ t < g 10 5) (hf : 0 ≤ f ∧ f < g 10 5) (I : addI g g1 b lim L n CH f t) (hw : 1 ≤ cst (lim - (L.length + n)) n (g 14 b) f t) : g1 16 1 < 1024 := by
  obtain ⟨i1, i2, i3, i4, i5, i6, i7⟩ := I
  have hm := add_hm P
  have hL := add_L P
  have hc := P.1.1
  have q := (ttC_I (e := lim - (L.length + n)) (n := n) (hm := g 14 b) hc (by omega) P.2.2.2.2.2.2.1 (by have := P.2.2.2.2.2.1; omega)).2 f t hf.1 hf.2 h0.1 h0.2
  rw [rwC_s h0.1] at q
  have z := sumW_len (lim := lim) (H := CH)
  have r := P.2.2.2.2.2.2.2.2.2.2
  omega
/-- no next one where the need is too much, or the move cannot be made -/
theorem kid_no {v v2 w0 : Int} (P : addP g b lim B L n) (hf : 0 ≤ f ∧ f < g 10 5) (hv : v = yTop (g 10 5) (g 12) (g 13) f) (hx : (f = g 14 b ∧ v2 = 0) ∨ (f ≠ g 14 b ∧ t = g 14 b ∧ v2 = 2) ∨ (f ≠ g 14 b ∧ t ≠ g 14 b ∧ v2 = 1)) (hno : lim < (L.length : Int) + n + v2 ∨ (yWhyR g (g 10 5) (g 11) (g 12) (g 13) (g 14) v t w0 ∧ w0 ≠ 45)) : ∀ x B', ¬ kidG g b lim L f t x B' := by
  rintro x B' ⟨o, n', h1, h2, h3⟩
  obtain ⟨m1, m2, m3⟩ := add_hm P
  obtain ⟨-, n2, k1, k2⟩ := kid_need P.1.2.2.2.2.1 m1 m2 (by have := P.2.2.2.2.2.1; omega) o
  have en := ov_u (wf_do (yOK_cut P.1) P.1.2.2.2.2.1 o) h1 k1
  subst en
  rcases hno with q | ⟨q, q2⟩
  · rcases hx with ⟨a1, a2⟩ | ⟨a1, a3, a2⟩ | ⟨a1, a3, a2⟩
    · rw [if_pos a1] at k2
      omega
    · rw [if_neg a1, if_pos a3] at k2
      omega
    · rw [if_neg a1, if_neg a3] at k2
      omega
  · have hh := o.2.2.2.2.2.1
    have e : v = x := by
      rcases yTop_hd P.1 hf.1 hf.2 with ⟨u1, u2, u3⟩ | ⟨u1, u2, u3⟩
      · rw [u3] at hh
        cases hh
      · rw [u2] at hh
        rw [hv]
        simpa using hh
    rw [e] at q
    exact q2 ((why_ok P.1 q).2 f o)
/-- the next one -/
theorem kid_yes {v v2 : Int} (P : addP g b lim B L n) (hf : 0 ≤ f ∧ f < g 10 5) (ht : 0 ≤ t ∧ t < g 10 5) (hv : v = yTop (g 10 5) (g 12) (g 13) f) (hx : (f = g 14 b ∧ v2 = 0) ∨ (f ≠ g 14 b ∧ t = g 14 b ∧ v2 = 2) ∨ (f ≠ g 14 b ∧ t ≠ g 14 b ∧ v2 = 1)) (hnd : (L.length : Int) + n + v2 ≤ lim) (q : yWhyR g (g 10 5) (g 11) (g 12) (g 13) (g 14) v t 45) : (0 ≤ v ∧ v < 20) ∧ kidG g b lim L f t v (keyN ((L.length : Int) + n + v2) (L ++ [4 * v + t])) ∧ wB lim (keyN ((L.length : Int) + n + v2) (L ++ [4 * v + t])) ≤ cst (lim - (L.length + n)) n (g 14 b) f t := by
  obtain ⟨o, hv2⟩ := (why_ok P.1 q).1 rfl
  have es : g 14 v = f := by
    rcases yTop_hd P.1 hf.1 hf.2 with ⟨u1, u2, u3⟩ | ⟨u1, u2, u3⟩
    · omega
    · refine P.1.2.2.2.2.2.1 f v ?_
      obtain ⟨l, hl⟩ := hd_cons u2
      rw [hl, ← hv]
      exact List.mem_cons_self
  rw [es] at o
  obtain ⟨m1, m2, m3⟩ := add_hm P
  obtain ⟨k0, n2, k1, k2⟩ := kid_need P.1.2.2.2.2.1 m1 m2 (by have := P.2.2.2.2.2.1; omega) o
  have hL := add_L P
  have hc := P.1.1
  have hne : f ≠ t := o.2.2.2.2.1
  have hw := kid_w (lim := lim) (L := L) (x := v) (t := t) (nd := (L.length : Int) + n + v2) P.2.2.2.1 hL.1 (by omega)
  have hn2 : (L.length : Int) + n + v2 = L.length + 1 + n2 := by
    rcases hx with ⟨a1, a2⟩ | ⟨a1, a3, a2⟩ | ⟨a1, a3, a2⟩
    · rw [if_pos a1] at k2
      omega
    · rw [if_neg a1, if_pos a3] at k2
      omega
    · rw [if_neg a1, if_neg a3] at k2
      omega
  refine ⟨hv2, ⟨o, n2, k1, by omega, by rw [hn2]⟩, ?_⟩
  have he := P.2.2.2.2.2.2.1
  rw [hw]
  unfold cst
  rw [if_neg hne]
  rcases hx with ⟨a1, a2⟩ | ⟨a1, a3, a2⟩ | ⟨a1, a3, a2⟩
  · rw [if_pos a1, a2]
    rw [show lim - ((L.length : Int) + n + 0) = lim - (L.length + n) by omega, show (L.length : Int) + n + 0 - (L.length + 1) = n - 1 by omega]
    exact Int.le_refl _
  · omega
  · rw [if_neg a1, if_neg a3, if_pos (by omega), a2]
    rw [show lim - ((L.length : Int) + n + 1) = 0 by omega, show (L.length : Int) + n + 1 - (L.length + 1) = n by omega]
    exact Int.le_refl _
end ADDING
