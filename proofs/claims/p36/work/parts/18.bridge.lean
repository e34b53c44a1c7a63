/-! a yard's cells as stacks of boxes -/
theorem tlS_len (p : Int → Int) (s : Int) : ∀ n : Nat, (tlS p s n).length = n
  | 0 => rfl
  | n + 1 => by simp [tlS, tlS_len p s n]
theorem tlS_eq {p p' : Int → Int} {s : Int} : ∀ {n : Nat}, (∀ k : Int, 0 ≤ k → k < n → p' (s * 4 + k) = p (s * 4 + k)) → tlS p' s n = tlS p s n
  | 0, _ => rfl
  | n + 1, h => by
    unfold tlS
    rw [h n (by omega) (by omega), tlS_eq (n := n) (fun k a b => h k a (by omega))]
theorem tlS_mem {p : Int → Int} {s x : Int} : ∀ {n : Nat}, x ∈ tlS p s n ↔ ∃ k : Int, 0 ≤ k ∧ k < n ∧ p (s * 4 + k) = x
  | 0 => by simp [tlS]; omega
  | n + 1 => by
    simp only [tlS, List.mem_cons, tlS_mem (n := n)]
    constructor
    · rintro (h | ⟨k, h1, h2, h3⟩)
      · exact ⟨n, by omega, by omega, h.symm⟩
      · exact ⟨k, h1, by omega, h3⟩
    · rintro ⟨k, h1, h2, h3⟩
      by_cases h : k = n
      · exact Or.inl (by rw [← h3, h])
      · exact Or.inr ⟨k, h1, by omega, h3⟩
theorem tlS_ix {p : Int → Int} {s x k : Int} : ∀ {n : Nat}, (tlS p s n).Nodup → 0 ≤ k → k < n → p (s * 4 + k) = x → ((ixO x (tlS p s n) : Nat) : Int) = n - 1 - k
  | 0, _, h1, h2, _ => by omega
  | n + 1, hd, h1, h2, h3 => by
    unfold tlS at hd ⊢
    obtain ⟨d1, d2⟩ := List.nodup_cons.mp hd
    unfold ixO
    by_cases h : k = n
    · rw [if_pos (by rw [← h3, h])]
      omega
    · have hm : x ∈ tlS p s n := tlS_mem.mpr ⟨k, h1, by omega, h3⟩
      rw [if_neg (fun q => d1 (by rw [q]; exact hm))]
      have := tlS_ix (n := n) d2 h1 (by omega) h3
      omega
def cut4 (r : Int → Int) : Int → Int := fun t => if 0 ≤ t ∧ t < 4 then r t else 0
theorem cut4_in {r : Int → Int} {t : Int} (h : 0 ≤ t ∧ t < 4) : cut4 r t = r t := by simp [cut4, h]
theorem cut4_eq {r r' : Int → Int} (h : ∀ t, 0 ≤ t → t < 4 → r' t = r t) : cut4 r' = cut4 r := by
  funext t
  unfold cut4
  by_cases q : 0 ≤ t ∧ t < 4
  · rw [if_pos q, if_pos q, h t q.1 q.2]
  · rw [if_neg q, if_neg q]
theorem stOf_in {h p : Int → Int} {s : Int} (q : 0 ≤ s ∧ s < 4) : stOf h p s = tlS p s (h s).toNat := by simp [stOf, q]
theorem stOf_out {h p : Int → Int} {s : Int} (q : ¬ (0 ≤ s ∧ s < 4)) : stOf h p s = [] := by
  unfold stOf
  rw [if_neg q]
theorem stOf_eq {h h' p p' : Int → Int} (e1 : ∀ s, 0 ≤ s → s < 4 → h' s = h s) (hh : ∀ s, 0 ≤ s → s < 4 → h s ≤ 4) (e2 : ∀ j, 0 ≤ j → j < 16 → p' j = p j) : stOf h' p' = stOf h p := by
  funext s
  by_cases q : 0 ≤ s ∧ s < 4
  · rw [stOf_in q, stOf_in q, e1 s q.1 q.2]
    have := hh s q.1 q.2
    exact tlS_eq (fun k k1 k2 => e2 _ (by omega) (by omega))
  · rw [stOf_out q, stOf_out q]
theorem stOf_len {h p : Int → Int} {s : Int} (q : 0 ≤ s ∧ s < 4) (h0 : 0 ≤ h s) : ((stOf h p s).length : Int) = h s := by
  rw [stOf_in q, tlS_len]
  omega
theorem stOf_hd {h p : Int → Int} {s : Int} (q : 0 ≤ s ∧ s < 4) (h0 : 0 < h s) : stOf h p s = p (s * 4 + h s - 1) :: tlS p s ((h s).toNat - 1) := by
  rw [stOf_in q]
  have e : (h s).toNat = ((h s).toNat - 1) + 1 := by omega
  rw [e]
  show p (s * 4 + (((h s).toNat - 1 : Nat) : Int)) :: tlS p s ((h s).toNat - 1) = _
  have e2 : s * 4 + (((h s).toNat - 1 : Nat) : Int) = s * 4 + h s - 1 := by omega
  rw [e2]
  rfl
theorem stOf_nil {h p : Int → Int} {s : Int} (h0 : h s = 0) : stOf h p s = [] := by
  by_cases q : 0 ≤ s ∧ s < 4
  · rw [stOf_in q, h0]
    rfl
  · exact stOf_out q
theorem stOf_mv {h p : Int → Int} {s t : Int} (hs : 0 ≤ s ∧ s < 4) (ht : 0 ≤ t ∧ t < 4) (hst : s ≠ t) (h0 : 0 < h s) (hh : ∀ s, 0 ≤ s → s < 4 → 0 ≤ h s ∧ h s ≤ 4) (h4 : h t < 4) : stOf (uI (uI h s (h s - 1)) t (h t + 1)) (uI p (t * 4 + h t) (p (s * 4 + h s - 1))) = doM (stOf h p) s t (p (s * 4 + h s - 1)) := by
  funext u
  have hb := hh s hs.1 hs.2
  have hb2 := hh t ht.1 ht.2
  by_cases us : u = s
  · subst us
    rw [doM_s, stOf_hd hs h0, stOf_in hs, uI_n hst, uI_s]
    have e : (h u - 1).toNat = (h u).toNat - 1 := by omega
    rw [e]
    exact tlS_eq (fun k k1 k2 => uI_n (by omega))
  · by_cases ut : u = t
    · subst ut
      rw [doM_t (Ne.symm hst), stOf_in ht, uI_s, stOf_in ht]
      have e : (h u + 1).toNat = (h u).toNat + 1 := by omega
      have e3 : u * 4 + (((h u).toNat : Nat) : Int) = u * 4 + h u := by omega
      rw [e]
      show uI p _ _ (u * 4 + (((h u).toNat : Nat) : Int)) :: tlS _ u (h u).toNat = _
      rw [e3, uI_s]
      congr 1
      exact tlS_eq (fun k k1 k2 => uI_n (by omega))
    · rw [doM_o us ut]
      by_cases q : 0 ≤ u ∧ u < 4
      · rw [stOf_in q, stOf_in q, uI_n ut, uI_n us]
        have := hh u q.1 q.2
        exact tlS_eq (fun k k1 k2 => uI_n (by omega))
      · rw [stOf_out q, stOf_out q]
/-- a yard in order -/
def yOK (c : Int) (r h p so : Int → Int) : Prop := (0 ≤ c ∧ c ≤ 4) ∧ (∀ s, 0 ≤ s → s < 4 → 0 ≤ h s ∧ h s ≤ 4 ∧ r s ≤ 4) ∧ (∀ s, c ≤ s → s < 4 → h s = 0) ∧ (∀ s, 0 ≤ s → s < c → h s ≤ r s) ∧ wfS c (stOf h p) ∧ (∀ s x, x ∈ stOf h p s → so x = s) ∧ (∀ x, 0 ≤ x → x < 20 → so x ≠ -1 → x ∈ stOf h p (so x))
theorem yOK_cut {c : Int} {r h p so : Int → Int} (o : yOK c r h p so) : ∀ t, cut4 r t ≤ 4 := by
  intro t
  unfold cut4
  split
  · rename_i q
    exact (o.2.1 t q.1 q.2).2.2
  · decide
theorem okM_in {c : Int} {r h p so w : Int → Int} {pn : Int → Bool} {s t x : Int} (o : yOK c r h p so) (k : okM c (cut4 r) w pn (stOf h p) s t x) : (0 ≤ s ∧ s < 4) ∧ (0 ≤ t ∧ t < 4) ∧ s ≠ t ∧ 0 < h s ∧ x = p (s * 4 + h s - 1) ∧ h t < r t ∧ h t < 4 ∧ so x = s ∧ (0 ≤ x ∧ x < 20) := by
  obtain ⟨o1, o2, o3, o4, o5, o6, o7⟩ := o
  obtain ⟨k1, k2, k3, k4, k5, k6, k7, k8, k9⟩ := k
  have hs : 0 ≤ s ∧ s < 4 := by omega
  have ht : 0 ≤ t ∧ t < 4 := by omega
  have b1 := o2 s hs.1 hs.2
  have b2 := o2 t ht.1 ht.2
  rw [stOf_len ht b2.1, cut4_in ht] at k8
  have h0 : 0 < h s := by
    by_cases q : h s = 0
    · rw [stOf_nil q] at k6
      cases k6
    · omega
  have hx : x = p (s * 4 + h s - 1) := by
    rw [stOf_hd hs h0] at k6
    simp at k6
    exact k6.symm
  have hm : x ∈ stOf h p s := by
    rw [stOf_hd hs h0, hx]
    exact List.mem_cons_self
  exact ⟨hs, ht, k5, h0, hx, k8, by omega, o6 s x hm, o5.2.2.1 s x hm⟩
theorem yOK_mv {c : Int} {r h p so w : Int → Int} {pn : Int → Bool} {s t x : Int} (o : yOK c r h p so) (k : okM c (cut4 r) w pn (stOf h p) s t x) : yOK c r (uI (uI h s (h s - 1)) t (h t + 1)) (uI p (t * 4 + h t) x) (uI (uI so x (-1)) x t) ∧ stOf (uI (uI h s (h s - 1)) t (h t + 1)) (uI p (t * 4 + h t) x) = doM (stOf h p) s t x := by
  obtain ⟨q1, q2, q3, q4, q5, q6, q7, q8, q9⟩ := okM_in o k
  have hcut := yOK_cut o
  have k' := k
  obtain ⟨o1, o2, o3, o4, o5, o6, o7⟩ := o
  obtain ⟨k1, k2, k3, k4, -⟩ := k
  have e : stOf (uI (uI h s (h s - 1)) t (h t + 1)) (uI p (t * 4 + h t) x) = doM (stOf h p) s t x := by
    rw [q5]
    exact stOf_mv q1 q2 q3 q4 (fun s a b => ⟨(o2 s a b).1, (o2 s a b).2.1⟩) q7
  refine ⟨⟨o1, fun u a b => ?_, fun u a b => ?_, fun u a b => ?_, by rw [e]; exact wf_do hcut o5 k', fun u y hy => ?_, fun y a b hy => ?_⟩, e⟩
  · have b1 := o2 u a b
    by_cases ut : u = t
    · subst ut
      rw [uI_s]
      omega
    · rw [uI_n ut]
      by_cases us : u = s
      · subst us
        rw [uI_s]
        omega
      · rw [uI_n us]
        exact b1
  · rw [uI_n (by omega), uI_n (by omega)]
    exact o3 u a b
  · have b1 := o4 u a b
    by_cases ut : u = t
    · subst ut
      rw [uI_s]
      omega
    · rw [uI_n ut]
      by_cases us : u = s
      · subst us
        rw [uI_s]
        omega
      · rw [uI_n us]
        exact b1
  · rw [e] at hy
    have hxs : x ∈ stOf h p s := by
      rw [stOf_hd q1 q4, q5]
      exact List.mem_cons_self
    by_cases us : u = s
    · subst us
      rw [doM_s] at hy
      have hnd := o5.1 u
      rw [stOf_hd q1 q4, ← q5] at hnd hy
      have hne : y ≠ x := fun z => (List.nodup_cons.mp hnd).1 (by rw [← z]; exact hy)
      rw [uI_n hne, uI_n hne]
      refine o6 u y ?_
      rw [stOf_hd q1 q4]
      exact List.mem_cons_of_mem _ hy
    · by_cases ut : u = t
      · subst ut
        rw [doM_t (Ne.symm q3)] at hy
        rcases List.mem_cons.mp hy with z | z
        · rw [z, uI_s]
        · have hne : y ≠ x := fun z2 => q3 (o5.2.1 s u x hxs (by rw [← z2]; exact z))
          rw [uI_n hne, uI_n hne]
          exact o6 u y z
      · rw [doM_o us ut] at hy
        have hne : y ≠ x := fun z2 => us (o5.2.1 u s x (by rw [← z2]; exact hy) hxs)
        rw [uI_n hne, uI_n hne]
        exact o6 u y hy
  · rw [e]
    by_cases yx : y = x
    · rw [yx, uI_s, doM_t (Ne.symm q3)]
      exact List.mem_cons_self
    · rw [uI_n yx, uI_n yx] at hy ⊢
      have hm := o7 y a b hy
      by_cases us : so y = s
      · rw [us] at hm ⊢
        rw [doM_s]
        rw [stOf_hd q1 q4, ← q5] at hm ⊢
        rcases List.mem_cons.mp hm with z | z
        · exact absurd z yx
        · exact z
      · by_cases ut : so y = t
        · rw [ut] at hm ⊢
          rw [doM_t (Ne.symm q3)]
          exact List.mem_cons_of_mem _ hm
        · rw [doM_o us ut]
          exact hm
theorem yTop_hd {c : Int} {r h p so : Int → Int} {s : Int} (o : yOK c r h p so) (h0 : 0 ≤ s) (h1 : s < c) : (h s = 0 ∧ yTop c h p s = -1 ∧ (stOf h p s).head? = none) ∨ (0 < h s ∧ (stOf h p s).head? = some (yTop c h p s) ∧ 0 ≤ yTop c h p s ∧ yTop c h p s < 20) := by
  have hs : 0 ≤ s ∧ s < 4 := by have := o.1; omega
  have b1 := o.2.1 s hs.1 hs.2
  by_cases q : h s = 0
  · refine Or.inl ⟨q, by unfold yTop; rw [if_neg (by omega)], by rw [stOf_nil q]; rfl⟩
  · have e : yTop c h p s = p (s * 4 + h s - 1) := by unfold yTop; rw [if_pos (by omega)]
    have hm : p (s * 4 + h s - 1) ∈ stOf h p s := by
      rw [stOf_hd hs (by omega)]
      exact List.mem_cons_self
    have hr := o.2.2.2.2.1.2.2.1 s _ hm
    refine Or.inr ⟨by omega, ?_, by rw [e]; exact hr⟩
    rw [stOf_hd hs (by omega), e]
    rfl
/-- 45 is the answer where the move can be made -/
theorem why_ok {g : qHp} {c : Int} {r h p so : Int → Int} {x t v : Int} (o : yOK c r h p so) (hw : yWhyR g c r h p so x t v) : (v = 45 → okM c (cut4 r) (cGet (g 1 3) (g 2) 0) (pinB g) (stOf h p) (so x) t x ∧ (0 ≤ x ∧ x < 20)) ∧ (∀ s, okM c (cut4 r) (cGet (g 1 3) (g 2) 0) (pinB g) (stOf h p) s t x → v = 45) := by
  have hO := o
  obtain ⟨o1, o2, o3, o4, o5, o6, o7⟩ := o
  constructor
  · intro hv
    rcases hw with ⟨-, z⟩ | ⟨w1, w2, ⟨-, z⟩ | ⟨w3, ⟨-, z⟩ | ⟨w4, ⟨-, z⟩ | ⟨w5, ⟨w6, -⟩ | ⟨-, z⟩⟩⟩⟩⟩
    · omega
    · omega
    · omega
    · omega
    · have hx : 0 ≤ x ∧ x < 20 := by
        by_cases q : 0 ≤ x ∧ x < 20
        · exact q
        · exfalso
          unfold ySt at w1
          rw [if_neg q] at w1
          exact w1 rfl
      have es : ySt so x = so x := by unfold ySt; rw [if_pos hx]
      rw [es] at w1 w2 w4
      have hm := o7 x hx.1 hx.2 w1
      have hs := o5.2.2.2.2 _ x hm
      have ht : 0 ≤ t ∧ t < c := by omega
      have ht4 : 0 ≤ t ∧ t < 4 := by omega
      rcases yTop_hd hO hs.1 hs.2 with ⟨u1, u2, u3⟩ | ⟨u1, u2, u3⟩
      · omega
      · refine ⟨⟨hs.1, hs.2, ht.1, ht.2, w4, by rw [u2, w2], w3, ?_, fun y hy => ?_⟩, hx⟩
        · rw [stOf_len ht4 (o2 t ht4.1 ht4.2).1, cut4_in ht4]
          omega
        · rcases yTop_hd hO ht.1 ht.2 with ⟨v1, v2, v3⟩ | ⟨v1, v2, v3⟩
          · rw [v3] at hy
            cases hy
          · rw [v2] at hy
            have e : yTop c h p t = y := by simpa using hy
            rcases w6 with w6 | w6
            · omega
            · rw [← e]
              exact w6
    · omega
  · intro s k
    obtain ⟨q1, q2, q3, q4, q5, q6, q7, q8, q9⟩ := okM_in hO k
    obtain ⟨k1, k2, k3, k4, k5, k6, k7, k8, k9⟩ := k
    have es : ySt so x = s := by unfold ySt; rw [if_pos q9, q8]
    have et : yTop c h p s = x := by unfold yTop; rw [if_pos (by omega), q5]
    rcases hw with ⟨z1, -⟩ | ⟨w1, w2, ⟨z, -⟩ | ⟨w3, ⟨z, -⟩ | ⟨w4, ⟨z, -⟩ | ⟨w5, ⟨w6, z⟩ | ⟨w6, z⟩⟩⟩⟩⟩
    · rw [es] at z1
      omega
    · rw [k7] at z
      cases z
    · omega
    · omega
    · exact z
    · exfalso
      refine w6 ?_
      unfold yBears
      rcases yTop_hd hO k3 k4 with ⟨v1, v2, v3⟩ | ⟨v1, v2, v3⟩
      · exact Or.inl v2
      · exact Or.inr (k9 _ v2)
/-- how many boxes stand above x -/
theorem yOvr_ix {c : Int} {r h p so : Int → Int} {x : Int} (o : yOK c r h p so) (hx : 0 ≤ x ∧ x < 20) (hs : so x ≠ -1) : yOvr c h p so x = ((ixO x (stOf h p (so x)) : Nat) : Int) ∧ x ∈ stOf h p (so x) ∧ (0 ≤ so x ∧ so x < c) ∧ ixO x (stOf h p (so x)) < 4 := by
  obtain ⟨o1, o2, o3, o4, o5, o6, o7⟩ := o
  have hm := o7 x hx.1 hx.2 hs
  have hs2 := o5.2.2.2.2 _ x hm
  have hs4 : 0 ≤ so x ∧ so x < 4 := by omega
  have b1 := o2 _ hs4.1 hs4.2
  have es : ySt so x = so x := by unfold ySt; rw [if_pos hx]
  have eh : yHt c h (so x) = h (so x) := by unfold yHt; rw [if_pos hs2]
  have hnd := o5.1 (so x)
  have hat : ∀ k, 0 ≤ k → k < h (so x) → yAt c h p (so x) k = p (so x * 4 + k) := by
    intro k a b
    unfold yAt
    rw [eh, if_pos ⟨a, b⟩]
  have h1 := fstI_rng (fun k => decide (yAt c h p (so x) k = x)) (h (so x)).toNat 0
  have hu : yUnd c h p so x = fstI (fun k => decide (yAt c h p (so x) k = x)) (h (so x)).toNat 0 := by
    unfold yUnd
    rw [es, eh]
  have hlt : fstI (fun k => decide (yAt c h p (so x) k = x)) (h (so x)).toNat 0 < h (so x) := by
    rw [stOf_in hs4] at hm
    obtain ⟨k, k1, k2, k3⟩ := tlS_mem.mp hm
    by_cases q : fstI (fun k => decide (yAt c h p (so x) k = x)) (h (so x)).toNat 0 < h (so x)
    · exact q
    · exfalso
      have hmiss := fstI_miss (fun k => decide (yAt c h p (so x) k = x)) (h (so x)).toNat 0 k k1 (by omega)
      have : yAt c h p (so x) k = x := by rw [hat k k1 (by omega), k3]
      simp [this] at hmiss
  have hhit := fstI_hit (fun k => decide (yAt c h p (so x) k = x)) (h (so x)).toNat 0 (by omega)
  have hp : yAt c h p (so x) (fstI (fun k => decide (yAt c h p (so x) k = x)) (h (so x)).toNat 0) = x := by simpa using hhit
  rw [hat _ h1.1 hlt] at hp
  have hnd' := hnd
  rw [stOf_in hs4] at hnd'
  have hix := tlS_ix hnd' h1.1 (by omega) hp
  refine ⟨?_, hm, hs2, ?_⟩
  · unfold yOvr
    rw [es, if_neg hs, eh, hu, stOf_in hs4, hix]
    omega
  · rw [stOf_in hs4]
    omega
