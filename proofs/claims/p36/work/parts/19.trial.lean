/-! the trial yard; what a shift leaves there; a begun plan's next ones and their weight -/
theorem yOK_eq {c : Int} {r h p so r' h' p' so' : Int → Int} (e1 : ∀ t, 0 ≤ t → t < 4 → r' t = r t) (e2 : ∀ t, 0 ≤ t → t < 4 → h' t = h t) (e3 : ∀ j, 0 ≤ j → j < 16 → p' j = p j) (e4 : ∀ x, 0 ≤ x → x < 20 → so' x = so x) (o : yOK c r h p so) : yOK c r' h' p' so' ∧ stOf h' p' = stOf h p := by
  obtain ⟨o1, o2, o3, o4, o5, o6, o7⟩ := o
  have e : stOf h' p' = stOf h p := stOf_eq e2 (fun s a b => (o2 s a b).2.1) e3
  refine ⟨⟨o1, fun s a b => by rw [e1 s a b, e2 s a b]; exact o2 s a b, fun s a b => by rw [e2 s (by omega) b]; exact o3 s a b, fun s a b => by rw [e2 s a (by omega), e1 s a (by omega)]; exact o4 s a b, by rw [e]; exact o5, fun s x hx => ?_, fun x a b hx => ?_⟩, e⟩
  · rw [e] at hx
    have := o5.2.2.1 s x hx
    rw [e4 x this.1 this.2]
    exact o6 s x hx
  · rw [e4 x a b] at hx ⊢
    rw [e]
    exact o7 x a b hx
/-- the trial yard stands as z, all else is as in g -/
def triA (g g' : qHp) (z : St) : Prop := g' 10 5 = g 5 5 ∧ cut4 (g' 11) = cut4 (g 6) ∧ yOK (g' 10 5) (g' 11) (g' 12) (g' 13) (g' 14) ∧ stOf (g' 12) (g' 13) = z ∧ ∀ k, k < 10 ∨ 15 ≤ k → g' k = g k
def sh10 (g : qHp) (f t : Int) : qHp := (qUp (qUp (qUp (qUp (qUp (qUp (qUp g 12 f ((g 12) f - 1)) 14 ((g 13) (f * 4 + (g 12) f - 1)) (-1)) 10 6 (w32 (g 10 6 - 1))) 13 (t * 4 + (g 12) t) ((g 13) (f * 4 + (g 12) f - 1))) 12 t ((g 12) t + 1)) 14 ((g 13) (f * 4 + (g 12) f - 1)) t) 10 6 (w32 (w32 (g 10 6 - 1) + 1)))
def cp10 (g : qHp) : qHp := (qUp (qUp (qCp (qCp (qCp (qCp g 6 11 4) 7 12 4) 8 13 16) 9 14 20) 10 5 (g 5 5)) 10 6 (g 5 6))
theorem sh10_rows (g : qHp) (f t : Int) : sh10 g f t 10 5 = g 10 5 ∧ sh10 g f t 11 = g 11 ∧ sh10 g f t 12 = uI (uI (g 12) f (g 12 f - 1)) t (g 12 t + 1) ∧ sh10 g f t 13 = uI (g 13) (t * 4 + g 12 t) (g 13 (f * 4 + g 12 f - 1)) ∧ sh10 g f t 14 = uI (uI (g 14) (g 13 (f * 4 + g 12 f - 1)) (-1)) (g 13 (f * 4 + g 12 f - 1)) t ∧ ∀ k, k < 10 ∨ 15 ≤ k → sh10 g f t k = g k := by
  unfold sh10
  refine ⟨?_, ?_, ?_, ?_, ?_, fun k hk => ?_⟩
  · rw [qUp_j (by decide), qUp_k (by decide), qUp_k (by decide), qUp_k (by decide), qUp_j (by decide), qUp_k (by decide), qUp_k (by decide)]
  · rw [qUp_row (by decide), qUp_row (by decide), qUp_row (by decide), qUp_row (by decide), qUp_row (by decide), qUp_row (by decide), qUp_row (by decide)]
  · rw [qUp_row (by decide), qUp_row (by decide), qUp_u, qUp_row (by decide), qUp_row (by decide), qUp_row (by decide), qUp_u]
  · rw [qUp_row (by decide), qUp_row (by decide), qUp_row (by decide), qUp_u, qUp_row (by decide), qUp_row (by decide), qUp_row (by decide)]
  · rw [qUp_row (by decide), qUp_u, qUp_row (by decide), qUp_row (by decide), qUp_row (by decide), qUp_u, qUp_row (by decide)]
  · rw [qUp_row (by omega), qUp_row (by omega), qUp_row (by omega), qUp_row (by omega), qUp_row (by omega), qUp_row (by omega), qUp_row (by omega)]
theorem sh10_tri {g g1 : qHp} {z : St} {w : Int → Int} {pn : Int → Bool} {s t x : Int} (T : triA g g1 z) (k : okM (g 5 5) (cut4 (g 6)) w pn z s t x) : (0 ≤ s ∧ s < g1 10 5 ∧ g1 12 s ≠ 0 ∧ s ≠ t) ∧ (0 ≤ t ∧ t < g1 10 5 ∧ g1 12 t < g1 11 t) ∧ g1 14 x = s ∧ (0 ≤ x ∧ x < 20) ∧ triA g (sh10 g1 s t) (doM z s t x) := by
  obtain ⟨t1, t2, t3, t4, t5⟩ := T
  subst t4
  rw [← t1, ← t2] at k
  obtain ⟨q1, q2, q3, q4, q5, q6, q7, q8, q9⟩ := okM_in t3 k
  have m := yOK_mv t3 k
  obtain ⟨k1, k2, k3, k4, -⟩ := k
  obtain ⟨r1, r2, r3, r4, r5, r6⟩ := sh10_rows g1 s t
  rw [← q5] at r4 r5
  refine ⟨⟨k1, k2, by omega, q3⟩, ⟨k3, k4, q6⟩, q8, q9, by rw [r1, t1], by rw [r2, t2], by rw [r1, r2, r3, r4, r5]; exact m.1, by rw [r3, r4]; exact m.2, fun k hk => by rw [r6 k hk, t5 k hk]⟩
theorem cp10_tri {g : qHp} (o : yOK (g 5 5) (g 6) (g 7) (g 8) (g 9)) : triA g (cp10 g) (stOf (g 7) (g 8)) := by
  have e0 : cp10 g 10 5 = g 5 5 := by
    unfold cp10
    rw [qUp_j (by decide), qUp_s]
  have e1 : ∀ t, 0 ≤ t → t < 4 → cp10 g 11 t = g 6 t := by
    intro t a b
    unfold cp10
    rw [qUp_k (by decide), qUp_k (by decide), qCp_row (by decide), qCp_row (by decide), qCp_row (by decide), qCp_in a b]
  have e2 : ∀ t, 0 ≤ t → t < 4 → cp10 g 12 t = g 7 t := by
    intro t a b
    unfold cp10
    rw [qUp_k (by decide), qUp_k (by decide), qCp_row (by decide), qCp_row (by decide), qCp_in a b, qCp_row (by decide)]
  have e3 : ∀ t, 0 ≤ t → t < 16 → cp10 g 13 t = g 8 t := by
    intro t a b
    unfold cp10
    rw [qUp_k (by decide), qUp_k (by decide), qCp_row (by decide), qCp_in a b, qCp_row (by decide), qCp_row (by decide)]
  have e4 : ∀ t, 0 ≤ t → t < 20 → cp10 g 14 t = g 9 t := by
    intro t a b
    unfold cp10
    rw [qUp_k (by decide), qUp_k (by decide), qCp_in a b, qCp_row (by decide), qCp_row (by decide), qCp_row (by decide)]
  have h := yOK_eq e1 e2 e3 e4 o
  refine ⟨e0, cut4_eq e1, by rw [e0]; exact h.1, h.2, fun k hk => ?_⟩
  unfold cp10
  rw [qUp_row (by omega), qUp_row (by omega), qCp_row (by omega), qCp_row (by omega), qCp_row (by omega), qCp_row (by omega)]
theorem pin_K {g g1 : qHp} (h : ∀ k, k < 10 → g1 k = g k) : pinB g1 = pinB g := by
  funext x
  unfold pinB
  rw [h 1 (by decide), h 3 (by decide)]
theorem why_K {g g1 : qHp} (h : ∀ k, k < 10 → g1 k = g k) : yWhyR g1 = yWhyR g := by
  funext c r h' p so x t v
  unfold yWhyR yBears
  rw [pin_K h, h 1 (by decide), h 2 (by decide)]
/-! the weights of a begun plan's next ones -/
def cst (e n hm s t : Int) : Int := if s = t then 0 else if s = hm then wN e (n - 1) else if t = hm then 0 else if e = 1 then wN 0 n else 0
def rwC (e n hm s : Int) : Nat → Int
  | 0 => 0
  | k + 1 => rwC e n hm s k + cst e n hm s k
def ttC (e n hm : Int) (c : Nat) : Nat → Int
  | 0 => 0
  | k + 1 => ttC e n hm c k + rwC e n hm k c
def ttOk (c hm e n : Nat) : Bool := decide (ttC e n hm c c ≤ wN e n - 1) && (List.range c).all (fun f => (List.range c).all (fun t => decide (ttC e n hm c f + rwC e n hm f (t + 1) ≤ wN e n - 1)))
theorem ttC_A : (List.range 5).all (fun c => (List.range 4).all (fun hm => (List.range 2).all (fun e => (List.range 3).all (fun n => ttOk c hm e (n + 1))))) = true := by decide +kernel
theorem ttC_N (c : Nat) (hc : c < 5) (hm : Nat) (hh : hm < 4) (e : Nat) (he : e < 2) (n : Nat) (hn : n < 4) (h1 : 1 ≤ n) : (ttC e n hm c c ≤ wN e n - 1) ∧ ∀ f : Nat, f < c → ∀ t : Nat, t < c → ttC e n hm c f + rwC e n hm f (t + 1) ≤ wN e n - 1 := by
  have a := List.all_eq_true.mp ttC_A c (List.mem_range.mpr hc)
  have a2 := List.all_eq_true.mp a hm (List.mem_range.mpr hh)
  have a3 := List.all_eq_true.mp a2 e (List.mem_range.mpr he)
  have a4 := List.all_eq_true.mp a3 (n - 1) (List.mem_range.mpr (by omega))
  rw [show n - 1 + 1 = n by omega] at a4
  unfold ttOk at a4
  rw [Bool.and_eq_true] at a4
  refine ⟨of_decide_eq_true a4.1, fun f hf t ht => ?_⟩
  have a5 := List.all_eq_true.mp a4.2 f (List.mem_range.mpr hf)
  exact of_decide_eq_true (List.all_eq_true.mp a5 t (List.mem_range.mpr ht))
theorem ttC_I {c hm e n : Int} (hc : 0 ≤ c ∧ c ≤ 4) (hh : 0 ≤ hm ∧ hm < 4) (he : 0 ≤ e ∧ e ≤ 1) (hn : 1 ≤ n ∧ n ≤ 3) : (ttC e n hm c.toNat c.toNat ≤ wN e n - 1) ∧ ∀ f t : Int, 0 ≤ f → f < c → 0 ≤ t → t < c → ttC e n hm c.toNat f.toNat + rwC e n hm f (t + 1).toNat ≤ wN e n - 1 := by
  obtain ⟨c, rfl⟩ : ∃ k : Nat, c = k := ⟨c.toNat, by omega⟩
  obtain ⟨hm, rfl⟩ : ∃ k : Nat, hm = k := ⟨hm.toNat, by omega⟩
  obtain ⟨e, rfl⟩ : ∃ k : Nat, e = k := ⟨e.toNat, by omega⟩
  obtain ⟨n, rfl⟩ : ∃ k : Nat, n = k := ⟨n.toNat, by omega⟩
  have h := ttC_N c (by omega) hm (by omega) e (by omega) n (by omega) (by omega)
  refine ⟨h.1, fun f t a b a2 b2 => ?_⟩
  obtain ⟨f, rfl⟩ : ∃ k : Nat, f = k := ⟨f.toNat, by omega⟩
  obtain ⟨t, rfl⟩ : ∃ k : Nat, t = k := ⟨t.toNat, by omega⟩
  exact h.2 f (by omega) t (by omega)
theorem cst_nn (e n hm s t : Int) : 0 ≤ cst e n hm s t := by
  have a := (wN_pos e (n - 1)).1
  have b := (wN_pos 0 n).1
  unfold cst
  repeat' split
  all_goals omega
theorem rwC_s {e n hm s t : Int} (h : 0 ≤ t) : rwC e n hm s (t + 1).toNat = rwC e n hm s t.toNat + cst e n hm s t := by
  have e1 : (t + 1).toNat = t.toNat + 1 := by omega
  have e2 : ((t.toNat : Nat) : Int) = t := by omega
  rw [e1]
  show rwC e n hm s t.toNat + cst e n hm s ((t.toNat : Nat) : Int) = _
  rw [e2]
theorem ttC_s {e n hm f c : Int} (h : 0 ≤ f) : ttC e n hm c.toNat (f + 1).toNat = ttC e n hm c.toNat f.toNat + rwC e n hm f c.toNat := by
  have e1 : (f + 1).toNat = f.toNat + 1 := by omega
  have e2 : ((f.toNat : Nat) : Int) = f := by omega
  rw [e1]
  show ttC e n hm c.toNat f.toNat + rwC e n hm ((f.toNat : Nat) : Int) c.toNat = _
  rw [e2]
section KIDS
variable {c : Int} {r w : Int → Int} {pn : Int → Bool} {b lim : Int} {L : List Int} {z : St} {n : Nat} {s t x hm : Int}
theorem kid_need (hz : wfS c z) (hb : b ∈ z hm) (hn : ixO b (z hm) = n) (h1 : n ≠ 0) (o : okM c r w pn z s t x) : x ≠ b ∧ ∃ n' : Nat, ovR (doM z s t x) b n' ∧ 1 + (n' : Int) = n + (if s = hm then 0 else if t = hm then 2 else 1) := by
  have hx : x ≠ b := by
    intro q
    obtain ⟨o1, o2, o3, o4, o5, o6, -⟩ := o
    obtain ⟨l, hl⟩ := hd_cons o6
    have e : s = hm := hz.2.1 s hm b (by rw [hl, q]; exact List.mem_cons_self) hb
    rw [← e, hl, q] at hn
    unfold ixO at hn
    rw [if_pos rfl] at hn
    exact h1 hn.symm
  refine ⟨hx, ?_⟩
  rcases ov_do hx o hb hn with ⟨a1, a2, q1, q2⟩ | ⟨a1, a2, q1, q2⟩ | ⟨a1, a2, q1, q2⟩
  · exact ⟨_, ⟨hm, q1, q2⟩, by rw [if_pos a1]; omega⟩
  · exact ⟨_, ⟨hm, q1, q2⟩, by rw [if_neg a1, if_pos a2]; omega⟩
  · exact ⟨_, ⟨hm, q1, q2⟩, by rw [if_neg a1, if_neg a2]; omega⟩
theorem kid_u (hr : ∀ t, r t ≤ 4) (hz : wfS c z) {x' B B' : Int} (h : isKid c r w pn b lim L z s t x B) (h' : isKid c r w pn b lim L z s t x' B') : B' = B := by
  obtain ⟨o, n1, a1, a2, a3⟩ := h
  obtain ⟨o', n2, b1, b2, b3⟩ := h'
  have e : x' = x := by
    have p := o.2.2.2.2.2.1
    have q := o'.2.2.2.2.2.1
    rw [p] at q
    simpa using q.symm
  subst e
  have en := ov_u (wf_do hr hz o) a1 b1
  subst en
  rw [a3, b3]
theorem gone_key {nd nd2 x t : Int} (hd : digs L) (hl : L.length ≤ 3) : nd2 * 2147483648 + (keyN nd L % 2147483648 - keyN nd L % 8) + (x * 4 + t) * bSh (keyN nd L % 8) + (keyN nd L % 8 + 1) = keyN nd2 (L ++ [4 * x + t]) := by
  have k1 := key_need (nd := nd) hd (by omega)
  have k2 := key_low (nd := nd) hd hl
  rw [k2.1, k1.2]
  show _ = nd2 * 2147483648 + mC (L ++ [4 * x + t]) 0 + (L ++ [4 * x + t]).length
  rw [mC_snoc hl, List.length_append, show x * 4 + t = 4 * x + t by omega]
  push_cast
  simp only [List.length_cons, List.length_nil]
  omega
theorem kid_w {nd : Int} (hd : digs L) (hl : L.length ≤ 3) (hm2 : 0 ≤ 4 * x + t ∧ 4 * x + t < 80) : wB lim (keyN nd (L ++ [4 * x + t])) = wN (lim - nd) (nd - (L.length + 1)) := by
  have hd2 : digs (L ++ [4 * x + t]) := by
    intro m hm
    rcases List.mem_append.mp hm with q | q
    · exact hd m q
    · have : m = 4 * x + t := by simpa using q
      rw [this]
      exact hm2
  have k := key_need (nd := nd) hd2 (by rw [List.length_append]; simp only [List.length_cons, List.length_nil]; omega)
  unfold wB
  rw [k.1, k.2, List.length_append]
  rfl
end KIDS
