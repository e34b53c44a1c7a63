/-! Planner: the plan by trying -/
def minP (c : Int) (r w : Int → Int) (pn : Int → Bool) (b : Int) (z : St) (m v : Int) : Prop := (v = -1 ∧ ∀ L, plnR c r w pn b z L → m < L.length) ∨ (0 ≤ v ∧ v ≤ m ∧ (∃ L, plnR c r w pn b z L ∧ (L.length : Int) = v) ∧ ∀ L, plnR c r w pn b z L → v ≤ L.length)
def accI (c : Int) (r w : Int → Int) (pn : Int → Bool) (b : Int) (z : St) (m v f t : Int) : Prop := (v = -1 ∨ (1 ≤ v ∧ v ≤ m ∧ ∃ L, plnR c r w pn b z L ∧ (L.length : Int) = v)) ∧ ∀ s u x L, okM c r w pn z s u x → plnR c r w pn b (doM z s u x) L → (s < f ∨ (s = f ∧ u < t)) → (L.length : Int) + 1 ≤ m → v ≠ -1 ∧ v ≤ L.length + 1
/-- the trial yard stands as z, its face and all else are as in g -/
def triB (g g' : qHp) (z : St) : Prop := g' 10 5 = g 10 5 ∧ cut4 (g' 11) = cut4 (g 11) ∧ yOK (g' 10 5) (g' 11) (g' 12) (g' 13) (g' 14) ∧ stOf (g' 12) (g' 13) = z ∧ ∀ k, k < 10 ∨ 15 ≤ k → g' k = g k
theorem triB_tr {g g1 g2 : qHp} {z z' : St} (a : triB g g1 z) (b : triB g1 g2 z') : triB g g2 z' := by
  obtain ⟨a1, a2, a3, a4, a5⟩ := a
  obtain ⟨b1, b2, b3, b4, b5⟩ := b
  exact ⟨by rw [b1, a1], by rw [b2, a2], b3, b4, fun k hk => by rw [b5 k hk, a5 k hk]⟩
theorem triB_sh {g g1 : qHp} {z : St} {w : Int → Int} {pn : Int → Bool} {s t x : Int} (T : triB g g1 z) (k : okM (g 10 5) (cut4 (g 11)) w pn z s t x) : (0 ≤ s ∧ s < g1 10 5 ∧ g1 12 s ≠ 0 ∧ s ≠ t) ∧ (0 ≤ t ∧ t < g1 10 5 ∧ g1 12 t < g1 11 t) ∧ triB g (sh10 g1 s t) (doM z s t x) := by
  obtain ⟨t1, t2, t3, t4, t5⟩ := T
  subst t4
  rw [← t1, ← t2] at k
  obtain ⟨q1, q2, q3, q4, q5, q6, q7, q8, q9⟩ := okM_in t3 k
  have m := yOK_mv t3 k
  obtain ⟨k1, k2, k3, k4, -⟩ := k
  obtain ⟨r1, r2, r3, r4, r5, r6⟩ := sh10_rows g1 s t
  rw [← q5] at r4 r5
  exact ⟨⟨k1, k2, by omega, q3⟩, ⟨k3, k4, q6⟩, by rw [r1, t1], by rw [r2, t2], by rw [r1, r2, r3, r4, r5]; exact m.1, by rw [r3, r4]; exact m.2, fun k hk => by rw [r6 k hk, t5 k hk]⟩
theorem doM_back {z : St} {s t x : Int} (h : s ≠ t) (hx : (z s).head? = some x) : doM (doM z s t x) t s x = z := by
  obtain ⟨l, hl⟩ := hd_cons hx
  funext u
  by_cases ut : u = t
  · rw [ut, doM_s, doM_t (Ne.symm h)]
    rfl
  · by_cases us : u = s
    · rw [us, doM_t h, doM_s, hl]
      rfl
    · rw [doM_o ut us, doM_o us ut]
theorem ok_back {c : Int} {r w : Int → Int} {pn : Int → Bool} {z : St} {s t x : Int} (o : okM c r w pn z s t x) (hl : ((z s).length : Int) ≤ r s) : okM c r (fun _ => 0) (fun _ => false) (doM z s t x) t s x := by
  obtain ⟨o1, o2, o3, o4, o5, o6, -⟩ := o
  obtain ⟨l, e⟩ := hd_cons o6
  refine ⟨o3, o4, o1, o2, Ne.symm o5, by rw [doM_t (Ne.symm o5)]; rfl, rfl, ?_, fun y _ => Int.le_refl _⟩
  rw [doM_s, e]
  rw [e] at hl
  simp only [List.length_cons, List.tail_cons] at hl ⊢
  push_cast at hl
  omega
section TRYING
variable {c : Int} {r w : Int → Int} {pn : Int → Bool} {b m v f t : Int} {z : St}
theorem min_0 (hm : 0 ≤ m) (h : ovR z b 0) : minP c r w pn b z m 0 := Or.inr ⟨by decide, hm, ⟨[], ⟨z, rfl, h⟩, rfl⟩, fun L _ => by omega⟩
theorem pln_len (hr : ∀ t, r t ≤ 4) (hz : wfS c z) {n : Nat} (h : ovR z b n) {L : List Int} (hL : plnR c r w pn b z L) : n ≤ L.length := by
  obtain ⟨y, h1, h2⟩ := hL
  obtain ⟨n', q1, q2⟩ := ov_run h1 h
  have := ov_u (wf_run hr hz h1) h2 q1
  omega
theorem min_no (hr : ∀ t, r t ≤ 4) (hz : wfS c z) {n : Nat} (h : ovR z b n) (hm : m < n) : minP c r w pn b z m (-1) := Or.inl ⟨rfl, fun L hL => by have := pln_len hr hz h hL; omega⟩
theorem acc_0 : accI c r w pn b z m (-1) 0 0 := ⟨Or.inl rfl, fun s u x L o _ h _ => by have := o.1; have := o.2.2.1; omega⟩
theorem acc_row (I : accI c r w pn b z m v f c) : accI c r w pn b z m v (f + 1) 0 := ⟨I.1, fun s u x L o p h => I.2 s u x L o p (by have := o.2.2.1; have := o.2.2.2.1; omega)⟩
theorem acc_no (I : accI c r w pn b z m v f t) (no : ∀ x, ¬ okM c r w pn z f t x) : accI c r w pn b z m v f (t + 1) := ⟨I.1, fun s u x L o p h => by
  by_cases e : s = f ∧ u = t
  · obtain ⟨rfl, rfl⟩ := e
    exact absurd o (no x)
  · exact I.2 s u x L o p (by omega)⟩
theorem acc_yes {x q v' : Int} (I : accI c r w pn b z m v f t) (o : okM c r w pn z f t x) (hx : x ≠ b) (Q : minP c r w pn b (doM z f t x) (m - 1) q) (hv : (v' = v ∧ (q = -1 ∨ (v ≠ -1 ∧ v ≤ q + 1))) ∨ (v' = q + 1 ∧ q ≠ -1 ∧ (v = -1 ∨ q + 1 < v))) : accI c r w pn b z m v' f (t + 1) := by
  have hu : ∀ x', okM c r w pn z f t x' → x' = x := by
    intro x' o'
    have p := o.2.2.2.2.2.1
    have p' := o'.2.2.2.2.2.1
    rw [p] at p'
    simpa using p'.symm
  refine ⟨?_, fun s u x' L o' p h hl => ?_⟩
  · rcases hv with ⟨e, -⟩ | ⟨e, e2, -⟩
    · rw [e]
      exact I.1
    · rcases Q with ⟨q1, -⟩ | ⟨q1, q2, ⟨L, ⟨y, h1, h2⟩, h3⟩, -⟩
      · exact absurd q1 e2
      · refine Or.inr ⟨by omega, by omega, (4 * x + t) :: L, ⟨y, ⟨_, ⟨f, t, x, rfl, hx, o, rfl⟩, h1⟩, h2⟩, ?_⟩
        rw [List.length_cons]
        push_cast
        omega
  · by_cases e : s = f ∧ u = t
    · obtain ⟨rfl, rfl⟩ := e
      have ex := hu x' o'
      subst ex
      rcases Q with ⟨q1, q2⟩ | ⟨q1, q2, -, q4⟩
      · have := q2 L p
        omega
      · have := q4 L p
        omega
    · have k := I.2 s u x' L o' p (by omega) hl
      have hq : q = -1 ∨ 0 ≤ q := by rcases Q with ⟨q1, -⟩ | ⟨q1, -⟩ <;> omega
      omega
theorem acc_end (hz : ∀ n : Nat, ovR z b n → n ≠ 0) (I : accI c r w pn b z m v c 0) : minP c r w pn b z m v := by
  have key : ∀ L, plnR c r w pn b z L → (L.length : Int) ≤ m → v ≠ -1 ∧ v ≤ L.length := by
    intro L hL hl
    obtain ⟨y, h1, h2⟩ := hL
    cases L with
    | nil =>
      have h1 : z = y := h1
      rw [← h1] at h2
      exact absurd rfl (hz 0 h2)
    | cons mv L =>
      obtain ⟨a', ⟨s, u, x, -, -, o, rfl⟩, h3⟩ := h1
      rw [List.length_cons] at hl ⊢
      push_cast at hl ⊢
      exact I.2 s u x L o ⟨y, h3, h2⟩ (Or.inl o.2.1) hl
  rcases I.1 with e | ⟨e1, e2, e3⟩
  · refine Or.inl ⟨e, fun L hL => ?_⟩
    by_cases q : (L.length : Int) ≤ m
    · exact absurd e (key L hL q).1
    · omega
  · refine Or.inr ⟨by omega, e2, e3, fun L hL => ?_⟩
    by_cases q : (L.length : Int) ≤ m
    · exact (key L hL q).2
    · omega
end TRYING
abbrev minG (g : qHp) (b m v : Int) : Prop := minP (g 10 5) (cut4 (g 11)) (cGet (g 1 3) (g 2) 0) (pinB g) b (stOf (g 12) (g 13)) m v
abbrev accG (g : qHp) (b m v f t : Int) : Prop := accI (g 10 5) (cut4 (g 11)) (cGet (g 1 3) (g 2) 0) (pinB g) b (stOf (g 12) (g 13)) m v f t
abbrev okG (g : qHp) (s t x : Int) : Prop := okM (g 10 5) (cut4 (g 11)) (cGet (g 1 3) (g 2) 0) (pinB g) (stOf (g 12) (g 13)) s t x
/-- one try: what the walk knows of it -/
theorem try_ok {g : qHp} {f t v w0 : Int} (o : yOK (g 10 5) (g 11) (g 12) (g 13) (g 14)) (hf : 0 ≤ f ∧ f < g 10 5) (hv : v = yTop (g 10 5) (g 12) (g 13) f) (q : yWhyR g (g 10 5) (g 11) (g 12) (g 13) (g 14) v t w0) : (w0 = 45 → okG g f t v) ∧ (w0 ≠ 45 → ∀ x, ¬ okG g f t x) := by
  constructor
  · intro e
    obtain ⟨k, hv2⟩ := (why_ok o q).1 e
    have es : g 14 v = f := by
      rcases yTop_hd o hf.1 hf.2 with ⟨u1, u2, u3⟩ | ⟨u1, u2, u3⟩
      · omega
      · refine o.2.2.2.2.2.1 f v ?_
        obtain ⟨l, hl⟩ := hd_cons u2
        rw [hl, ← hv]
        exact List.mem_cons_self
    rw [es] at k
    exact k
  · intro e x k
    have hh := k.2.2.2.2.2.1
    have ex : v = x := by
      rcases yTop_hd o hf.1 hf.2 with ⟨u1, u2, u3⟩ | ⟨u1, u2, u3⟩
      · rw [u3] at hh
        cases hh
      · rw [u2] at hh
        rw [hv]
        simpa using hh
    rw [ex] at q
    exact e ((why_ok o q).2 f k)
theorem triB_why {g g2 : qHp} (T : triB g g2 (stOf (g 12) (g 13))) {x t v : Int} (h : yWhyR g2 (g2 10 5) (g2 11) (g2 12) (g2 13) (g2 14) x t v) {f x0 : Int} (hf : 0 ≤ f ∧ f < g 10 5) (hx : x = yTop (g2 10 5) (g2 12) (g2 13) f) : (v = 45 → okG g f t x) ∧ (v ≠ 45 → ∀ x, ¬ okG g f t x) := by
  obtain ⟨t1, t2, t3, t4, t5⟩ := T
  have q := try_ok t3 (by rw [t1]; exact hf) hx h
  unfold okG at q ⊢
  rw [t1, t2, t4, t5 1 (by decide), t5 2 (by decide), pin_K (fun k hk => t5 k (Or.inl hk))] at q
  exact q
theorem triB_min {g g3 : qHp} {z : St} (T : triB g g3 z) {b m v : Int} : minG g3 b m v ↔ minP (g 10 5) (cut4 (g 11)) (cGet (g 1 3) (g 2) 0) (pinB g) b z m v := by
  obtain ⟨t1, t2, t3, t4, t5⟩ := T
  unfold minG
  rw [t1, t2, t4, t5 1 (by decide), t5 2 (by decide), pin_K (fun k hk => t5 k (Or.inl hk))]
/-- the top of stack f, whatever the trial yard's cells are -/
theorem triB_top {g g2 : qHp} (T : triB g g2 (stOf (g 12) (g 13))) (o : yOK (g 10 5) (g 11) (g 12) (g 13) (g 14)) {f : Int} (hf : 0 ≤ f ∧ f < g 10 5) : yTop (g2 10 5) (g2 12) (g2 13) f = yTop (g 10 5) (g 12) (g 13) f := by
  obtain ⟨t1, t2, t3, t4, t5⟩ := T
  rcases yTop_hd o hf.1 hf.2 with ⟨u1, u2, u3⟩ | ⟨u1, u2, u3⟩ <;> rcases yTop_hd t3 hf.1 (by rw [t1]; exact hf.2) with ⟨w1, w2, w3⟩ | ⟨w1, w2, w3⟩
  · rw [u2, w2]
  · rw [t4, u3] at w2
    cases w2
  · rw [t4, u2] at w3
    cases w3
  · rw [t4, u2] at w2
    simpa using w2.symm
set_option maxRecDepth 20000 in
theorem KX3_fewestMoves_step (g : qHp) (b : Int) (hb : -2147483648 ≤ b ∧ b < 2147483648) (ml : Int) (hml : -2147483648 ≤ ml ∧ ml < 2147483648) (m : Nat) (hml : ml = m) (hm4 : m ≤ 4) (o : yOK (g 10 5) (g 11) (g 12) (g 13) (g 14)) (hb2 : 0 ≤ b ∧ b < 20) (hs : g 14 b ≠ -1) (IH : ∀ m' : Nat, m' < m → ∀ g : qHp, yOK (g 10 5) (g 11) (g 12) (g 13) (g 14) → g 14 b ≠ -1 → qC yX3_fewestMoves (.code yX3_fewestMoves cX3_fewestMoves 9 (some .int)) (4 + m') 0 (fun ad => [.ref (ad 10), .int (iI b), .int (iI (m' : Int))]) g (qPi (fun (r : Int) (g' : qHp) => triB g g' (stOf (g 12) (g 13)) ∧ minG g b (m' : Int) r)) qNo) : qC yX3_fewestMoves (.code yX3_fewestMoves cX3_fewestMoves 9 (some .int)) (4 + m) 0 (fun ad => [.ref (ad 10), .int (iI b), .int (iI ml)]) g (qPi (fun (r : Int) (g' : qHp) => triB g g' (stOf (g 12) (g 13)) ∧ minG g b ml r)) qNo := by
  refine q_meth (by decide +kernel) rfl (fun _ => (Nat.le_of_ble_eq_true rfl)) (fun X ω C => ?_)
  obtain ⟨x1, x2, x3, x4⟩ := yOvr_ix o hb2 hs
  have hov : ovR (stOf (g 12) (g 13)) b (ixO b (stOf (g 12) (g 13) (g 14 b))) := ⟨_, x2, rfl⟩
  generalize hnn : ixO b (stOf (g 12) (g 13) (g 14 b)) = n at *
  have hc4 := o.1
  have T0 : triB g g (stOf (g 12) (g 13)) := ⟨rfl, rfl, o, rfl, fun _ _ => rfl⟩
  refine q_loc [(0, .ref (ω.1 10)), (1, .int (iI b)), (2, .int (iI ml))] ⟨rfl, rfl, rfl, trivial⟩ ?_
  refine q_aload_n C 0 dX3_fewestMoves_0 rfl rfl ?_
  refine q_iload_n C 1 dX3_fewestMoves_1 rfl rfl ?_
  refine q_Vf0 C (KX4_boxesOver_10 _ _ (by omega)) mX4_boxesOver ml_X3_25 dX3_fewestMoves_2 (by omega) (by decide) rfl rfl rfl (Nat.le_of_ble_eq_true rfl) rfl (by decide) rfl rfl (fun v2 l2 u2 h2 => ?_)
  refine q_istoreV_n C 3 dX3_fewestMoves_5 rfl (by decide) (fun v5 e5 => ?_)
  have q5 : v5 = n := by rw [e5, h2.1, x1]
  refine q_iload_n C 3 dX3_fewestMoves_6 rfl rfl ?_
  refine q_ifne C 12 dX3_fewestMoves_7 (by decide) (by omega) (fun c7 => ?_) (fun c7 => ?_)
  · refine q_iload_n C 3 dX3_fewestMoves_12 rfl rfl ?_
    refine q_iload_n C 2 dX3_fewestMoves_13 rfl rfl ?_
    refine q_icmp_le C 19 dX3_fewestMoves_14 (by decide) (by omega) (by omega) (fun c14 => ?_) (fun c14 => ?_)
    · refine q_iconst C dX3_fewestMoves_19 ?_
      refine q_istoreV C dX3_fewestMoves_20 (by decide) (fun v20 e20 => ?_)
      refine q_iconst C dX3_fewestMoves_22 ?_
      refine q_istoreV C dX3_fewestMoves_23 (by decide) (fun v23 e23 => ?_)
      have loopA : ∀ (nA : Nat) (f : Int) (g1 : qHp) (acc : Int), ((g 10 5 - f) < (nA : Int)) → (0 ≤ f ∧ f ≤ g 10 5) → (triB g g1 (stOf (g 12) (g 13)) ∧ accG g b ml acc f 0 ∧ (-1 ≤ acc ∧ acc ≤ 4)) → qT X ω 9 0 (qEnd X ω (qPi (fun (r : Int) (g' : qHp) => triB g g' (stOf (g 12) (g 13)) ∧ minG g b ml r)) qNo 0) g1 25 [(0, .ref (ω.1 10)), (1, .int (iI b)), (2, .int (iI ml)), (3, .int (iI v5)), (4, .int (iI acc)), (5, .int (iI f))] [] := by
        intro nA
        induction nA with
        | zero => intro f g1 acc hmA hf hI; exfalso; omega
        | succ nA ihA =>
          intro f g1 acc hmA hf hI
          refine q_iload C dX3_fewestMoves_25 rfl ?_
          refine q_aload_n C 0 dX3_fewestMoves_27 rfl rfl ?_
          refine q_Vf0 C (KX4_stackCount_10 _) mX4_stackCount ml_X3_80 dX3_fewestMoves_28 (by omega) (by decide) rfl rfl rfl (Nat.le_of_ble_eq_true rfl) rfl (by decide) rfl rfl (fun v28 l28 u28 h28 => ?_)
          rw [hI.1.1] at h28
          refine q_icmp_ge C 135 dX3_fewestMoves_31 (by decide) (by omega) (by omega) (fun c31 => ?_) (fun c31 => ?_)
          · refine q_iload C dX3_fewestMoves_135 rfl ?_
            have q : f = g 10 5 := by omega
            subst q
            exact q_iretI C dX3_fewestMoves_137 (by omega) (by decide) ⟨hI.1, acc_end (fun n' hn' => by rw [ov_u o.2.2.2.2.1 hn' hov]; omega) hI.2.1⟩
          · refine q_aload_n C 0 dX3_fewestMoves_34 rfl rfl ?_
            refine q_iload C dX3_fewestMoves_35 rfl ?_
            refine q_Vf0 C (KX4_topOf_10 _ _ (by omega)) mX4_topOf ml_X3_84 dX3_fewestMoves_37 (by omega) (by decide) rfl rfl rfl (Nat.le_of_ble_eq_true rfl) rfl (by decide) rfl rfl (fun v37 l37 u37 h37 => ?_)
            rw [triB_top hI.1 o (by omega)] at h37
            refine q_istoreV C dX3_fewestMoves_40 (by decide) (fun v40 e40 => ?_)
            refine q_iconst C dX3_fewestMoves_42 ?_
            refine q_istoreV C dX3_fewestMoves_43 (by decide) (fun v43 e43 => ?_)
            have loopB : ∀ (nB : Nat) (t : Int) (g2 : qHp) (bcc : Int), ((g 10 5 - t) < (nB : Int)) → (0 ≤ t ∧ t ≤ g 10 5) → (triB g g2 (stOf (g 12) (g 13)) ∧ accG g b ml bcc f t ∧ (-1 ≤ bcc ∧ bcc ≤ 4)) → qT X ω 9 0 (qEnd X ω (qPi (fun (r : Int) (g' : qHp) => triB g g' (stOf (g 12) (g 13)) ∧ minG g b ml r)) qNo 0) g2 45 [(0, .ref (ω.1 10)), (1, .int (iI b)), (2, .int (iI ml)), (3, .int (iI v5)), (4, .int (iI bcc)), (5, .int (iI f)), (6, .int (iI v40)), (7, .int (iI t))] [] := by
              intro nB
              induction nB with
              | zero => intro t g2 bcc hmB ht hJ; exfalso; omega
              | succ nB ihB =>
                intro t g2 bcc hmB ht hJ
                refine q_iload C dX3_fewestMoves_45 rfl ?_
                refine q_aload_n C 0 dX3_fewestMoves_47 rfl rfl ?_
                refine q_Vf0 C (KX4_stackCount_10 _) mX4_stackCount ml_X3_80 dX3_fewestMoves_48 (by omega) (by decide) rfl rfl rfl (Nat.le_of_ble_eq_true rfl) rfl (by decide) rfl rfl (fun v48 l48 u48 h48 => ?_)
                rw [hJ.1.1] at h48
                refine q_icmp_ge C 129 dX3_fewestMoves_51 (by decide) (by omega) (by omega) (fun c51 => ?_) (fun c51 => ?_)
                · refine q_iinc C dX3_fewestMoves_129 rfl (by decide) (fun v129 e129 => ?_)
                  refine q_goto C 25 dX3_fewestMoves_132 (by decide) ?_
                  refine q_loc [(0, .ref (ω.1 10)), (1, .int (iI b)), (2, .int (iI ml)), (3, .int (iI v5)), (4, .int (iI _)), (5, .int (iI v129))] ⟨rfl, rfl, rfl, rfl, rfl, rfl, trivial⟩ ?_
                  exact ihA v129 _ _ (by omega) (by omega) (by subst e129; have q : t = g 10 5 := by {omega}; subst q; exact ⟨hJ.1, acc_row hJ.2.1, hJ.2.2⟩)
                · refine q_aload_n C 0 dX3_fewestMoves_54 rfl rfl ?_
                  refine q_iload C dX3_fewestMoves_55 rfl ?_
                  refine q_iload C dX3_fewestMoves_57 rfl ?_
                  refine q_Vf0 C (KX4_reasonAgainst_10 _ _ (by omega) _ (by omega)) mX4_reasonAgainst ml_X3_87 dX3_fewestMoves_59 (by omega) (by decide) rfl rfl rfl (Nat.le_of_ble_eq_true rfl) rfl (by decide) rfl rfl (fun v59 l59 u59 h59 => ?_)
                  have W := triB_why (x0 := 0) hJ.1 h59.1 (f := f) (by omega) (by rw [triB_top hJ.1 o (by omega), e40, h37])
                  refine q_bipush C dX3_fewestMoves_62 (by decide +kernel) ?_
                  refine q_icmp_eq C 70 dX3_fewestMoves_64 (by decide) (by omega) (by omega) (fun c64 => ?_) (fun c64 => ?_)
                  · have ok := W.1 (by omega)
                    have S := triB_sh hJ.1 ok
                    have hxb := (kid_need o.2.2.2.2.1 x2 hnn (by omega) ok).1
                    refine q_aload_n C 0 dX3_fewestMoves_70 rfl rfl ?_
                    refine q_iload C dX3_fewestMoves_71 rfl ?_
                    refine q_iload C dX3_fewestMoves_73 rfl ?_
                    refine q_Vv0 C (KX4_shift_10 _ _ (by omega) _ (by omega) S.1 S.2.1) mX4_shift ml_X3_91 dX3_fewestMoves_75 (by omega) (by decide) rfl rfl rfl (Nat.le_of_ble_eq_true rfl) rfl (by decide) rfl rfl ?_
                    have T2 : triB g (sh10 g2 f t) (doM (stOf (g 12) (g 13)) f t v40) := S.2.2
                    have hin : sh10 g2 f t 14 b ≠ -1 := by
                      obtain ⟨n', ⟨s, k1, k2⟩, k3⟩ := (kid_need o.2.2.2.2.1 x2 hnn (by omega) ok).2
                      rw [← T2.2.2.2.1] at k1
                      have k4 := T2.2.2.1.2.2.2.2.2.1 s b k1
                      have k5 := T2.2.2.1.2.2.2.2.1.2.2.2.2 s b k1
                      omega
                    have em : ((m - 1 : Nat) : Int) = ml - 1 := by omega
                    have IH1 := IH (m - 1) (by omega) (sh10 g2 f t) T2.2.2.1 hin
                    rw [em] at IH1
                    refine q_aload_n C 0 dX3_fewestMoves_78 rfl rfl ?_
                    refine q_iload_n C 1 dX3_fewestMoves_79 rfl rfl ?_
                    refine q_iload_n C 2 dX3_fewestMoves_80 rfl rfl ?_
                    refine q_iconst C dX3_fewestMoves_81 ?_
                    refine q_isub C dX3_fewestMoves_82 ?_
                    refine q_Si0 C IH1 mX3_fewestMoves ml_X3_76 dX3_fewestMoves_83 (by omega) (by decide) rfl rfl rfl (Nat.le_of_ble_eq_true rfl) (fun v83 g83 l83 u83 h83 => ?_)
                    obtain ⟨T3, M3⟩ := h83
                    rw [T2.2.2.2.1] at T3
                    have T3 := triB_tr T2 T3
                    have M3 := (triB_min T2).mp M3
                    have okb := ok_back ok (by have hfl := stOf_len (h := g 12) (p := g 13) (s := f) (by omega) (o.2.1 f (by omega) (by omega)).1; rw [hfl, cut4_in (by omega)]; exact o.2.2.2.1 f (by omega) (by omega))
                    have S3 := triB_sh T3 okb
                    have T4 := S3.2.2
                    rw [doM_back ok.2.2.2.2.1 ok.2.2.2.2.2.1] at T4
                    have Q3 : -1 ≤ v83 ∧ v83 ≤ 3 := by rcases M3 with ⟨q, -⟩ | ⟨q, q2, -⟩ <;> omega
                    refine q_istoreV C dX3_fewestMoves_86 (by decide) (fun v86 e86 => ?_)
                    refine q_aload_n C 0 dX3_fewestMoves_88 rfl rfl ?_
                    refine q_iload C dX3_fewestMoves_89 rfl ?_
                    refine q_iload C dX3_fewestMoves_91 rfl ?_
                    refine q_Vv0 C (KX4_shift_10 _ _ (by omega) _ (by omega) S3.1 S3.2.1) mX4_shift ml_X3_91 dX3_fewestMoves_93 (by omega) (by decide) rfl rfl rfl (Nat.le_of_ble_eq_true rfl) rfl (by decide) rfl rfl ?_
                    subst e86
                    refine q_iload C dX3_fewestMoves_96 rfl ?_
                    refine q_iconst C dX3_fewestMoves_98 ?_
                    refine q_icmp_eq C 123 dX3_fewestMoves_99 (by decide) (by omega) (by omega) (fun c99 => ?_) (fun c99 => ?_)
                    · refine q_iinc C dX3_fewestMoves_123 rfl (by decide) (fun v123 e123 => ?_)
                      refine q_goto C 45 dX3_fewestMoves_126 (by decide) ?_
                      refine q_loc [(0, .ref (ω.1 10)), (1, .int (iI b)), (2, .int (iI ml)), (3, .int (iI v5)), (4, .int (iI bcc)), (5, .int (iI f)), (6, .int (iI v40)), (7, .int (iI v123))] ⟨rfl, rfl, rfl, rfl, rfl, rfl, rfl, rfl, trivial⟩ ?_
                      exact ihB v123 _ bcc (by omega) (by omega) ⟨T4, by subst e123; exact acc_yes hJ.2.1 ok hxb M3 (by omega), by have := Q3; omega⟩
                    · refine q_iload C dX3_fewestMoves_102 rfl ?_
                      refine q_iconst C dX3_fewestMoves_104 ?_
                      refine q_icmp_eq C 117 dX3_fewestMoves_105 (by decide) (by omega) (by omega) (fun c105 => ?_) (fun c105 => ?_)
                      · refine q_iload C dX3_fewestMoves_117 rfl ?_
                        refine q_iconst C dX3_fewestMoves_119 ?_
                        refine q_iadd C dX3_fewestMoves_120 ?_
                        refine q_istoreV C dX3_fewestMoves_121 (by decide) (fun v121 e121 => ?_)
                        refine q_iinc C dX3_fewestMoves_123 rfl (by decide) (fun v123 e123 => ?_)
                        refine q_goto C 45 dX3_fewestMoves_126 (by decide) ?_
                        refine q_loc [(0, .ref (ω.1 10)), (1, .int (iI b)), (2, .int (iI ml)), (3, .int (iI v5)), (4, .int (iI v121)), (5, .int (iI f)), (6, .int (iI v40)), (7, .int (iI v123))] ⟨rfl, rfl, rfl, rfl, rfl, rfl, rfl, rfl, trivial⟩ ?_
                        exact ihB v123 _ v121 (by omega) (by omega) ⟨T4, by subst e123; exact acc_yes hJ.2.1 ok hxb M3 (by omega), by have := Q3; omega⟩
                      · refine q_iload C dX3_fewestMoves_108 rfl ?_
                        refine q_iconst C dX3_fewestMoves_110 ?_
                        refine q_iadd C dX3_fewestMoves_111 ?_
                        refine q_iload C dX3_fewestMoves_112 rfl ?_
                        refine q_icmp_ge C 123 dX3_fewestMoves_114 (by decide) (by omega) (by omega) (fun c114 => ?_) (fun c114 => ?_)
                        · refine q_iinc C dX3_fewestMoves_123 rfl (by decide) (fun v123 e123 => ?_)
                          refine q_goto C 45 dX3_fewestMoves_126 (by decide) ?_
                          refine q_loc [(0, .ref (ω.1 10)), (1, .int (iI b)), (2, .int (iI ml)), (3, .int (iI v5)), (4, .int (iI bcc)), (5, .int (iI f)), (6, .int (iI v40)), (7, .int (iI v123))] ⟨rfl, rfl, rfl, rfl, rfl, rfl, rfl, rfl, trivial⟩ ?_
                          exact ihB v123 _ bcc (by omega) (by omega) ⟨T4, by subst e123; exact acc_yes hJ.2.1 ok hxb M3 (by omega), by have := Q3; omega⟩
                        · refine q_iload C dX3_fewestMoves_117 rfl ?_
                          refine q_iconst C dX3_fewestMoves_119 ?_
                          refine q_iadd C dX3_fewestMoves_120 ?_
                          refine q_istoreV C dX3_fewestMoves_121 (by decide) (fun v121 e121 => ?_)
                          refine q_iinc C dX3_fewestMoves_123 rfl (by decide) (fun v123 e123 => ?_)
                          refine q_goto C 45 dX3_fewestMoves_126 (by decide) ?_
                          refine q_loc [(0, .ref (ω.1 10)), (1, .int (iI b)), (2, .int (iI ml)), (3, .int (iI v5)), (4, .int (iI v121)), (5, .int (iI f)), (6, .int (iI v40)), (7, .int (iI v123))] ⟨rfl, rfl, rfl, rfl, rfl, rfl, rfl, rfl, trivial⟩ ?_
                          exact ihB v123 _ v121 (by omega) (by omega) ⟨T4, by subst e123; exact acc_yes hJ.2.1 ok hxb M3 (by omega), by have := Q3; omega⟩
                  · refine q_goto C 123 dX3_fewestMoves_67 (by decide) ?_
                    refine q_iinc C dX3_fewestMoves_123 rfl (by decide) (fun v123 e123 => ?_)
                    refine q_goto C 45 dX3_fewestMoves_126 (by decide) ?_
                    refine q_loc [(0, .ref (ω.1 10)), (1, .int (iI b)), (2, .int (iI ml)), (3, .int (iI v5)), (4, .int (iI bcc)), (5, .int (iI f)), (6, .int (iI v40)), (7, .int (iI v123))] ⟨rfl, rfl, rfl, rfl, rfl, rfl, rfl, rfl, trivial⟩ ?_
                    exact ihB v123 _ bcc (by omega) (by omega) ⟨hJ.1, by subst e123; exact acc_no hJ.2.1 (W.2 (by omega)), hJ.2.2⟩
            refine q_loc [(0, .ref (ω.1 10)), (1, .int (iI b)), (2, .int (iI ml)), (3, .int (iI v5)), (4, .int (iI acc)), (5, .int (iI f)), (6, .int (iI v40)), (7, .int (iI v43))] ⟨rfl, rfl, rfl, rfl, rfl, rfl, rfl, rfl, trivial⟩ ?_
            exact loopB ((g 10 5 - v43).toNat + 1) v43 _ acc (by omega) (by omega) (by subst e43; exact hI)
      refine q_loc [(0, .ref (ω.1 10)), (1, .int (iI b)), (2, .int (iI ml)), (3, .int (iI v5)), (4, .int (iI v20)), (5, .int (iI v23))] ⟨rfl, rfl, rfl, rfl, rfl, rfl, trivial⟩ ?_
      exact loopA ((g 10 5 - v23).toNat + 1) v23 _ v20 (by omega) (by omega) (by subst e23; subst e20; exact ⟨T0, acc_0, by decide, by decide⟩)
    · refine q_iconst C dX3_fewestMoves_17 ?_
      exact q_iretI C dX3_fewestMoves_18 (by omega) (by decide) ⟨T0, min_no (yOK_cut o) o.2.2.2.2.1 hov (by omega)⟩
  · refine q_iconst C dX3_fewestMoves_10 ?_
    have hn0 : n = 0 := by omega
    subst hn0
    exact q_iretI C dX3_fewestMoves_11 (by omega) (by decide) ⟨T0, min_0 (by omega) hov⟩
theorem KX3_fewestMoves (b : Int) (hb2 : 0 ≤ b ∧ b < 20) : ∀ (m : Nat), m ≤ 4 → ∀ g : qHp, yOK (g 10 5) (g 11) (g 12) (g 13) (g 14) → g 14 b ≠ -1 → qC yX3_fewestMoves (.code yX3_fewestMoves cX3_fewestMoves 9 (some .int)) (4 + m) 0 (fun ad => [.ref (ad 10), .int (iI b), .int (iI (m : Int))]) g (qPi (fun (r : Int) (g' : qHp) => triB g g' (stOf (g 12) (g 13)) ∧ minG g b (m : Int) r)) qNo := by
  intro m
  induction m using Nat.strongRecOn with
  | ind m ih => intro hm g o hs; exact KX3_fewestMoves_step g b (by omega) (m : Int) (by omega) m rfl hm o hb2 hs (fun m' h g o hs => ih m' h (by omega) g o hs)
/-- the yard, tried on a copy -/
theorem tri_try {g g1 : qHp} {b : Int} (T : triA g g1 (stOf (g 7) (g 8))) (o : yOK (g 5 5) (g 6) (g 7) (g 8) (g 9)) (hb : 0 ≤ b ∧ b < 20) (hs : g 9 b ≠ -1) : g1 14 b ≠ -1 ∧ yOvr (g1 10 5) (g1 12) (g1 13) (g1 14) b = yOvr (g 5 5) (g 7) (g 8) (g 9) b ∧ (0 ≤ yOvr (g 5 5) (g 7) (g 8) (g 9) b ∧ yOvr (g 5 5) (g 7) (g 8) (g 9) b ≤ 3) := by
  obtain ⟨t1, t2, t3, t4, t5⟩ := T
  obtain ⟨x1, x2, x3, x4⟩ := yOvr_ix o hb hs
  have e : g1 14 b = g 9 b := t3.2.2.2.2.2.1 _ b (by rw [t4]; exact x2)
  obtain ⟨y1, y2, y3, y4⟩ := yOvr_ix t3 hb (by rw [e]; exact hs)
  rw [t4, e] at y1
  exact ⟨by rw [e]; exact hs, by rw [x1, y1], by omega⟩
theorem tri_min {g g1 g2 : qHp} {b m v : Int} {z : St} (T : triA g g1 (stOf (g 7) (g 8))) (M : minG g1 b m v) (T2 : triB g1 g2 z) : minP (g 5 5) (cut4 (g 6)) (cGet (g 1 3) (g 2) 0) (pinB g) b (stOf (g 7) (g 8)) m v ∧ ∀ k, k < 10 ∨ 15 ≤ k → g2 k = g k := by
  obtain ⟨t1, t2, t3, t4, t5⟩ := T
  refine ⟨?_, fun k hk => by rw [T2.2.2.2.2 k hk, t5 k hk]⟩
  unfold minG at M
  rw [t1, t2, t4, t5 1 (by decide), t5 2 (by decide), pin_K (fun k hk => t5 k (Or.inl hk))] at M
  exact M
set_option maxRecDepth 20000 in
theorem KX3_lengthByTrying (g : qHp) (b : Int) (hb : -2147483648 ≤ b ∧ b < 2147483648) (hyo : yOK (g 5 5) (g 6) (g 7) (g 8) (g 9)) (hb2 : 0 ≤ b ∧ b < 20) (hs : g 9 b ≠ -1) (lim : Int) (hlm : lim = yOvr (g 5 5) (g 7) (g 8) (g 9) b + 1) : qC yX3_lengthByTrying (.code yX3_lengthByTrying cX3_lengthByTrying 2 (some .int)) 9 0 (fun ad => [.ref (ad 15), .int (iI b)]) g (qPi (fun (r : Int) (g' : qHp) => minP (g 5 5) (cut4 (g 6)) (cGet (g 1 3) (g 2) 0) (pinB g) b (stOf (g 7) (g 8)) lim r ∧ ∀ k, k < 10 ∨ 15 ≤ k → g' k = g k)) qNo := by
  refine q_meth (by decide +kernel) rfl (fun _ => (Nat.le_of_ble_eq_true rfl)) (fun X ω C => ?_)
  refine q_loc [(0, .ref (ω.1 15)), (1, .int (iI b))] ⟨rfl, rfl, trivial⟩ ?_
  refine q_aload_n C 0 dX3_lengthByTrying_0 rfl rfl ?_
  refine q_getr C (b := 15) 1 rfl (by decide) rfl in_X3 (by decide) fl_X3_22 rfl dX3_lengthByTrying_1 ?_
  refine q_aload_n C 0 dX3_lengthByTrying_4 rfl rfl ?_
  refine q_getr C (b := 15) 0 rfl (by decide) rfl in_X3 (by decide) fl_X3_18 rfl dX3_lengthByTrying_5 ?_
  refine q_Vv0 C (KX4_copyFrom _) mX4_copyFrom ml_X3_72 dX3_lengthByTrying_8 (by decide) (by decide) rfl rfl rfl (Nat.le_of_ble_eq_true rfl) rfl (by decide) rfl rfl ?_
  have T : triA g (cp10 g) (stOf (g 7) (g 8)) := cp10_tri hyo
  obtain ⟨u1, u2, u3⟩ := tri_try T hyo hb2 hs
  refine q_aload_n C 0 dX3_lengthByTrying_11 rfl rfl ?_
  refine q_getr C (b := 15) 1 rfl (by decide) rfl in_X3 (by decide) fl_X3_22 rfl dX3_lengthByTrying_12 ?_
  refine q_iload_n C 1 dX3_lengthByTrying_15 rfl rfl ?_
  refine q_aload_n C 0 dX3_lengthByTrying_16 rfl rfl ?_
  refine q_getr C (b := 15) 1 rfl (by decide) rfl in_X3 (by decide) fl_X3_22 rfl dX3_lengthByTrying_17 ?_
  refine q_iload_n C 1 dX3_lengthByTrying_20 rfl rfl ?_
  refine q_Vf0 C (KX4_boxesOver_10 _ _ (by omega)) mX4_boxesOver ml_X3_25 dX3_lengthByTrying_21 (by decide) (by decide) rfl rfl rfl (Nat.le_of_ble_eq_true rfl) rfl (by decide) rfl rfl (fun v21 l21 u21 h21 => ?_)
  have h21' : v21 = yOvr (cp10 g 10 5) (cp10 g 12) (cp10 g 13) (cp10 g 14) b := h21.1
  rw [u2] at h21'
  have F := KX3_fewestMoves b hb2 (v21 + 1).toNat (by omega) (cp10 g) T.2.2.1 u1
  rw [show (((v21 + 1).toNat : Nat) : Int) = v21 + 1 by omega] at F
  refine q_iconst C dX3_lengthByTrying_24 ?_
  refine q_iadd C dX3_lengthByTrying_25 ?_
  refine q_Si0 C F mX3_fewestMoves ml_X3_76 dX3_lengthByTrying_26 (by omega) (by decide) rfl rfl rfl (Nat.le_of_ble_eq_true rfl) (fun v26 g26 l26 u26 h26 => ?_)
  have R := tri_min T h26.2 h26.1
  rw [show v21 + 1 = lim by omega] at R
  exact q_iretI C dX3_lengthByTrying_29 (by omega) (by decide) R
