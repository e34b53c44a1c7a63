/-! the yard as class and reference both show it: numbers V, stacks S -/
def tkS (z : St) (b : Int) : St := fun u => if (z u).head? = some b then (z u).tail else z u
theorem tk_mem {c : Int} {z : St} {s b : Int} (hz : wfS c z) (hh : (z s).head? = some b) {x u : Int} : x ∈ tkS z b u ↔ x ∈ z u ∧ x ≠ b := by
  obtain ⟨l, hl⟩ := hd_cons hh
  have hb : b ∈ z s := by rw [hl]; exact List.mem_cons_self
  unfold tkS
  by_cases q : (z u).head? = some b
  · rw [if_pos q]
    obtain ⟨l2, hl2⟩ := hd_cons q
    have hnd := hz.1 u
    rw [hl2] at hnd ⊢
    have hnl := (List.nodup_cons.mp hnd).1
    simp only [List.tail_cons, List.mem_cons]
    constructor
    · intro h
      exact ⟨Or.inr h, fun e => hnl (by rw [← e]; exact h)⟩
    · rintro ⟨h1 | h1, h2⟩
      · exact absurd h1 h2
      · exact h1
  · rw [if_neg q]
    constructor
    · intro h
      refine ⟨h, fun e => ?_⟩
      have es := hz.2.1 u s b (by rw [← e]; exact h) hb
      rw [es] at q
      exact q hh
    · exact fun h => h.1
theorem tk_wf {c : Int} {z : St} {s b : Int} (hz : wfS c z) (hh : (z s).head? = some b) : wfS c (tkS z b) := by
  have m := fun x u => tk_mem (x := x) (u := u) hz hh
  obtain ⟨n1, n2, n3, n4, n5⟩ := hz
  refine ⟨fun u => ?_, fun u v x h1 h2 => n2 u v x ((m x u).mp h1).1 ((m x v).mp h2).1, fun u x h => n3 u x ((m x u).mp h).1, fun u => ?_, fun u x h => n5 u x ((m x u).mp h).1⟩
  · unfold tkS
    by_cases q : (z u).head? = some b
    · rw [if_pos q]
      obtain ⟨l2, hl2⟩ := hd_cons q
      have hnd := n1 u
      rw [hl2] at hnd ⊢
      exact (List.nodup_cons.mp hnd).2
    · rw [if_neg q]
      exact n1 u
  · unfold tkS
    have := n4 u
    split
    · rw [List.length_tail]
      omega
    · exact this
/-- taking a box from the top -/
theorem tk_ok {c : Int} {r h p so : Int → Int} {s b : Int} (o : yOK c r h p so) (hh : (stOf h p s).head? = some b) : yOK c r (uI h s (h s - 1)) p (uI so b (-1)) ∧ stOf (uI h s (h s - 1)) p = tkS (stOf h p) b ∧ 0 < h s ∧ b = p (s * 4 + h s - 1) ∧ (0 ≤ s ∧ s < c) ∧ so b = s ∧ (0 ≤ b ∧ b < 20) := by
  have hz := o.2.2.2.2.1
  have m := fun x u => tk_mem (x := x) (u := u) hz hh
  have w := tk_wf hz hh
  obtain ⟨o1, o2, o3, o4, o5, o6, o7⟩ := o
  obtain ⟨l, hl⟩ := hd_cons hh
  have hb : b ∈ stOf h p s := by rw [hl]; exact List.mem_cons_self
  have hsc := o5.2.2.2.2 s b hb
  have hs4 : 0 ≤ s ∧ s < 4 := by omega
  have b1 := o2 s hs4.1 hs4.2
  have h0 : 0 < h s := by
    by_cases q : h s = 0
    · rw [stOf_nil q] at hh
      cases hh
    · omega
  have eb : b = p (s * 4 + h s - 1) := by
    rw [stOf_hd hs4 h0] at hh
    simpa using hh.symm
  have e : stOf (uI h s (h s - 1)) p = tkS (stOf h p) b := by
    funext u
    unfold tkS
    by_cases us : u = s
    · subst us
      rw [if_pos hh, stOf_hd hs4 h0, stOf_in hs4, uI_s]
      rw [show (h u - 1).toNat = (h u).toNat - 1 by omega]
      rfl
    · have hne : ¬ (stOf h p u).head? = some b := fun q => by
        obtain ⟨l2, hl2⟩ := hd_cons q
        exact us (o5.2.1 u s b (by rw [hl2]; exact List.mem_cons_self) hb)
      rw [if_neg hne]
      by_cases q : 0 ≤ u ∧ u < 4
      · rw [stOf_in q, stOf_in q, uI_n us]
      · rw [stOf_out q, stOf_out q]
  refine ⟨⟨o1, fun u a a2 => ?_, fun u a a2 => ?_, fun u a a2 => ?_, by rw [e]; exact w, fun u x hx => ?_, fun x a a2 hx => ?_⟩, e, h0, eb, hsc, o6 s b hb, o5.2.2.1 s b hb⟩
  · have c1 := o2 u a a2
    by_cases us : u = s
    · subst us
      rw [uI_s]
      omega
    · rw [uI_n us]
      exact c1
  · rw [uI_n (by omega)]
    exact o3 u a a2
  · have c1 := o4 u a a2
    by_cases us : u = s
    · subst us
      rw [uI_s]
      omega
    · rw [uI_n us]
      exact c1
  · rw [e] at hx
    have k := (m x u).mp hx
    rw [uI_n k.2]
    exact o6 u x k.1
  · rw [e]
    by_cases xb : x = b
    · rw [xb, uI_s] at hx
      exact absurd rfl hx
    · rw [uI_n xb] at hx ⊢
      exact (m x _).mpr ⟨o7 x a a2 hx, xb⟩
/-- a box is in the yard -/
def inS (S : St) (x : Int) : Prop := ∃ s, x ∈ S s
theorem inS_so {c : Int} {r h p so : Int → Int} (o : yOK c r h p so) {x : Int} : ySt so x ≠ -1 ↔ inS (stOf h p) x := by
  constructor
  · intro q
    obtain ⟨hx, e⟩ := ySt_in q
    rw [e] at q
    exact ⟨_, o.2.2.2.2.2.2 x hx.1 hx.2 q⟩
  · rintro ⟨s, hs⟩
    have hx := o.2.2.2.2.1.2.2.1 s x hs
    have e := o.2.2.2.2.2.1 s x hs
    have hr := o.2.2.2.2.1.2.2.2.2 s x hs
    unfold ySt
    rw [if_pos hx, e]
    omega
theorem inS_do {c : Int} {r w : Int → Int} {pn : Int → Bool} {z : St} {s t x y : Int} (o : okM c r w pn z s t x) : inS (doM z s t x) y ↔ inS z y := by
  obtain ⟨o1, o2, o3, o4, o5, o6, -⟩ := o
  obtain ⟨l, hl⟩ := hd_cons o6
  constructor
  · rintro ⟨u, hu⟩
    by_cases us : u = s
    · rw [us, doM_s] at hu
      rw [hl] at hu
      exact ⟨s, by rw [hl]; exact List.mem_cons_of_mem _ hu⟩
    · by_cases ut : u = t
      · rw [ut, doM_t (Ne.symm o5)] at hu
        rcases List.mem_cons.mp hu with q | q
        · exact ⟨s, by rw [hl, q]; exact List.mem_cons_self⟩
        · exact ⟨t, q⟩
      · rw [doM_o us ut] at hu
        exact ⟨u, hu⟩
  · rintro ⟨u, hu⟩
    by_cases us : u = s
    · rw [us, hl] at hu
      rcases List.mem_cons.mp hu with q | q
      · exact ⟨t, by rw [doM_t (Ne.symm o5), q]; exact List.mem_cons_self⟩
      · exact ⟨s, by rw [doM_s, hl]; exact q⟩
    · by_cases ut : u = t
      · exact ⟨t, by rw [doM_t (Ne.symm o5)]; rw [ut] at hu; exact List.mem_cons_of_mem _ hu⟩
      · exact ⟨u, by rw [doM_o us ut]; exact hu⟩
theorem inS_run {c : Int} {r w : Int → Int} {pn : Int → Bool} {b y : Int} : ∀ {L : List Int} {a z : St}, runR c r w pn b L a z → (inS z y ↔ inS a y)
  | [], a, z, h => by
    have h : a = z := h
    rw [h]
  | m :: L, a, z, h => by
    obtain ⟨a', ⟨s, t, x, -, -, o, rfl⟩, h2⟩ := h
    exact (inS_run h2).trans (inS_do o)
theorem inS_tk {c : Int} {z : St} {s b : Int} (hz : wfS c z) (hh : (z s).head? = some b) {x : Int} : inS (tkS z b) x ↔ inS z x ∧ x ≠ b := by
  constructor
  · rintro ⟨u, hu⟩
    have := (tk_mem hz hh).mp hu
    exact ⟨⟨u, this.1⟩, this.2⟩
  · rintro ⟨⟨u, hu⟩, h⟩
    exact ⟨u, (tk_mem hz hh).mpr ⟨hu, h⟩⟩
theorem ov0_hd {z : St} {b : Int} (h : ovR z b 0) : ∃ s, (z s).head? = some b := by
  obtain ⟨s, h1, h2⟩ := h
  refine ⟨s, ?_⟩
  cases hz : z s with
  | nil => rw [hz] at h1; cases h1
  | cons x l =>
    rw [hz] at h2
    unfold ixO at h2
    by_cases q : x = b
    · rw [q]; rfl
    · rw [if_neg q] at h2
      omega
theorem ov_in {z : St} {b : Int} (h : inS z b) : ∃ n, ovR z b n := by
  obtain ⟨s, hs⟩ := h
  exact ⟨_, s, hs, rfl⟩
def vA (g : qHp) : qHp := fun k => match k with
  | 0 => fun j => if j = 0 then g 0 4 else if j = 1 then g 0 5 else if j = 2 then g 0 6 else if j = 3 then g 5 5 else if j = 4 then g 1 3 else if j = 5 then g 18 4 else 0
  | 1 => cut4 (g 6)
  | 2 => cGet (g 1 3) (g 2) 0
  | 3 => cGet (g 1 3) (g 3) 45
  | 4 => fun x => if cGet (g 1 3) (g 3) 45 x = 45 then 0 else g 4 x
  | 5 => cGet (g 18 4) (g 19) (-1)
  | 6 => cGet (g 18 4) (g 20) (-1)
  | 7 => cGet (g 18 4) (g 21) (-1)
  | 8 => cGet (g 18 4) (g 22) 99
  | _ => fun _ => 0
abbrev stA (g : qHp) : St := stOf (g 7) (g 8)
abbrev pinA (V : qHp) : Int → Bool := fun x => decide (V 3 x = 112)
abbrev plnA (V : qHp) (S : St) (b : Int) (L : List Int) : Prop := plnR (V 0 3) (V 1) (V 2) (pinA V) b S L
abbrev runA (V : qHp) (b : Int) (L : List Int) (S z : St) : Prop := runR (V 0 3) (V 1) (V 2) (pinA V) b L S z
def leaA (V : qHp) (S : St) (b : Int) (L : List Int) : Prop := ∃ n : Nat, ovR S b n ∧ leastP (V 0 3) (V 1) (V 2) (pinA V) b S (n + 1) L
def noA (V : qHp) (S : St) (b : Int) : Prop := ∃ n : Nat, ovR S b n ∧ ∀ L, plnA V S b L → ¬ (L.length : Int) ≤ n + 1
def bkAL (V : qHp) (l h : Int) : Int := fstB (fun i => decide (V 8 i = 98) && (decide (V 7 i = l) && decide (V 6 i = h))) (V 0 5)
def bkAB (V : qHp) (b : Int) : Int := fstB (fun i => decide (V 8 i = 98) && decide (V 5 i = b)) (V 0 5)
/-- the least plan is one -/
theorem lea_u {c : Int} {r w : Int → Int} {pn : Int → Bool} {b lim : Int} {a : St} {L L' : List Int} (hc : c ≤ 4) (hr : ∀ t, r t ≤ 4) (hw : wfS c a) (hl : lim ≤ 4) (h : leastP c r w pn b a lim L) (h' : leastP c r w pn b a lim L') : L = L' := by
  obtain ⟨⟨z, p1, p2⟩, q1, q2⟩ := h
  obtain ⟨⟨z', p1', p2'⟩, q1', q2'⟩ := h'
  have d := run_dig hc hr hw p1
  have d' := run_dig hc hr hw p1'
  have k := q2 L' ⟨z', p1', p2'⟩ q1'
  have k' := q2' L ⟨z, p1, p2⟩ q1
  have e : keyN L.length L = keyN L'.length L' := Int.le_antisymm k k'
  have n1 := key_need (nd := L.length) d (by omega)
  have n2 := key_need (nd := L'.length) d' (by omega)
  rw [e] at n1
  have hlen : L.length = L'.length := by omega
  rcases lex_tri hlen with z1 | z1 | z1
  · exact z1
  · have := lex_key d d' (by omega) hlen z1
    unfold keyN at e
    rw [hlen] at e
    omega
  · have := lex_key d' d (by omega) hlen.symm z1
    unfold keyN at e
    rw [hlen] at e
    omega
theorem leaA_u {V : qHp} {S : St} {b : Int} {L L' : List Int} (hc : V 0 3 ≤ 4) (hr : ∀ t, V 1 t ≤ 4) (hw : wfS (V 0 3) S) (h : leaA V S b L) (h' : leaA V S b L') : L = L' := by
  obtain ⟨n, a1, a2⟩ := h
  obtain ⟨n', b1, b2⟩ := h'
  have e := ov_u hw a1 b1
  subst e
  have hn : n ≤ 3 := by
    obtain ⟨s, q1, q2⟩ := a1
    have := ix_lt q1
    have := hw.2.2.2.1 s
    omega
  exact lea_u hc hr hw (by omega) a2 b2
theorem leaA_no {V : qHp} {S : St} {b : Int} {L : List Int} (hw : wfS (V 0 3) S) (h : leaA V S b L) (h' : noA V S b) : False := by
  obtain ⟨n, a1, a2⟩ := h
  obtain ⟨n', b1, b2⟩ := h'
  have e := ov_u hw a1 b1
  subst e
  exact b2 L a2.1 a2.2.1
/-! serving an appointment; an hour; passing hours -/
def srvA (V : qHp) (S : St) (a r : Int) (V' : qHp) (S' : St) : Prop :=
  (a = -1 ∧ r = 0 ∧ V' = V ∧ S' = S) ∨ (a ≠ -1 ∧ (V 3 (V 5 a) ≠ 45 ∨ noA V S (V 5 a)) ∧ r = 0 ∧ V' = qUp V 8 a 109 ∧ S' = S) ∨
  (a ≠ -1 ∧ V 3 (V 5 a) = 45 ∧ ∃ L z, leaA V S (V 5 a) L ∧ runA V (V 5 a) L S z ∧ r = 1 ∧ V' = qUp (qUp (qUp V 0 1 (w32 (V 0 1 + L.length))) 0 2 (w64 (V 0 2 + V 2 (V 5 a)))) 8 a 100 ∧ S' = tkS z (V 5 a))
def ehA (V : qHp) (h : Int) : qHp := fun k j => if k = 0 then (if j = 0 then h else V 0 j) else if k = 3 ∧ V 3 j ≠ 45 ∧ V 4 j = h then 45 else if k = 4 ∧ V 3 j ≠ 45 ∧ V 4 j = h then 0 else V k j
def lnA (h : Int) : Nat → qHp → St → Int → qHp → St → Prop
  | 0, V, S, r, V', S' => r = 0 ∧ V' = V ∧ S' = S
  | n + 1, V, S, r, V', S' => ∃ V1 S1 r1 r2, lnA h n V S r1 V1 S1 ∧ srvA V1 S1 (bkAL V1 n h) r2 V' S' ∧ r = r1 + r2
def psA : Nat → qHp → St → Int → qHp → St → Prop
  | 0, V, S, r, V', S' => r = 0 ∧ V' = V ∧ S' = S
  | n + 1, V, S, r, V', S' => ∃ V1 S1 r1 r2, psA n V S r1 V1 S1 ∧ lnA (V1 0 0 + 1) 3 (ehA V1 (V1 0 0 + 1)) S1 r2 V' S' ∧ r = r1 + r2
