/-! what the law asks of the abstract yard: weights do not rise upwards, plans, counts -/
def srtW (w : Int → Int) : List Int → Prop
  | [] => True
  | x :: l => (∀ y, l.head? = some y → w x ≤ w y) ∧ srtW w l
theorem srt_tail {w : Int → Int} {l : List Int} (h : srtW w l) : srtW w l.tail := by
  cases l with
  | nil => exact h
  | cons x l => exact h.2
theorem srt_w {w w' : Int → Int} : ∀ {l : List Int}, (∀ x ∈ l, w' x = w x) → srtW w l → srtW w' l
  | [], _, _ => trivial
  | x :: l, hw, h => by
    refine ⟨fun y hy => ?_, srt_w (fun z hz => hw z (List.mem_cons_of_mem _ hz)) h.2⟩
    obtain ⟨t, ht⟩ := hd_cons hy
    rw [hw x List.mem_cons_self, hw y (List.mem_cons_of_mem _ (by rw [ht]; exact List.mem_cons_self))]
    exact h.1 y hy
theorem srt_adj {w : Int → Int} : ∀ {l : List Int} {i : Nat} {x y : Int}, srtW w l → l[i]? = some x → l[i + 1]? = some y → w x ≤ w y
  | [], i, x, y, _, h1, _ => by simp at h1
  | z :: l, 0, x, y, h, h1, h2 => by
    have e : z = x := by simpa using h1
    rw [List.getElem?_cons_succ] at h2
    rw [← e]
    exact h.1 y (by rw [List.head?_eq_getElem?]; exact h2)
  | z :: l, i + 1, x, y, h, h1, h2 => by
    rw [List.getElem?_cons_succ] at h1 h2
    exact srt_adj h.2 h1 h2
/-- y stands above b -/
def abvL (y b : Int) : List Int → Prop
  | [] => False
  | x :: l => x ≠ b ∧ (x = y ∨ abvL y b l)
theorem abv_ix {y b : Int} : ∀ {l : List Int}, abvL y b l → 0 < ixO b l
  | [], h => h.elim
  | x :: l, h => by
    unfold ixO
    rw [if_neg h.1]
    omega
theorem abv_of {y b : Int} : ∀ {l : List Int} {j : Nat}, l[j]? = some y → j < ixO b l → abvL y b l
  | [], j, h, _ => by simp at h
  | x :: l, j, h, hj => by
    unfold ixO at hj
    by_cases q : x = b
    · rw [if_pos q] at hj
      omega
    · rw [if_neg q] at hj
      refine ⟨q, ?_⟩
      cases j with
      | zero => exact Or.inl (by simpa using h)
      | succ j =>
        rw [List.getElem?_cons_succ] at h
        exact Or.inr (abv_of h (by omega))
section PW
variable {c : Int} {r w : Int → Int} {pn : Int → Bool} {b : Int}
theorem srt_do {st : St} {s t x : Int} (o : okM c r w pn st s t x) (h : ∀ u, srtW w (st u)) : ∀ u, srtW w (doM st s t x u) := by
  intro u
  obtain ⟨-, -, -, -, o5, -, -, -, o9⟩ := o
  by_cases us : u = s
  · rw [us, doM_s]
    exact srt_tail (h s)
  · by_cases ut : u = t
    · rw [ut, doM_t (Ne.symm o5)]
      exact ⟨o9, h t⟩
    · rw [doM_o us ut]
      exact h u
theorem srt_run : ∀ {L : List Int} {a z : St}, (∀ u, srtW w (a u)) → runR c r w pn b L a z → ∀ u, srtW w (z u)
  | [], a, z, h, e => by
    have e : a = z := e
    rw [← e]
    exact h
  | m :: L, a, z, h, e => by
    obtain ⟨a', ⟨s, t, x, -, -, o, rfl⟩, e2⟩ := e
    exact srt_run (srt_do o h) e2
theorem pin_do {st : St} {s t x s0 y : Int} (hx : x ≠ b) (hy : pn y = true) (o : okM c r w pn st s t x) (ha : abvL y b (st s0)) : abvL y b (doM st s t x s0) := by
  obtain ⟨-, -, -, -, o5, o6, o7, -⟩ := o
  by_cases h : s0 = s
  · rw [h, doM_s]
    obtain ⟨l, hl⟩ := hd_cons o6
    rw [h, hl] at ha
    rw [hl]
    rcases ha.2 with q | q
    · rw [q, hy] at o7
      cases o7
    · exact q
  · by_cases h2 : s0 = t
    · rw [h2, doM_t (Ne.symm o5)]
      rw [h2] at ha
      exact ⟨hx, Or.inr ha⟩
    · rw [doM_o h h2]
      exact ha
theorem pin_run {y s0 : Int} (hy : pn y = true) : ∀ {L : List Int} {a z : St}, runR c r w pn b L a z → abvL y b (a s0) → b ∈ a s0 → abvL y b (z s0) ∧ b ∈ z s0
  | [], a, z, e, h1, h2 => by
    have e : a = z := e
    rw [← e]
    exact ⟨h1, h2⟩
  | m :: L, a, z, e, h1, h2 => by
    obtain ⟨a', ⟨s, t, x, -, hx, o, rfl⟩, e2⟩ := e
    have hb : b ∈ doM a s t x s0 := by
      rcases ov_do hx o h2 rfl with ⟨-, -, q, -⟩ | ⟨-, -, q, -⟩ | ⟨-, -, q, -⟩ <;> exact q
    exact pin_run hy e2 (pin_do hx hy o h1) hb
/-- a pinned box above b: no plan -/
theorem pin_no {a : St} {y s0 : Int} (hr : ∀ t, r t ≤ 4) (hw : wfS c a) (hy : pn y = true) (hb : b ∈ a s0) (ha : abvL y b (a s0)) (L : List Int) : ¬ plnR c r w pn b a L := by
  rintro ⟨z, h1, s, h2, h3⟩
  obtain ⟨q1, q2⟩ := pin_run hy h1 ha hb
  have e := (wf_run hr hw h1).2.1 s s0 b h2 q2
  subst e
  have := abv_ix q1
  omega
end PW
/-! plans -/
theorem lea_top {V : qHp} {S : St} {b : Int} (O : aOK V S) (h : ovR S b 0) : leaA V S b [] := by
  refine ⟨0, h, ⟨S, rfl, h⟩, by simp, fun L' hL hl => ?_⟩
  obtain ⟨z, h1, -⟩ := hL
  have hd : digs L' := run_dig O.1 O.2.1 O.2.2.1 h1
  have hk := key_rng hd (by simp at hl; omega)
  have e : keyN (([] : List Int).length : Nat) [] = 0 := by
    unfold keyN
    rw [mC_0]
    simp
  rw [e]
  unfold keyN
  omega
theorem lea_len {V : qHp} {S : St} {b : Int} {L : List Int} {n : Nat} (O : aOK V S) (h : leaA V S b L) (hn : ovR S b n) : n ≤ L.length ∧ L.length ≤ n + 1 ∧ n ≤ 3 := by
  obtain ⟨n', a1, ⟨z, p1, p2⟩, p3, -⟩ := h
  have e := ov_u O.2.2.1 hn a1
  subst e
  obtain ⟨n2, b1, b2⟩ := ov_run p1 hn
  have e2 := ov_u (wf_run O.2.1 O.2.2.1 p1) p2 b1
  obtain ⟨s, q1, q2⟩ := hn
  have q3 := ix_lt q1
  have q4 := O.2.2.1.2.2.2.1 s
  omega
theorem lea_no {V : qHp} {S : St} {b s y : Int} (O : aOK V S) (hb : b ∈ S s) (hy : V 3 y = 112) (ha : abvL y b (S s)) : ¬ ∃ L, leaA V S b L := by
  rintro ⟨L, n, -, p, -⟩
  exact pin_no O.2.1 O.2.2.1 (decide_eq_true hy) hb ha L p
/-! places -/
theorem ix_get {b : Int} : ∀ {l : List Int} {i : Nat}, l.Nodup → l[i]? = some b → ixO b l = i
  | [], i, _, h => by simp at h
  | x :: l, 0, _, h => by
    have e : x = b := by simpa using h
    unfold ixO
    rw [if_pos e]
  | x :: l, i + 1, hn, h => by
    rw [List.getElem?_cons_succ] at h
    have hm : b ∈ l := List.mem_of_getElem? h
    have hne : ¬ x = b := fun e => (List.nodup_cons.mp hn).1 (by rw [e]; exact hm)
    unfold ixO
    rw [if_neg hne, ix_get (List.nodup_cons.mp hn).2 h]
theorem so_of {c : Int} {S : St} {s x : Int} (hc : c ≤ 4) (hw : wfS c S) (h : x ∈ S s) : soS S x = s := by
  have hs := hw.2.2.2.2 s x h
  exact soS_hit (by omega) h (fun u a b hu => by have := hw.2.1 u s x hu h; omega)
theorem at_get {S : St} {s k : Int} (h : 0 ≤ k ∧ k < hgt S s) : (S s)[(S s).length - 1 - k.toNat]? = some (atS S s k) := by
  unfold atS
  rw [if_pos h]
  have hl : (S s).length - 1 - k.toNat < (S s).length := by
    have := h.2
    unfold hgt at this
    omega
  rw [List.getElem?_eq_getElem hl]
  rfl
theorem in_so {c : Int} {S : St} {x : Int} (hc : c ≤ 4) (hw : wfS c S) (h : inS S x) : x ∈ S (soS S x) := by
  obtain ⟨s, hs⟩ := h
  rw [so_of hc hw hs]
  exact hs
/-- the box at a level of a stack -/
theorem at_all {V : qHp} {S : St} {s k : Int} (O : aOK V S) (h : 0 ≤ k ∧ k < hgt S s) : atS S s k ∈ S s ∧ inS S (atS S s k) ∧ soS S (atS S s k) = s ∧ unS S (atS S s k) = k ∧ ((ixO (atS S s k) (S s) : Nat) : Int) = hgt S s - 1 - k ∧ ovR S (atS S s k) (ixO (atS S s k) (S s)) := by
  have hg := at_get h
  have hm : atS S s k ∈ S s := List.mem_of_getElem? hg
  have hi := ix_get (O.2.2.1.1 s) hg
  have hso := so_of O.1 O.2.2.1 hm
  have hl : hgt S s = ((S s).length : Int) := rfl
  refine ⟨hm, ⟨s, hm⟩, hso, ?_, by omega, s, hm, rfl⟩
  unfold unS
  rw [hso]
  omega
theorem at_srt {V : qHp} {S : St} {s k : Int} (hS : ∀ u, srtW (V 2) (S u)) (h0 : 0 < k) (h : k < hgt S s) : V 2 (atS S s k) ≤ V 2 (atS S s (k - 1)) := by
  have h1 := at_get (S := S) (s := s) (k := k) ⟨by omega, h⟩
  have h2 := at_get (S := S) (s := s) (k := k - 1) ⟨by omega, by omega⟩
  have hl : hgt S s = ((S s).length : Int) := rfl
  rw [show (S s).length - 1 - (k - 1).toNat = (S s).length - 1 - k.toNat + 1 by omega] at h2
  exact srt_adj (hS s) h1 h2
/-! how many boxes -/
def flA (S : St) : Nat → List Int
  | 0 => []
  | n + 1 => flA S n ++ S n
def smH (S : St) : Nat → Int
  | 0 => 0
  | n + 1 => smH S n + hgt S n
theorem sm_fl {S : St} : ∀ n, smH S n = ((flA S n).length : Int)
  | 0 => rfl
  | n + 1 => by
    unfold smH flA
    rw [sm_fl n, List.length_append]
    unfold hgt
    omega
theorem fl_mem {S : St} {x : Int} : ∀ {n : Nat}, x ∈ flA S n ↔ ∃ s : Nat, s < n ∧ x ∈ S s
  | 0 => by
    constructor
    · intro h
      exact absurd h List.not_mem_nil
    · rintro ⟨s, h, -⟩
      omega
  | n + 1 => by
    show x ∈ flA S n ++ S n ↔ _
    rw [List.mem_append, fl_mem]
    constructor
    · rintro (⟨s, h1, h2⟩ | h)
      · exact ⟨s, by omega, h2⟩
      · exact ⟨n, by omega, h⟩
    · rintro ⟨s, h1, h2⟩
      by_cases q : s = n
      · subst q
        exact Or.inr h2
      · exact Or.inl ⟨s, by omega, h2⟩
theorem fl_nd {c : Int} {S : St} (hw : wfS c S) : ∀ n, (flA S n).Nodup
  | 0 => List.nodup_nil
  | n + 1 => by
    show (flA S n ++ S n).Nodup
    refine List.nodup_append.mpr ⟨fl_nd hw n, hw.1 n, fun a ha b hb e => ?_⟩
    obtain ⟨s, h1, h2⟩ := fl_mem.mp ha
    rw [e] at h2
    have := hw.2.1 _ _ _ h2 hb
    omega
theorem cntI_z : ∀ {n : Nat}, cntI (fun _ => false) n = 0
  | 0 => rfl
  | n + 1 => by
    have h := cntI_f (p := fun _ => false) (i := (n : Int)) (by omega) rfl
    rw [show ((n : Int) + 1).toNat = n + 1 by omega, show ((n : Int)).toNat = n by omega] at h
    rw [h]
    exact cntI_z
theorem cnt_nd {n : Nat} : ∀ {l : List Int}, l.Nodup → (∀ x ∈ l, 0 ≤ x ∧ x < n) → cntI (fun x => decide (x ∈ l)) n = (l.length : Int)
  | [], _, _ => by
    have e : cntI (fun x => decide (x ∈ ([] : List Int))) n = cntI (fun _ => false) n := cntI_congr (fun i _ _ => by simp)
    rw [e, cntI_z]
    rfl
  | a :: l, hn, h => by
    have h1 := List.nodup_cons.mp hn
    have h2 := cnt_nd h1.2 (fun x hx => h x (List.mem_cons_of_mem _ hx))
    have ha := h a List.mem_cons_self
    have h3 := cntI_on (p := fun x => decide (x ∈ l)) (q := fun x => decide (x ∈ a :: l)) (b := a) (n := n) ha.1 ha.2 (decide_eq_false h1.1) (decide_eq_true List.mem_cons_self) (fun i hi => by
      by_cases q : i ∈ l
      · rw [decide_eq_true q, decide_eq_true (List.mem_cons_of_mem _ q)]
      · rw [decide_eq_false q, decide_eq_false (fun z => (List.mem_cons.mp z).elim hi q)])
    rw [h3, h2, List.length_cons]
    omega
theorem nb_congr {S S' : St} (h : ∀ x, inS S' x ↔ inS S x) : nBS S' = nBS S := by
  unfold nBS
  refine cntI_congr (fun x _ _ => ?_)
  by_cases q : inS S x
  · rw [@decide_eq_true _ (Classical.propDecidable _) q, @decide_eq_true _ (Classical.propDecidable _) ((h x).mpr q)]
  · rw [@decide_eq_false _ (Classical.propDecidable _) q, @decide_eq_false _ (Classical.propDecidable _) (fun z => q ((h x).mp z))]
theorem nb_tk {c : Int} {z : St} {s b : Int} (hz : wfS c z) (hh : (z s).head? = some b) : nBS (tkS z b) = nBS z - 1 := by
  obtain ⟨l, hl⟩ := hd_cons hh
  have hb : b ∈ z s := by rw [hl]; exact List.mem_cons_self
  have hr := hz.2.2.1 s b hb
  unfold nBS
  refine cntI_off (b := b) hr.1 (by omega) (@decide_eq_true _ (Classical.propDecidable _) ⟨s, hb⟩) (@decide_eq_false _ (Classical.propDecidable _) (fun q => ((inS_tk hz hh).mp q).2 rfl)) (fun i hi => ?_)
  by_cases q : inS z i
  · rw [@decide_eq_true _ (Classical.propDecidable _) q, @decide_eq_true _ (Classical.propDecidable _) ((inS_tk hz hh).mpr ⟨q, hi⟩)]
  · rw [@decide_eq_false _ (Classical.propDecidable _) q, @decide_eq_false _ (Classical.propDecidable _) (fun z => q ((inS_tk hz hh).mp z).1)]
theorem nb_sm {c : Int} {S : St} (hw : wfS c S) (h0 : 0 ≤ c) : nBS S = smH S c.toNat := by
  rw [sm_fl, ← cnt_nd (n := 20) (fl_nd hw c.toNat) (fun x hx => by
    obtain ⟨s, -, h2⟩ := fl_mem.mp hx
    exact hw.2.2.1 _ x h2)]
  unfold nBS
  refine cntI_congr (fun x _ _ => ?_)
  by_cases q : inS S x
  · obtain ⟨s, hs⟩ := q
    have hr := hw.2.2.2.2 s x hs
    have hm : x ∈ flA S c.toNat := fl_mem.mpr ⟨s.toNat, by omega, by rw [show ((s.toNat : Nat) : Int) = s by omega]; exact hs⟩
    rw [@decide_eq_true _ (Classical.propDecidable _) ⟨s, hs⟩, decide_eq_true hm]
  · rw [@decide_eq_false _ (Classical.propDecidable _) q, decide_eq_false (fun z => by
      obtain ⟨s, -, h2⟩ := fl_mem.mp z
      exact q ⟨_, h2⟩)]
