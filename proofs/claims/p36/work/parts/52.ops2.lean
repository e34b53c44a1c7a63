/-! plans made, appointments, hours -/
section DIG
variable {c : Int} {r w : Int → Int} {pn : Int → Bool} {b : Int}
/-- b stays where it stands, and so do the boxes below it -/
theorem run_und {s0 : Int} : ∀ {L : List Int} {a z : St}, runR c r w pn b L a z → b ∈ a s0 → b ∈ z s0 ∧ hgt z s0 - (ixO b (z s0) : Nat) = hgt a s0 - (ixO b (a s0) : Nat)
  | [], a, z, e, h => by
    have e : a = z := e
    rw [← e]
    exact ⟨h, rfl⟩
  | m :: L, a, z, e, h => by
    obtain ⟨a', ⟨s, t, x, -, hx, o, rfl⟩, e2⟩ := e
    have hst := o.2.2.2.2.1
    obtain ⟨l, hl⟩ := hd_cons o.2.2.2.2.2.1
    have key : b ∈ doM a s t x s0 ∧ hgt (doM a s t x) s0 - (ixO b (doM a s t x s0) : Nat) = hgt a s0 - (ixO b (a s0) : Nat) := by
      unfold hgt
      rcases ov_do hx o h rfl with ⟨q0, q1, q2, q3⟩ | ⟨q0, q1, q2, q3⟩ | ⟨q0, q1, q2, q3⟩
      · refine ⟨q2, ?_⟩
        rw [q3]
        subst q0
        have e1 : (doM a s t x s).length = (a s).length - 1 := by rw [doM_s, List.length_tail]
        have e2 : 1 ≤ (a s).length := by rw [hl]; simp
        rw [e1]
        omega
      · refine ⟨q2, ?_⟩
        rw [q3]
        subst q1
        have e1 : (doM a s t x t).length = (a t).length + 1 := by rw [doM_t (Ne.symm hst), List.length_cons]
        rw [e1]
        omega
      · refine ⟨q2, ?_⟩
        rw [q3, doM_o (Ne.symm q0) (Ne.symm q1)]
    obtain ⟨k1, k2⟩ := run_und e2 key.1
    exact ⟨k1, by rw [k2, key.2]⟩
/-- the last move of a run -/
theorem run_last : ∀ {L : List Int} {a z : St} {m : Int}, runR c r w pn b L a z → L[L.length - 1]? = some m → ∃ y s t x, m = 4 * x + t ∧ okM c r w pn y s t x ∧ z = doM y s t x
  | [], a, z, m, _, h => by simp at h
  | [k], a, z, m, e, h => by
    obtain ⟨a', ⟨s, t, x, hm, hx, o, rfl⟩, e2⟩ := e
    have e2 : doM a s t x = z := e2
    have ek : k = m := by simpa using h
    exact ⟨a, s, t, x, by rw [← ek, hm], o, e2.symm⟩
  | k :: k2 :: L, a, z, m, e, h => by
    obtain ⟨a', -, e2⟩ := e
    refine run_last e2 ?_
    rw [show (k :: k2 :: L).length - 1 = ((k2 :: L).length - 1) + 1 by simp, List.getElem?_cons_succ] at h
    exact h
end DIG
section OPS2
variable {V V' : qHp} {S S' : St}
theorem len_eq {b : Int} {L : List Int} (O : aOK V S) (h : leaA V S b L) : lenA V S b = (L.length : Int) := by
  unfold lenA
  rw [leaA_u O.1 O.2.1 O.2.2.1 (Classical.epsilon_spec (p := fun L : List Int => leaA V S b L) ⟨L, h⟩) h]
/-- a plan is made -/
theorem op_dig {x k r v : Int} (J : aJ V S) (I : aI V S) (O' : aOK V' S') (hm : 0 ≤ V 0 1 ∧ V 0 1 ≤ 1000000) (h : sp_dig x V S k r V' S') (he : v = ecd [-1001, -1005] k r) : opK V S v 0 0 V' S' ∧ v = aqP V S x ∧ (0 ≤ v → v ≤ 4 ∧ aq5 S' x = 0 ∧ aq4 S' x = aq4 S x ∧ aq3 S' x = aq3 S x ∧ V' 0 1 = V 0 1 + v ∧ (0 < v → aq3 S' (aq17 V S x (v - 1)) = aq18 V S x (v - 1) ∧ aq5 S' (aq17 V S x (v - 1)) = 0)) := by
  rcases q_M2 h he with ⟨c, a, h1, h2⟩ | ⟨c, c2, a, h1, h2⟩ | ⟨c, -, L, hL, hr, rfl, rfl⟩
  · refine ⟨opK_no I h1 h2, ?_, fun q => by omega⟩
    unfold aqP
    rw [ifP_f c]
    exact a
  · refine ⟨opK_no I h1 h2, ?_, fun q => by omega⟩
    unfold aqP
    rw [ifP_t c, ifP_f c2]
    exact a
  · have O := J.1
    obtain ⟨n, hn⟩ := ov_in c
    have hl := lea_len O hL hn
    have ew : w32 (V 0 1 + L.length) = V 0 1 + L.length := w32_id (by omega)
    rw [ew] at O' ⊢
    have e : ∀ k, k ≠ 0 → qUp V 0 1 (V 0 1 + L.length) k = V k := fun k h0 => by rw [qUp_row h0]
    have e0 : ∀ j, j ≠ 1 → qUp V 0 1 (V 0 1 + L.length) 0 j = V 0 j := fun j hj => by rw [qUp_j hj]
    have hz : wfS (V 0 3) S' := wf_run O.2.1 O.2.2.1 hr
    have hms := in_so O.1 O.2.2.1 c
    obtain ⟨u1, u2⟩ := run_und hr hms
    have hin : inS S' x := ⟨_, u1⟩
    have hso : soS S' x = soS S x := so_of O.1 hz u1
    have hov : ovR S' x 0 := by
      obtain ⟨n', -, ⟨z', p1, p2⟩, -⟩ := hL
      have ez := run_det O.1 O.2.1 O.2.2.1 hr p1
      rw [ez]
      exact p2
    have hix : ixO x (S' (soS S x)) = 0 := ov_u hz ⟨_, u1, rfl⟩ hov
    refine ⟨⟨aI_eq (aI_run I hr) (e 2 (by decide)) (e 3 (by decide)) (e 4 (by decide)) (e0 0 (by decide)) (e0 4 (by decide)), e0 3 (by decide), e 1 (by decide), by rw [e0 4 (by decide)]; omega, by rw [e0 5 (by decide)]; omega, by rw [qUp_s]; omega, fun q => by omega⟩, ?_, fun _ => ⟨by omega, ?_, ?_, ?_, by rw [qUp_s], fun hpos => ?_⟩⟩
    · unfold aqP
      rw [ifP_t c, ifP_t ⟨L, hL⟩, len_eq O hL]
    · unfold aq5
      rw [ifP_t hin, hso, hix]
      rfl
    · unfold aq4
      rw [ifP_t hin, ifP_t c]
      unfold unS
      rw [hso]
      omega
    · unfold aq3
      rw [ifP_t hin, ifP_t c, hso]
    · have hlt : L.length - 1 < L.length := by omega
      obtain ⟨m, hmm⟩ : ∃ m, L[L.length - 1]? = some m := ⟨_, List.getElem?_eq_getElem hlt⟩
      obtain ⟨y, s, t, x2, em, o, ez⟩ := run_last hr hmm
      have hi : ((L.length : Int) - 1).toNat = L.length - 1 := by omega
      have hex : ∃ L', leaA V S x L' ∧ (0 ≤ (L.length : Int) - 1 ∧ (L.length : Int) - 1 < (L'.length : Int)) := ⟨L, hL, by omega, by omega⟩
      have e17 : aq17 V S x ((L.length : Int) - 1) = m / 4 := by
        unfold aq17
        rw [ifP_t c, ifP_t hex]
        refine (eps_of (P := fun r => ∃ L' m', leaA V S x L' ∧ L'[((L.length : Int) - 1).toNat]? = some m' ∧ r = m' / 4) ?_ ⟨L, m, hL, by rw [hi]; exact hmm, rfl⟩).symm
        rintro a b ⟨L1, m1, q1, q2, q3⟩ ⟨L2, m2, q4, q5, q6⟩
        have e1 := leaA_u O.1 O.2.1 O.2.2.1 q1 q4
        subst e1
        rw [q2] at q5
        have e2 : m1 = m2 := by simpa using q5
        rw [q3, q6, e2]
      have e18 : aq18 V S x ((L.length : Int) - 1) = m % 4 := by
        unfold aq18
        rw [ifP_t c, ifP_t hex]
        refine (eps_of (P := fun r => ∃ L' m', leaA V S x L' ∧ L'[((L.length : Int) - 1).toNat]? = some m' ∧ r = m' % 4) ?_ ⟨L, m, hL, by rw [hi]; exact hmm, rfl⟩).symm
        rintro a b ⟨L1, m1, q1, q2, q3⟩ ⟨L2, m2, q4, q5, q6⟩
        have e1 := leaA_u O.1 O.2.1 O.2.2.1 q1 q4
        subst e1
        rw [q2] at q5
        have e2 : m1 = m2 := by simpa using q5
        rw [q3, q6, e2]
      have ht := O.1
      have o3 := o.2.2.1
      have o4 := o.2.2.2.1
      have ex : m / 4 = x2 := by omega
      have et : m % 4 = t := by omega
      have hst := o.2.2.2.2.1
      have hts : S' t = x2 :: y t := by rw [ez, doM_t (Ne.symm hst)]
      have hmem : x2 ∈ S' t := by rw [hts]; exact List.mem_cons_self
      have hin2 : inS S' x2 := ⟨t, hmem⟩
      have hso2 : soS S' x2 = t := so_of O.1 hz hmem
      rw [e17, e18, ex, et]
      constructor
      · unfold aq3
        rw [ifP_t hin2, hso2]
      · unfold aq5
        rw [ifP_t hin2, hso2, hts]
        unfold ixO
        rw [if_pos rfl]
        rfl
/-- an appointment more -/
theorem op_book {x hr l k r v : Int} (J : aJ V S) (I : aI V S) (h : sp_book x hr l V S k r V' S') (he : v = ecd [-1001, -1002, -1004, -1003] k r) : (v < 0 ∧ opK V S v 0 0 V' S') ∨ (0 ≤ v ∧ opK V S v 0 1 V' S' ∧ v = V 0 5 ∧ aq22 V' v = 98 ∧ aq23 V' S' x = v ∧ aq24 V' l hr = v ∧ aq11 V S x ≤ hr) := by
  rcases q_M4 h he with ⟨a, h1, h2⟩ | ⟨⟨c1, c2⟩, c3, c4, ⟨c5, c6, c7⟩, rfl, rfl, rfl⟩
  · exact Or.inl ⟨by omega, opK_no I h1 h2⟩
  · obtain ⟨J1, J2, J3, J4, J5, J6, J7, J8⟩ := J
    obtain ⟨W, hW⟩ : ∃ W, W = qUp (qUp (qUp (qUp (qUp V 0 5 (V 0 5 + 1)) 5 (V 0 5) x) 6 (V 0 5) hr) 7 (V 0 5) l) 8 (V 0 5) 98 := ⟨_, rfl⟩
    rw [← hW]
    have e : ∀ k, k < 5 → k ≠ 0 → W k = V k := fun k h5 h0 => by rw [hW, qUp_row (by omega), qUp_row (by omega), qUp_row (by omega), qUp_row (by omega), qUp_row h0]
    have e0 : ∀ j, j ≠ 5 → W 0 j = V 0 j := fun j hj => by rw [hW, qUp_k (by decide), qUp_k (by decide), qUp_k (by decide), qUp_k (by decide), qUp_j hj]
    have e05 : W 0 5 = V 0 5 + 1 := by rw [hW, qUp_k (by decide), qUp_k (by decide), qUp_k (by decide), qUp_k (by decide), qUp_s]
    have w8 : W 8 (V 0 5) = 98 := by rw [hW, qUp_s]
    have w7 : W 7 (V 0 5) = l := by rw [hW, qUp_k (by decide), qUp_s]
    have w6 : W 6 (V 0 5) = hr := by rw [hW, qUp_k (by decide), qUp_k (by decide), qUp_s]
    have w5 : W 5 (V 0 5) = x := by rw [hW, qUp_k (by decide), qUp_k (by decide), qUp_k (by decide), qUp_s]
    have o8 : ∀ i, i ≠ V 0 5 → W 8 i = V 8 i := fun i hi => by rw [hW, qUp_j hi, qUp_k (by decide), qUp_k (by decide), qUp_k (by decide), qUp_k (by decide)]
    have o7 : ∀ i, i ≠ V 0 5 → W 7 i = V 7 i := fun i hi => by rw [hW, qUp_k (by decide), qUp_j hi, qUp_k (by decide), qUp_k (by decide), qUp_k (by decide)]
    have o6 : ∀ i, i ≠ V 0 5 → W 6 i = V 6 i := fun i hi => by rw [hW, qUp_k (by decide), qUp_k (by decide), qUp_j hi, qUp_k (by decide), qUp_k (by decide)]
    have o5 : ∀ i, i ≠ V 0 5 → W 5 i = V 5 i := fun i hi => by rw [hW, qUp_k (by decide), qUp_k (by decide), qUp_k (by decide), qUp_j hi, qUp_k (by decide)]
    have hB : bkAB W x = V 0 5 := by
      unfold bkAB
      rw [e05]
      refine fst_new J7.1 (p := fun i => decide (V 8 i = 98) && decide (V 5 i = x)) c5 (fun i a b => ?_) ?_
      · show (decide (W 8 i = 98) && decide (W 5 i = x)) = _
        rw [o8 i (by omega), o5 i (by omega)]
      · show (decide (W 8 (V 0 5) = 98) && decide (W 5 (V 0 5) = x)) = true
        rw [w8, w5, decide_eq_true rfl, decide_eq_true rfl]
        rfl
    have hL : bkAL W l hr = V 0 5 := by
      unfold bkAL
      rw [e05]
      refine fst_new J7.1 (p := fun i => decide (V 8 i = 98) && (decide (V 7 i = l) && decide (V 6 i = hr))) c6 (fun i a b => ?_) ?_
      · show (decide (W 8 i = 98) && (decide (W 7 i = l) && decide (W 6 i = hr))) = _
        rw [o8 i (by omega), o7 i (by omega), o6 i (by omega)]
      · show (decide (W 8 (V 0 5) = 98) && (decide (W 7 (V 0 5) = l) && decide (W 6 (V 0 5) = hr))) = true
        rw [w8, w7, w6, decide_eq_true rfl, decide_eq_true rfl, decide_eq_true rfl]
        rfl
    refine Or.inr ⟨J7.1, ⟨aI_eq I (e 2 (by decide) (by decide)) (e 3 (by decide) (by decide)) (e 4 (by decide) (by decide)) (e0 0 (by decide)) (e0 4 (by decide)), e0 3 (by decide), e 1 (by decide) (by decide), by rw [e0 4 (by decide)]; omega, e05, by rw [e0 1 (by decide)]; omega, fun q => by omega⟩, rfl, ?_, ?_, ?_, ?_⟩
    · unfold aq22
      rw [e05, ifP_t ⟨J7.1, by omega⟩]
      exact w8
    · unfold aq23
      rw [hB, ifP_t c1, ifP_t (by omega)]
    · unfold aq24
      rw [hL, ifP_t c2, ifP_t ⟨by omega, by omega⟩]
    · unfold aq11
      rw [ifP_t c1]
      by_cases q : V 3 x ≠ 45
      · rw [ifP_t q]
        have : ¬ hr < V 4 x := fun z => c4 ⟨q, z⟩
        omega
      · rw [ifP_f q]
        omega
theorem op_cancel {a k r v : Int} (J : aJ V S) (I : aI V S) (h : sp_cancel a V S k r V' S') (he : v = ecd [-1001, -1003] k r) : opK V S v 0 0 V' S' := by
  rcases q_M2 h he with ⟨-, a, h1, h2⟩ | ⟨-, -, a, h1, h2⟩ | ⟨c1, c2, rfl, rfl, rfl⟩
  · exact opK_no I h1 h2
  · exact opK_no I h1 h2
  · have hr := (cntI_rng (fun i => decide (qUp V 8 a 99 8 i = 98)) (qUp V 8 a 99 0 5).toNat).1
    have e : ∀ k, k ≠ 8 → qUp V 8 a 99 k = V k := fun k hk => qUp_row hk
    have e0 := e 0 (by decide)
    refine ⟨aI_eq I (e 2 (by decide)) (e 3 (by decide)) (e 4 (by decide)) (by rw [e0]) (by rw [e0]), by rw [e0], e 1 (by decide), by rw [e0]; omega, by rw [e0]; omega, by rw [e0]; omega, fun q => ?_⟩
    have q : cntI (fun i => decide (qUp V 8 a 99 8 i = 98)) (qUp V 8 a 99 0 5).toNat < 0 := q
    omega
theorem op_pass {n k r v : Int} (J : aJ V S) (I : aI V S) (hm : 0 ≤ V 0 1 ∧ V 0 1 ≤ 900000) (hn : n ≤ 4) (h : sp_pass n V S k r V' S') (he : v = ecd [-1002] k r) : opK V S v 0 0 V' S' ∧ (v < 0 → v = -1002) ∧ (0 ≤ v → nBS S' = nBS S - v) ∧ (n = 0 → v = -1002) := by
  rcases q_M1 h he with ⟨-, a, h1, h2⟩ | ⟨c1, c2⟩
  · exact ⟨opK_no I h1 h2, fun _ => a, fun q => by omega, fun _ => a⟩
  · obtain ⟨k1, k2, k3, k4, k5, k6, k7, k8⟩ := ps_A J.1 I (by omega) c2
    exact ⟨⟨k1, k4, k7, by omega, by omega, by omega, fun q => by omega⟩, fun q => by omega, fun _ => k3, fun q => by omega⟩
/-! what the law asks of every box behind an operation -/
theorem box_at (J : aJ V S) (I : aI V S) (x : Int) : (aq11 V S x < 0 ∨ V 0 0 < aq11 V S x) ∧ (aq23 V S x < 0 ∨ aq22 V (aq23 V S x) = 98) ∧ ((aqI S x = 1 ∧ 0 < aq2 V S x) ∨ (aqI S x = 0 ∧ aq2 V S x ≤ 0)) := by
  by_cases c : inS S x
  · refine ⟨?_, ?_, Or.inl ⟨by unfold aqI; rw [ifP_t c], ?_⟩⟩
    · unfold aq11
      rw [ifP_t c]
      by_cases q : V 3 x ≠ 45
      · rw [ifP_t q]
        exact Or.inr (I.2.2 x q)
      · rw [ifP_f q]
        exact Or.inl (by decide)
    · unfold aq23
      rw [ifP_t c]
      rcases bkB_spec V x with q | ⟨q1, q2, q3, -⟩
      · rw [ifP_f (fun z => z q)]
        exact Or.inl (by decide)
      · rw [ifP_t (by omega)]
        refine Or.inr ?_
        unfold aq22
        rw [ifP_t ⟨q1, q2⟩]
        exact q3
    · unfold aq2
      rw [ifP_t c]
      have := (I.2.1 x c).1
      omega
  · refine ⟨Or.inl ?_, Or.inl ?_, Or.inr ⟨by unfold aqI; rw [ifP_f c], ?_⟩⟩
    · unfold aq11
      rw [ifP_f c]
      decide
    · unfold aq23
      rw [ifP_f c]
      decide
    · unfold aq2
      rw [ifP_f c]
      decide
theorem out_at (J : aJ V S) {x : Int} (h : x < 0 ∨ 20 ≤ x) : aqI S x = 0 := by
  unfold aqI
  refine ifP_f (fun c => ?_)
  obtain ⟨s, hs⟩ := c
  have := J.1.2.2.1.2.2.1 s x hs
  omega
/-! what the law asks of every stack, and of every box in one -/
theorem stk_at (J : aJ V S) {s : Int} (hs : isT V s) : aq6 V S s = hgt S s ∧ hgt S s ≤ V 1 s ∧ 0 ≤ hgt S s := by
  refine ⟨?_, J.2.1 s hs, by unfold hgt; omega⟩
  unfold aq6
  rw [ifP_t hs]
theorem cntF_pos {p : Int → Bool} : ∀ {n : Nat} {i : Int}, 0 < cntF p n i → ∃ j, i ≤ j ∧ j < i + n ∧ p j = true
  | 0, i, h => by
    have h : (0 : Int) < 0 := h
    omega
  | n + 1, i, h => by
    by_cases q : p i = true
    · exact ⟨i, by omega, by omega, q⟩
    · have e : p i = false := by simpa using q
      have h2 : 0 < (bif p i then (1 : Int) else 0) + cntF p n (i + 1) := h
      rw [e] at h2
      obtain ⟨j, h3, h4, h5⟩ := cntF_pos (n := n) (i := i + 1) (by simpa using h2)
      exact ⟨j, by omega, by omega, h5⟩
theorem snd_at (J : aJ V S) (I : aI V S) {s k : Int} (hs : isT V s) (hk : 0 ≤ k ∧ k < hgt S s) : aq3 S (aq7 V S s k) = s ∧ aq4 S (aq7 V S s k) = k ∧ aq5 S (aq7 V S s k) = hgt S s - 1 - k ∧ (0 < k → aq2 V S (aq7 V S s k) ≤ aq2 V S (aq7 V S s (k - 1))) ∧ (aqP V S (aq7 V S s k) = -1005 ∨ (hgt S s - 1 - k ≤ aqP V S (aq7 V S s k) ∧ aqP V S (aq7 V S s k) ≤ hgt S s - k)) ∧ (0 < aq12 V S (aq7 V S s k) → aqP V S (aq7 V S s k) = -1005) ∧ (k = hgt S s - 1 → aqP V S (aq7 V S s k) = 0) := by
  have O := J.1
  have e7 : ∀ j, 0 ≤ j ∧ j < hgt S s → aq7 V S s j = atS S s j := fun j hj => by
    unfold aq7
    rw [ifP_t hs, ifP_t hj]
  have e7k := e7 k hk
  obtain ⟨a1, a2, a3, a4, a5, a6⟩ := at_all O hk
  rw [e7k]
  refine ⟨?_, ?_, ?_, fun h0 => ?_, ?_, fun h0 => ?_, fun h0 => ?_⟩
  · unfold aq3
    rw [ifP_t a2]
    exact a3
  · unfold aq4
    rw [ifP_t a2]
    exact a4
  · unfold aq5
    rw [ifP_t a2, a3]
    exact a5
  · rw [e7 (k - 1) ⟨by omega, by omega⟩]
    obtain ⟨b1, b2, -⟩ := at_all O (s := s) (k := k - 1) ⟨by omega, by omega⟩
    unfold aq2
    rw [ifP_t a2, ifP_t b2]
    exact at_srt I.1 h0 hk.2
  · unfold aqP
    rw [ifP_t a2]
    by_cases q : ∃ L, leaA V S (atS S s k) L
    · obtain ⟨L, hL⟩ := q
      rw [ifP_t ⟨L, hL⟩, len_eq O hL]
      have := lea_len O hL a6
      right
      omega
    · rw [ifP_f q]
      exact Or.inl rfl
  · unfold aqP
    rw [ifP_t a2]
    refine ifP_f ?_
    unfold aq12 at h0
    rw [ifP_t a2, a3, a4] at h0
    obtain ⟨j, j1, j2, j3⟩ := cntF_pos h0
    have hj : 0 ≤ j ∧ j < hgt S s := by omega
    have hg := at_get (S := S) hj
    have hl : hgt S s = ((S s).length : Int) := rfl
    exact lea_no O a1 (of_decide_eq_true j3) (abv_of hg (by omega))
  · have h00 : ixO (atS S s k) (S s) = 0 := by omega
    rw [h00] at a6
    have hL := lea_top O a6
    unfold aqP
    rw [ifP_t a2, ifP_t ⟨[], hL⟩, len_eq O hL]
    rfl
theorem all_at (J : aJ V S) : nBS S = smH S (V 0 3).toNat := nb_sm J.1.2.2.1 J.2.2.2.2.1
end OPS2
