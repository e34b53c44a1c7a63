/-! the search for the first plan, over the heap's list of begun plans -/
section SEARCH
variable {c : Int} {r w : Int → Int} {pn : Int → Bool} {b : Int}
/-- a begun plan: a run of moves from a, whose need is at most lim -/
def nodeB (c : Int) (r w : Int → Int) (pn : Int → Bool) (b : Int) (a : St) (lim : Int) (L : List Int) (z : St) (n : Nat) : Prop := runR c r w pn b L a z ∧ ovR z b n ∧ (L.length : Int) + n ≤ lim
def isNode (c : Int) (r w : Int → Int) (pn : Int → Bool) (b : Int) (a : St) (lim B : Int) : Prop := ∃ L z n, nodeB c r w pn b a lim L z n ∧ B = keyN ((L.length : Int) + (n : Nat)) L
/-- the search's invariant over the begun plans at hand -/
def seaI (c : Int) (r w : Int → Int) (pn : Int → Bool) (b : Int) (a : St) (lim : Int) (H : List Int) : Prop := (∀ B ∈ H, isNode c r w pn b a lim B) ∧ ∀ L, plnR c r w pn b a L → (L.length : Int) ≤ lim → ∃ P R z n, L = P ++ R ∧ runR c r w pn b P a z ∧ ovR z b n ∧ keyN ((P.length : Int) + (n : Nat)) P ∈ H
/-- B's children -/
def isKid (c : Int) (r w : Int → Int) (pn : Int → Bool) (b : Int) (lim : Int) (L : List Int) (z : St) (s t x : Int) (B : Int) : Prop := okM c r w pn z s t x ∧ ∃ n' : Nat, ovR (doM z s t x) b n' ∧ (L.length : Int) + 1 + n' ≤ lim ∧ B = keyN ((L.length : Int) + 1 + n') (L ++ [4 * x + t])
/-- the least plan -/
def leastP (c : Int) (r w : Int → Int) (pn : Int → Bool) (b : Int) (a : St) (lim : Int) (L : List Int) : Prop := plnR c r w pn b a L ∧ (L.length : Int) ≤ lim ∧ ∀ L', plnR c r w pn b a L' → (L'.length : Int) ≤ lim → keyN L.length L ≤ keyN L'.length L'
theorem seaI_0 {a : St} {lim : Int} {n : Nat} (h : ovR a b n) (hl : (n : Int) ≤ lim) : seaI c r w pn b a lim [keyN n []] := by
  refine ⟨fun B hB => ?_, fun L hL hl2 => ⟨[], L, a, n, rfl, rfl, h, ?_⟩⟩
  · have e : B = keyN n [] := by simpa using hB
    exact ⟨[], a, n, ⟨rfl, h, by simp; exact hl⟩, by rw [e]; simp⟩
  · simp
theorem seaI_perm {a : St} {lim : Int} {H H2 : List Int} (hp : H2.Perm H) (h : seaI c r w pn b a lim H) : seaI c r w pn b a lim H2 := by
  refine ⟨fun B hB => h.1 B (hp.mem_iff.mp hB), fun L hL hl => ?_⟩
  obtain ⟨P, R, z, n, e, h1, h2, h3⟩ := h.2 L hL hl
  exact ⟨P, R, z, n, e, h1, h2, hp.mem_iff.mpr h3⟩
theorem seaI_no {a : St} {lim : Int} (h : seaI c r w pn b a lim []) {L : List Int} (hL : plnR c r w pn b a L) (hl : (L.length : Int) ≤ lim) : False := by
  obtain ⟨P, R, z, n, e, h1, h2, h3⟩ := h.2 L hL hl
  cases h3
theorem need_le {a z : St} {P R : List Int} {n : Nat} (hr : ∀ t, r t ≤ 4) (hc : c ≤ 4) (hw : wfS c a) (h : plnR c r w pn b a (P ++ R)) (h1 : runR c r w pn b P a z) (h2 : ovR z b n) : n ≤ R.length := by
  obtain ⟨y, h3, h4⟩ := h
  obtain ⟨z', h5, h6⟩ := run_app.mp h3
  have e := run_det hc hr hw h1 h5
  subst e
  obtain ⟨n', h7, h8⟩ := ov_run h6 h2
  have e2 := ov_u (wf_run hr (wf_run hr hw h1) h6) h4 h7
  omega
theorem key_pre {a z : St} {P R : List Int} {n : Nat} (hr : ∀ t, r t ≤ 4) (hc : c ≤ 4) (hw : wfS c a) (h : plnR c r w pn b a (P ++ R)) (h1 : runR c r w pn b P a z) (h2 : ovR z b n) (hl : (P ++ R).length ≤ 4) : keyN ((P.length : Int) + n) P ≤ keyN (P ++ R).length (P ++ R) := by
  have hn := need_le hr hc hw h h1 h2
  obtain ⟨y, h3, h4⟩ := h
  have hd : digs (P ++ R) := run_dig hc hr hw h3
  have hdP : digs P := fun m hm => hd m (List.mem_append_left _ hm)
  have ha := key_app hd hl
  have hA := key_rng hd hl
  have hlP : P.length ≤ 4 := by rw [List.length_append] at hl; omega
  have hB := key_rng hdP hlP
  unfold keyN
  rw [List.length_append] at hA ⊢
  by_cases q : n = R.length
  · subst q
    push_cast at *
    omega
  · push_cast at *
    omega
/-- the first begun plan that needs nothing more is the least plan -/
theorem seaI_goal {a z : St} {lim : Int} {H : List Int} {L : List Int} (hr : ∀ t, r t ≤ 4) (hc : c ≤ 4) (hlim : lim ≤ 4) (hw : wfS c a) (h : seaI c r w pn b a lim H) (hB : nodeB c r w pn b a lim L z 0) (hm : ∀ B ∈ H, keyN L.length L ≤ B) : leastP c r w pn b a lim L := by
  refine ⟨⟨z, hB.1, hB.2.1⟩, by have := hB.2.2; omega, fun L' hL' hl' => ?_⟩
  obtain ⟨P, R, z', n, e, h1, h2, h3⟩ := h.2 L' hL' hl'
  subst e
  exact Int.le_trans (hm _ h3) (key_pre hr hc hw hL' h1 h2 (by omega))
/-- a begun plan is gone on with -/
theorem seaI_step {a z : St} {lim : Int} {H H2 CH : List Int} {L : List Int} {n : Nat} (hr : ∀ t, r t ≤ 4) (hc : c ≤ 4) (hlim : lim ≤ 4) (hw : wfS c a) (h : seaI c r w pn b a lim (keyN ((L.length : Int) + n) L :: H)) (hB : nodeB c r w pn b a lim L z n) (hn : n ≠ 0) (hp : H2.Perm (CH ++ H)) (hk1 : ∀ B ∈ CH, ∃ s t x, isKid c r w pn b lim L z s t x B) (hk2 : ∀ s t x B, isKid c r w pn b lim L z s t x B → B ∈ CH) : seaI c r w pn b a lim H2 := by
  have hz : wfS c z := wf_run hr hw hB.1
  have hkid : ∀ s t x, okM c r w pn z s t x → x ≠ b := by
    intro s t x o q
    obtain ⟨o1, o2, o3, o4, o5, o6, -⟩ := o
    obtain ⟨l, hl⟩ := hd_cons o6
    obtain ⟨s0, hb, hx⟩ := hB.2.1
    have e : s = s0 := hz.2.1 s s0 b (by rw [hl, q]; exact List.mem_cons_self) hb
    rw [← e, hl, q] at hx
    unfold ixO at hx
    rw [if_pos rfl] at hx
    exact hn hx.symm
  refine seaI_perm hp ⟨fun B hB2 => ?_, fun L' hL' hl' => ?_⟩
  · rcases List.mem_append.mp hB2 with q | q
    · obtain ⟨s, t, x, o, n', h1, h2, h3⟩ := hk1 B q
      refine ⟨L ++ [4 * x + t], doM z s t x, n', ⟨run_app.mpr ⟨z, hB.1, ⟨_, ⟨s, t, x, rfl, hkid s t x o, o, rfl⟩, rfl⟩⟩, h1, by rw [List.length_append]; push_cast; simp only [List.length_cons, List.length_nil]; omega⟩, ?_⟩
      rw [h3, List.length_append]
      push_cast
      rfl
    · exact h.1 B (List.mem_cons_of_mem _ q)
  · obtain ⟨P, R, z', n', e, h1, h2, h3⟩ := h.2 L' hL' hl'
    rcases List.mem_cons.mp h3 with q | q
    · -- the prefix is the one that was taken: the next one has been added
      have hl4 : L'.length ≤ 4 := by omega
      subst e
      have hd : digs (P ++ R) := by
        obtain ⟨y, g1, -⟩ := hL'
        exact run_dig hc hr hw g1
      have hdP : digs P := fun m hm => hd m (List.mem_append_left _ hm)
      have hdL : digs L := run_dig hc hr hw hB.1
      have hlP : P.length ≤ 4 := by rw [List.length_append] at hl4; omega
      have hlL : L.length ≤ 4 := by have := hB.2.2; omega
      have k1 := key_need (nd := (P.length : Int) + n') hdP hlP
      have k2 := key_need (nd := (L.length : Int) + n) hdL hlL
      rw [q] at k1
      have hlen : P.length = L.length := by omega
      have hPL : P = L := by
        rcases lex_tri hlen with z1 | z1 | z1
        · exact z1
        · have := lex_key hdP hdL hlP hlen z1
          unfold keyN at q
          have hnn : n' = n := by omega
          subst hnn
          rw [hlen] at q
          omega
        · have := lex_key hdL hdP hlL hlen.symm z1
          unfold keyN at q
          have hnn : n' = n := by omega
          subst hnn
          rw [hlen] at q
          omega
      subst hPL
      have ez := run_det hc hr hw h1 hB.1
      subst ez
      have en := ov_u hz h2 hB.2.1
      subst en
      cases R with
      | nil =>
        rw [List.append_nil] at hL'
        obtain ⟨y, g1, g2⟩ := hL'
        have e3 := run_det hc hr hw h1 g1
        subst e3
        exact absurd (ov_u hz h2 g2) hn
      | cons m R =>
        have hL2 := hL'
        obtain ⟨y, g1, g2⟩ := hL'
        obtain ⟨z2, g3, g4⟩ := run_app.mp g1
        have e3 := run_det hc hr hw h1 g3
        subst e3
        obtain ⟨a', g5, g6⟩ := g4
        have g5' := g5
        obtain ⟨s, t, x, rfl, hx, o, rfl⟩ := g5
        obtain ⟨s0, hb, hix⟩ := h2
        have hov : ∃ n2 : Nat, ovR (doM z' s t x) b n2 := by
          rcases ov_do hx o hb hix with ⟨-, -, q1, q2⟩ | ⟨-, -, q1, q2⟩ | ⟨-, -, q1, q2⟩
          · exact ⟨_, s0, q1, q2⟩
          · exact ⟨_, s0, q1, q2⟩
          · exact ⟨_, s0, q1, q2⟩
        obtain ⟨n2, hov⟩ := hov
        have hrun2 : runR c r w pn b (P ++ [4 * x + t]) a (doM z' s t x) := run_app.mpr ⟨z', h1, ⟨_, g5', rfl⟩⟩
        have hap : P ++ (4 * x + t) :: R = (P ++ [4 * x + t]) ++ R := by simp
        have hn2 : n2 ≤ R.length := need_le hr hc hw (by rw [← hap]; exact hL2) hrun2 hov
        rw [List.length_append, List.length_cons] at hl'
        refine ⟨P ++ [4 * x + t], R, doM z' s t x, n2, hap, hrun2, hov, List.mem_append_left _ (hk2 s t x _ ⟨o, n2, hov, by push_cast at hl'; omega, ?_⟩)⟩
        rw [List.length_append]
        push_cast
        rfl
    · exact ⟨P, R, z', n', e, h1, h2, List.mem_append_right _ q⟩
/-! how many begun plans can come -/
def wN (e n : Int) : Int := if e = 0 then (if n = 0 then 1 else if n = 1 then 4 else if n = 2 then 13 else 40) else (if n = 0 then 1 else if n = 1 then 28 else if n = 2 then 163 else 730)
def wB (lim B : Int) : Int := wN (lim - B / 2147483648) (B / 2147483648 - B % 8)
def sumW (lim : Int) : List Int → Int
  | [] => 0
  | B :: H => wB lim B + sumW lim H
theorem wN_pos (e n : Int) : 1 ≤ wN e n ∧ wN e n ≤ 730 := by
  unfold wN
  repeat' split
  all_goals omega
theorem sumW_perm {lim : Int} {H H2 : List Int} (h : H.Perm H2) : sumW lim H = sumW lim H2 := by
  induction h with
  | nil => rfl
  | cons x _ ih => simp only [sumW, ih]
  | swap x y l => simp only [sumW]; omega
  | trans _ _ h1 h2 => rw [h1, h2]
theorem sumW_app {lim : Int} : ∀ {H H2 : List Int}, sumW lim (H ++ H2) = sumW lim H + sumW lim H2
  | [], H2 => by simp [sumW]
  | B :: H, H2 => by
    simp only [List.cons_append, sumW, sumW_app]
    omega
theorem sumW_len {lim : Int} : ∀ {H : List Int}, (H.length : Int) ≤ sumW lim H
  | [] => by simp [sumW]
  | B :: H => by
    have := sumW_len (lim := lim) (H := H)
    have h1 := (wN_pos (lim - B / 2147483648) (B / 2147483648 - B % 8)).1
    simp only [sumW, List.length_cons, wB]
    push_cast
    omega
theorem sumW_nn {lim : Int} {H : List Int} : 0 ≤ sumW lim H := by
  have := sumW_len (lim := lim) (H := H)
  omega
theorem hpL_len (f : Int → Int) : ∀ n : Nat, (hpL f n).length = n
  | 0 => rfl
  | n + 1 => by simp [hpL, hpL_len f n]
end SEARCH
