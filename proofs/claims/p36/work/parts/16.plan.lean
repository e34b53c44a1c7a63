/-! the planning, over yards as stacks of boxes, the top one first: c stacks, r reaches, w weights, pn pinned, b the box to be dug out -/
abbrev St : Type := Int → List Int
def tlS (p : Int → Int) (s : Int) : Nat → List Int
  | 0 => []
  | n + 1 => p (s * 4 + n) :: tlS p s n
def stOf (h p : Int → Int) : St := fun s => if 0 ≤ s ∧ s < 4 then tlS p s (h s).toNat else []
def okM (c : Int) (r w : Int → Int) (pn : Int → Bool) (st : St) (s t x : Int) : Prop := 0 ≤ s ∧ s < c ∧ 0 ≤ t ∧ t < c ∧ s ≠ t ∧ (st s).head? = some x ∧ pn x = false ∧ ((st t).length : Int) < r t ∧ (∀ y, (st t).head? = some y → w x ≤ w y)
def doM (st : St) (s t x : Int) : St := fun u => if u = s then (st s).tail else if u = t then x :: st t else st u
def stepR (c : Int) (r w : Int → Int) (pn : Int → Bool) (b : Int) (st : St) (m : Int) (st' : St) : Prop := ∃ s t x, m = 4 * x + t ∧ x ≠ b ∧ okM c r w pn st s t x ∧ st' = doM st s t x
def runR (c : Int) (r w : Int → Int) (pn : Int → Bool) (b : Int) : List Int → St → St → Prop
  | [], a, z => a = z
  | m :: L, a, z => ∃ a', stepR c r w pn b a m a' ∧ runR c r w pn b L a' z
def wfS (c : Int) (st : St) : Prop := (∀ s, (st s).Nodup) ∧ (∀ s s' x, x ∈ st s → x ∈ st s' → s = s') ∧ (∀ s x, x ∈ st s → 0 ≤ x ∧ x < 20) ∧ (∀ s, (st s).length ≤ 4) ∧ (∀ s x, x ∈ st s → 0 ≤ s ∧ s < c)
def ixO (b : Int) : List Int → Nat
  | [] => 0
  | x :: l => if x = b then 0 else ixO b l + 1
def ovR (st : St) (b : Int) (n : Nat) : Prop := ∃ s, b ∈ st s ∧ ixO b (st s) = n
section PLAN
variable {c : Int} {r w : Int → Int} {pn : Int → Bool} {b : Int}
theorem hd_cons {l : List Int} {x : Int} (h : l.head? = some x) : ∃ t, l = x :: t := by
  cases l with
  | nil => cases h
  | cons y t =>
    simp at h
    exact ⟨t, by rw [h]⟩
theorem doM_s {st : St} {s t x : Int} : doM st s t x s = (st s).tail := by simp [doM]
theorem doM_t {st : St} {s t x : Int} (h : t ≠ s) : doM st s t x t = x :: st t := by simp [doM, h]
theorem doM_o {st : St} {s t x u : Int} (h1 : u ≠ s) (h2 : u ≠ t) : doM st s t x u = st u := by simp [doM, h1, h2]
theorem wf_do {st : St} {s t x : Int} (hr : ∀ t, r t ≤ 4) (h : wfS c st) (o : okM c r w pn st s t x) : wfS c (doM st s t x) := by
  obtain ⟨n1, n2, n3, n4, n5⟩ := h
  obtain ⟨o1, o2, o3, o4, o5, o6, o7, o8, -⟩ := o
  obtain ⟨l, hl⟩ := hd_cons o6
  have hxs : x ∈ st s := by rw [hl]; exact List.mem_cons_self
  have hxt : x ∉ st t := fun q => o5 (n2 s t x hxs q)
  have hnd := n1 s
  rw [hl] at hnd
  have hxl : x ∉ l := (List.nodup_cons.mp hnd).1
  have mem : ∀ u y, y ∈ doM st s t x u → (u = t ∧ y = x) ∨ (y ∈ st u ∧ y ≠ x) := by
    intro u y hy
    by_cases hu : u = s
    · rw [hu, doM_s, hl] at hy
      refine Or.inr ⟨by rw [hu, hl]; exact List.mem_cons_of_mem _ hy, fun q => hxl (by rw [← q]; exact hy)⟩
    · by_cases ht : u = t
      · rw [ht, doM_t (Ne.symm o5)] at hy
        rcases List.mem_cons.mp hy with q | q
        · exact Or.inl ⟨ht, q⟩
        · exact Or.inr ⟨by rw [ht]; exact q, fun z => hxt (by rw [← z]; exact q)⟩
      · rw [doM_o hu ht] at hy
        exact Or.inr ⟨hy, fun z => hu (n2 u s x (by rw [← z]; exact hy) hxs)⟩
  refine ⟨fun u => ?_, fun u v y h1 h2 => ?_, fun u y h1 => ?_, fun u => ?_, fun u y h1 => ?_⟩
  · by_cases hu : u = s
    · rw [hu, doM_s, hl]
      exact (List.nodup_cons.mp hnd).2
    · by_cases ht : u = t
      · rw [ht, doM_t (Ne.symm o5)]
        exact List.nodup_cons.mpr ⟨hxt, n1 t⟩
      · rw [doM_o hu ht]
        exact n1 u
  · rcases mem u y h1 with ⟨a1, a2⟩ | ⟨a1, a2⟩ <;> rcases mem v y h2 with ⟨b1, b2⟩ | ⟨b1, b2⟩
    · rw [a1, b1]
    · exact absurd a2 b2
    · exact absurd b2 a2
    · exact n2 u v y a1 b1
  · rcases mem u y h1 with ⟨a1, a2⟩ | ⟨a1, a2⟩
    · rw [a2]
      exact n3 s x hxs
    · exact n3 u y a1
  · by_cases hu : u = s
    · rw [hu, doM_s, List.length_tail]
      have := n4 s
      omega
    · by_cases ht : u = t
      · rw [ht, doM_t (Ne.symm o5), List.length_cons]
        have := hr t
        omega
      · rw [doM_o hu ht]
        exact n4 u
  · rcases mem u y h1 with ⟨a1, a2⟩ | ⟨a1, a2⟩
    · rw [a1]
      exact ⟨o3, o4⟩
    · exact n5 u y a1
theorem wf_run (hr : ∀ t, r t ≤ 4) : ∀ {L : List Int} {a z : St}, wfS c a → runR c r w pn b L a z → wfS c z
  | [], a, z, h, e => by
    have e : a = z := e
    rw [← e]
    exact h
  | m :: L, a, z, h, e => by
    obtain ⟨a', ⟨s, t, x, -, -, o, rfl⟩, e2⟩ := e
    exact wf_run hr (wf_do hr h o) e2
theorem ov_u {st : St} {n n' : Nat} (h : wfS c st) (h1 : ovR st b n) (h2 : ovR st b n') : n = n' := by
  obtain ⟨s, a1, a2⟩ := h1
  obtain ⟨s', b1, b2⟩ := h2
  have e := h.2.1 s s' b a1 b1
  subst e
  rw [← a2, ← b2]
/-- how a move changes the number of boxes above b, which stands in stack s0 -/
theorem ov_do {st : St} {s t x s0 : Int} {n : Nat} (hx : x ≠ b) (o : okM c r w pn st s t x) (hb : b ∈ st s0) (hn : ixO b (st s0) = n) : (s = s0 ∧ 0 < n ∧ b ∈ doM st s t x s0 ∧ ixO b (doM st s t x s0) = n - 1) ∨ (s ≠ s0 ∧ t = s0 ∧ b ∈ doM st s t x s0 ∧ ixO b (doM st s t x s0) = n + 1) ∨ (s ≠ s0 ∧ t ≠ s0 ∧ b ∈ doM st s t x s0 ∧ ixO b (doM st s t x s0) = n) := by
  obtain ⟨o1, o2, o3, o4, o5, o6, o7, o8, -⟩ := o
  obtain ⟨l, hl⟩ := hd_cons o6
  by_cases h : s = s0
  · refine Or.inl ⟨h, ?_⟩
    subst h
    rw [hl] at hb hn
    rw [doM_s, hl]
    unfold ixO at hn
    rw [if_neg hx] at hn
    refine ⟨by omega, ?_, by simp only [List.tail_cons]; omega⟩
    rcases List.mem_cons.mp hb with q | q
    · exact absurd q.symm hx
    · exact q
  · by_cases h2 : t = s0
    · refine Or.inr (Or.inl ⟨h, h2, ?_⟩)
      subst h2
      rw [doM_t (Ne.symm h)]
      refine ⟨List.mem_cons_of_mem _ hb, ?_⟩
      unfold ixO
      rw [if_neg hx, hn]
    · refine Or.inr (Or.inr ⟨h, h2, ?_⟩)
      rw [doM_o (Ne.symm h) (Ne.symm h2)]
      exact ⟨hb, hn⟩
theorem ov_run : ∀ {L : List Int} {a z : St} {n : Nat}, runR c r w pn b L a z → ovR a b n → ∃ n' : Nat, ovR z b n' ∧ n ≤ n' + L.length
  | [], a, z, n, e, h => by
    have e : a = z := e
    rw [← e]
    exact ⟨n, h, by simp⟩
  | m :: L, a, z, n, e, h => by
    obtain ⟨a', ⟨s, t, x, -, hx, o, rfl⟩, e2⟩ := e
    obtain ⟨s0, hb, hn⟩ := h
    rcases ov_do hx o hb hn with ⟨-, h0, q1, q2⟩ | ⟨-, -, q1, q2⟩ | ⟨-, -, q1, q2⟩
    · obtain ⟨n', h1, h2⟩ := ov_run e2 ⟨s0, q1, q2⟩
      exact ⟨n', h1, by simp only [List.length_cons]; omega⟩
    · obtain ⟨n', h1, h2⟩ := ov_run e2 ⟨s0, q1, q2⟩
      exact ⟨n', h1, by simp only [List.length_cons]; omega⟩
    · obtain ⟨n', h1, h2⟩ := ov_run e2 ⟨s0, q1, q2⟩
      exact ⟨n', h1, by simp only [List.length_cons]; omega⟩
theorem run_app : ∀ {P R : List Int} {a z : St}, runR c r w pn b (P ++ R) a z ↔ ∃ y, runR c r w pn b P a y ∧ runR c r w pn b R y z
  | [], R, a, z => by
    constructor
    · intro h
      exact ⟨a, rfl, h⟩
    · rintro ⟨y, h1, h2⟩
      have h1 : a = y := h1
      rw [h1]
      exact h2
  | m :: P, R, a, z => by
    constructor
    · rintro ⟨a', h1, h2⟩
      obtain ⟨y, h3, h4⟩ := run_app.mp h2
      exact ⟨y, ⟨a', h1, h3⟩, h4⟩
    · rintro ⟨y, ⟨a', h1, h3⟩, h4⟩
      exact ⟨a', h1, run_app.mpr ⟨y, h3, h4⟩⟩
theorem step_dig {a z : St} {m : Int} (hc : c ≤ 4) (h : wfS c a) (e : stepR c r w pn b a m z) : 0 ≤ m ∧ m < 80 := by
  obtain ⟨s, t, x, rfl, hx, o, rfl⟩ := e
  obtain ⟨o1, o2, o3, o4, o5, o6, -⟩ := o
  obtain ⟨l, hl⟩ := hd_cons o6
  have := h.2.2.1 s x (by rw [hl]; exact List.mem_cons_self)
  omega
theorem step_det {a z z' : St} {m : Int} (hc : c ≤ 4) (h : wfS c a) (e : stepR c r w pn b a m z) (e' : stepR c r w pn b a m z') : z = z' := by
  obtain ⟨s, t, x, rfl, hx, o, rfl⟩ := e
  obtain ⟨s', t', x', hm, hx', o', rfl⟩ := e'
  obtain ⟨o1, o2, o3, o4, o5, o6, -⟩ := o
  obtain ⟨p1, p2, p3, p4, p5, p6, -⟩ := o'
  have ht : t = t' := by omega
  have hxx : x = x' := by omega
  subst ht; subst hxx
  obtain ⟨l, hl⟩ := hd_cons o6
  obtain ⟨l', hl'⟩ := hd_cons p6
  have hs : s = s' := h.2.1 s s' x (by rw [hl]; exact List.mem_cons_self) (by rw [hl']; exact List.mem_cons_self)
  rw [hs]
theorem run_dig (hc : c ≤ 4) (hr : ∀ t, r t ≤ 4) : ∀ {L : List Int} {a z : St}, wfS c a → runR c r w pn b L a z → ∀ m ∈ L, 0 ≤ m ∧ m < 80
  | [], _, _, _, _ => fun m hm => by cases hm
  | m :: L, a, z, h, e => by
    obtain ⟨a', e1, e2⟩ := e
    have e1' := e1
    obtain ⟨s, t, x, -, -, o, rfl⟩ := e1
    intro q hq
    rcases List.mem_cons.mp hq with hq | hq
    · rw [hq]
      exact step_dig hc h e1'
    · exact run_dig hc hr (wf_do hr h o) e2 q hq
theorem run_det (hc : c ≤ 4) (hr : ∀ t, r t ≤ 4) : ∀ {L : List Int} {a z z' : St}, wfS c a → runR c r w pn b L a z → runR c r w pn b L a z' → z = z'
  | [], a, z, z', _, e, e' => by
    have e : a = z := e
    have e' : a = z' := e'
    rw [← e, ← e']
  | m :: L, a, z, z', h, e, e' => by
    obtain ⟨a1, e1, e2⟩ := e
    obtain ⟨a2, f1, f2⟩ := e'
    have q := step_det hc h e1 f1
    subst q
    obtain ⟨s, t, x, -, -, o, rfl⟩ := e1
    exact run_det hc hr (wf_do hr h o) e2 f2
/-- L digs b out -/
def plnR (c : Int) (r w : Int → Int) (pn : Int → Bool) (b : Int) (a : St) (L : List Int) : Prop := ∃ z, runR c r w pn b L a z ∧ ovR z b 0
/-! the long of a begun plan -/
def mC : List Int → Int → Int
  | [], _ => 0
  | m :: L, i => m * bSh i + mC L (i + 1)
def keyN (nd : Int) (L : List Int) : Int := nd * 2147483648 + mC L 0 + L.length
def digs (L : List Int) : Prop := ∀ m ∈ L, 0 ≤ m ∧ m < 80
theorem bSh_0 : bSh 0 = 16777216 := by decide
theorem bSh_1 : bSh 1 = 131072 := by decide
theorem bSh_2 : bSh 2 = 1024 := by decide
theorem bSh_3 : bSh 3 = 8 := by decide
theorem mC_0 : mC [] 0 = 0 := rfl
theorem mC_1 (p : Int) : mC [p] 0 = p * 16777216 := by simp [mC, bSh_0]
theorem mC_2 (p q : Int) : mC [p, q] 0 = p * 16777216 + q * 131072 := by simp [mC, bSh_0, bSh_1]
theorem mC_3 (p q u : Int) : mC [p, q, u] 0 = p * 16777216 + q * 131072 + u * 1024 := by simp [mC, bSh_0, bSh_1, bSh_2]; omega
theorem mC_4 (p q u v : Int) : mC [p, q, u, v] 0 = p * 16777216 + q * 131072 + u * 1024 + v * 8 := by simp [mC, bSh_0, bSh_1, bSh_2, bSh_3]; omega
/-- a list of at most four moves, by its length -/
theorem four {P : List Int → Prop} (h0 : P []) (h1 : ∀ p, 0 ≤ p ∧ p < 80 → P [p]) (h2 : ∀ p q, (0 ≤ p ∧ p < 80) → (0 ≤ q ∧ q < 80) → P [p, q]) (h3 : ∀ p q u, (0 ≤ p ∧ p < 80) → (0 ≤ q ∧ q < 80) → (0 ≤ u ∧ u < 80) → P [p, q, u]) (h4 : ∀ p q u v, (0 ≤ p ∧ p < 80) → (0 ≤ q ∧ q < 80) → (0 ≤ u ∧ u < 80) → (0 ≤ v ∧ v < 80) → P [p, q, u, v]) {L : List Int} (hd : digs L) (hl : L.length ≤ 4) : P L := by
  match L, hd, hl with
  | [], _, _ => exact h0
  | [p], hd, _ => exact h1 p (hd p (by simp))
  | [p, q], hd, _ => exact h2 p q (hd p (by simp)) (hd q (by simp))
  | [p, q, u], hd, _ => exact h3 p q u (hd p (by simp)) (hd q (by simp)) (hd u (by simp))
  | [p, q, u, v], hd, _ => exact h4 p q u v (hd p (by simp)) (hd q (by simp)) (hd u (by simp)) (hd v (by simp))
  | _ :: _ :: _ :: _ :: _ :: _, _, hl => simp at hl
theorem key_rng {L : List Int} (hd : digs L) (hl : L.length ≤ 4) : 0 ≤ mC L 0 ∧ mC L 0 + L.length < 2147483648 ∧ mC L 0 % 8 = 0 := by
  refine four (P := fun L => 0 ≤ mC L 0 ∧ mC L 0 + L.length < 2147483648 ∧ mC L 0 % 8 = 0) ?_ ?_ ?_ ?_ ?_ hd hl
  · decide
  · intro p hp; rw [mC_1]; simp only [List.length_cons, List.length_nil]; omega
  · intro p q hp hq; rw [mC_2]; simp only [List.length_cons, List.length_nil]; omega
  · intro p q u hp hq hu; rw [mC_3]; simp only [List.length_cons, List.length_nil]; omega
  · intro p q u v hp hq hu hv; rw [mC_4]; simp only [List.length_cons, List.length_nil]; omega
theorem key_need {nd : Int} {L : List Int} (hd : digs L) (hl : L.length ≤ 4) : keyN nd L / 2147483648 = nd ∧ keyN nd L % 8 = L.length := by
  have h := key_rng hd hl
  unfold keyN
  omega
theorem key_low {nd : Int} {L : List Int} (hd : digs L) (hl : L.length ≤ 3) : (keyN nd L % 2147483648 - keyN nd L % 8) = mC L 0 ∧ mC L 0 % (bSh L.length * 128) = 0 := by
  have h := key_rng hd (by omega)
  refine ⟨by unfold keyN; omega, ?_⟩
  match L, hd, hl with
  | [], _, _ => decide
  | [p], hd, _ => rw [mC_1]; show p * 16777216 % (131072 * 128) = 0; omega
  | [p, q], hd, _ => rw [mC_2]; show (p * 16777216 + q * 131072) % (1024 * 128) = 0; omega
  | [p, q, u], hd, _ => rw [mC_3]; show (p * 16777216 + q * 131072 + u * 1024) % (8 * 128) = 0; omega
  | _ :: _ :: _ :: _ :: _, _, hl => simp at hl
theorem mC_snoc {L : List Int} {m : Int} (hl : L.length ≤ 3) : mC (L ++ [m]) 0 = mC L 0 + m * bSh L.length := by
  match L, hl with
  | [], _ => simp [mC_1, mC_0, bSh_0]
  | [p], _ => simp [mC_2, mC_1, bSh_1]
  | [p, q], _ => simp [mC_3, mC_2, bSh_2]
  | [p, q, u], _ => simp [mC_4, mC_3, bSh_3]
  | _ :: _ :: _ :: _ :: _, hl => simp at hl
/-- the i-th move of it -/
theorem key_move {nd : Int} {L : List Int} (hd : digs L) (hl : L.length ≤ 4) (hnd : 0 ≤ nd) {i : Nat} {m : Int} (h : L[i]? = some m) : bMv (keyN nd L) i = m := by
  have hlt := (List.getElem?_eq_some_iff.mp h).1
  unfold bMv keyN
  match L, hd, hl, i, h, hlt with
  | [p], hd, _, 0, h, _ => have := hd p (by simp); simp at h; subst h; rw [mC_1]; show (nd * 2147483648 + p * 16777216 + 1) / 16777216 % 128 = p; omega
  | [p, q], hd, _, 0, h, _ => have := hd p (by simp); have := hd q (by simp); simp at h; subst h; rw [mC_2]; show (nd * 2147483648 + (p * 16777216 + q * 131072) + 2) / 16777216 % 128 = p; omega
  | [p, q], hd, _, 1, h, _ => have := hd p (by simp); have := hd q (by simp); simp at h; subst h; rw [mC_2]; show (nd * 2147483648 + (p * 16777216 + q * 131072) + 2) / 131072 % 128 = q; omega
  | [p, q, u], hd, _, 0, h, _ => have := hd p (by simp); have := hd q (by simp); have := hd u (by simp); simp at h; subst h; rw [mC_3]; show (nd * 2147483648 + (p * 16777216 + q * 131072 + u * 1024) + 3) / 16777216 % 128 = p; omega
  | [p, q, u], hd, _, 1, h, _ => have := hd p (by simp); have := hd q (by simp); have := hd u (by simp); simp at h; subst h; rw [mC_3]; show (nd * 2147483648 + (p * 16777216 + q * 131072 + u * 1024) + 3) / 131072 % 128 = q; omega
  | [p, q, u], hd, _, 2, h, _ => have := hd p (by simp); have := hd q (by simp); have := hd u (by simp); simp at h; subst h; rw [mC_3]; show (nd * 2147483648 + (p * 16777216 + q * 131072 + u * 1024) + 3) / 1024 % 128 = u; omega
  | [p, q, u, v], hd, _, 0, h, _ => have := hd p (by simp); have := hd q (by simp); have := hd u (by simp); have := hd v (by simp); simp at h; subst h; rw [mC_4]; show (nd * 2147483648 + (p * 16777216 + q * 131072 + u * 1024 + v * 8) + 4) / 16777216 % 128 = p; omega
  | [p, q, u, v], hd, _, 1, h, _ => have := hd p (by simp); have := hd q (by simp); have := hd u (by simp); have := hd v (by simp); simp at h; subst h; rw [mC_4]; show (nd * 2147483648 + (p * 16777216 + q * 131072 + u * 1024 + v * 8) + 4) / 131072 % 128 = q; omega
  | [p, q, u, v], hd, _, 2, h, _ => have := hd p (by simp); have := hd q (by simp); have := hd u (by simp); have := hd v (by simp); simp at h; subst h; rw [mC_4]; show (nd * 2147483648 + (p * 16777216 + q * 131072 + u * 1024 + v * 8) + 4) / 1024 % 128 = u; omega
  | [p, q, u, v], hd, _, 3, h, _ => have := hd p (by simp); have := hd q (by simp); have := hd u (by simp); have := hd v (by simp); simp at h; subst h; rw [mC_4]; show (nd * 2147483648 + (p * 16777216 + q * 131072 + u * 1024 + v * 8) + 4) / 8 % 128 = v; omega
  | _ :: _ :: _ :: _ :: _ :: _, _, hl, _, _, _ => simp at hl
/-- the order of lists of the same length, place by place -/
def lexL : List Int → List Int → Prop
  | a :: A, b :: B => a < b ∨ (a = b ∧ lexL A B)
  | _, _ => False
theorem lex_tri : ∀ {A B : List Int}, A.length = B.length → A = B ∨ lexL A B ∨ lexL B A
  | [], [], _ => Or.inl rfl
  | a :: A, b :: B, h => by
    have h2 : A.length = B.length := by simpa using h
    rcases Int.lt_trichotomy a b with q | q | q
    · exact Or.inr (Or.inl (Or.inl q))
    · subst q
      rcases lex_tri h2 with z | z | z
      · exact Or.inl (by rw [z])
      · exact Or.inr (Or.inl (Or.inr ⟨rfl, z⟩))
      · exact Or.inr (Or.inr (Or.inr ⟨rfl, z⟩))
    · exact Or.inr (Or.inr (Or.inl q))
theorem lex_key {A B : List Int} (hA : digs A) (hB : digs B) (hl : A.length ≤ 4) (he : A.length = B.length) (h : lexL A B) : mC A 0 < mC B 0 := by
  match A, B, hA, hB, hl, he, h with
  | [p], [p'], hA, hB, _, _, h => have := hA p (by simp); have := hB p' (by simp); simp [lexL] at h; rw [mC_1, mC_1]; omega
  | [p, q], [p', q'], hA, hB, _, _, h => have := hA p (by simp); have := hB p' (by simp); have := hA q (by simp); have := hB q' (by simp); simp [lexL] at h; rw [mC_2, mC_2]; omega
  | [p, q, u], [p', q', u'], hA, hB, _, _, h => have := hA p (by simp); have := hB p' (by simp); have := hA q (by simp); have := hB q' (by simp); have := hA u (by simp); have := hB u' (by simp); simp [lexL] at h; rw [mC_3, mC_3]; omega
  | [p, q, u, v], [p', q', u', v'], hA, hB, _, _, h => have := hA p (by simp); have := hB p' (by simp); have := hA q (by simp); have := hB q' (by simp); have := hA u (by simp); have := hB u' (by simp); have := hA v (by simp); have := hB v' (by simp); simp [lexL] at h; rw [mC_4, mC_4]; omega
  | _ :: _ :: _ :: _ :: _ :: _, _, _, _, hl, _, _ => simp at hl
theorem key_app {P R : List Int} (h : digs (P ++ R)) (hl : (P ++ R).length ≤ 4) : mC P 0 ≤ mC (P ++ R) 0 := by
  match P, R, h, hl with
  | P, [], _, _ => rw [List.append_nil]; exact Int.le_refl _
  | [], R, h, hl => exact (key_rng h hl).1
  | [p], [q], h, _ => have := h q (by simp); rw [mC_1]; show _ ≤ mC [p, q] 0; rw [mC_2]; omega
  | [p], [q, u], h, _ => have := h q (by simp); have := h u (by simp); rw [mC_1]; show _ ≤ mC [p, q, u] 0; rw [mC_3]; omega
  | [p], [q, u, v], h, _ => have := h q (by simp); have := h u (by simp); have := h v (by simp); rw [mC_1]; show _ ≤ mC [p, q, u, v] 0; rw [mC_4]; omega
  | [p, q], [u], h, _ => have := h u (by simp); rw [mC_2]; show _ ≤ mC [p, q, u] 0; rw [mC_3]; omega
  | [p, q], [u, v], h, _ => have := h u (by simp); have := h v (by simp); rw [mC_2]; show _ ≤ mC [p, q, u, v] 0; rw [mC_4]; omega
  | [p, q, u], [v], h, _ => have := h v (by simp); rw [mC_3]; show _ ≤ mC [p, q, u, v] 0; rw [mC_4]; omega
  | [p], _ :: _ :: _ :: _ :: _, _, hl => simp at hl
  | [p, q], _ :: _ :: _ :: _, _, hl => simp at hl
  | [p, q, u], _ :: _ :: _, _, hl => simp at hl
  | _ :: _ :: _ :: _ :: _, _ :: _, _, hl => simp at hl
end PLAN
