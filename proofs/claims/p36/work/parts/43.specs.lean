/-! what a call answers, over the abstract yard; both sides keep it, and it says all -/
def fstF : List Prop → Int → Int → Prop
  | [], _, k => k = 0
  | P :: l, n, k => (¬ P ∧ k = n) ∨ (P ∧ fstF l (n + 1) k)
theorem fstF_det : ∀ {l : List Prop} {n k k' : Int}, fstF l n k → fstF l n k' → k = k'
  | [], n, k, k', h, h' => by
    have h : k = 0 := h
    have h' : k' = 0 := h'
    rw [h, h']
  | P :: l, n, k, k', h, h' => by
    rcases h with ⟨h1, h2⟩ | ⟨h1, h2⟩ <;> rcases h' with ⟨h3, h4⟩ | ⟨h3, h4⟩
    · rw [h2, h4]
    · exact absurd h3 h1
    · exact absurd h1 h3
    · exact fstF_det h2 h4
abbrev anS : Type := Int → qHp → St → Prop
def spc (cs : List Prop) (A : anS) (V : qHp) (S : St) (k r : Int) (V' : qHp) (S' : St) : Prop := fstF cs 1 k ∧ (k = 0 → A r V' S') ∧ (k ≠ 0 → V' = V ∧ S' = S)
def anD (A : anS) : Prop := ∀ r1 V1 S1 r2 V2 S2, A r1 V1 S1 → A r2 V2 S2 → r1 = r2 ∧ V1 = V2 ∧ S1 = S2
theorem spc_det {cs : List Prop} {A : anS} {V V1 V2 : qHp} {S S1 S2 : St} {k1 r1 k2 r2 : Int} (hA : anD A) (h1 : spc cs A V S k1 r1 V1 S1) (h2 : spc cs A V S k2 r2 V2 S2) : k1 = k2 ∧ (k1 = 0 → r1 = r2) ∧ V1 = V2 ∧ S1 = S2 := by
  obtain ⟨a1, a2, a3⟩ := h1
  obtain ⟨b1, b2, b3⟩ := h2
  have e := fstF_det a1 b1
  subst e
  by_cases q : k1 = 0
  · obtain ⟨q1, q2, q3⟩ := hA _ _ _ _ _ _ (a2 q) (b2 q)
    exact ⟨rfl, fun _ => q1, q2, q3⟩
  · obtain ⟨x1, x2⟩ := a3 q
    obtain ⟨y1, y2⟩ := b3 q
    exact ⟨rfl, fun z => absurd z q, by rw [x1, y1], by rw [x2, y2]⟩
/-- one answer, one state behind it -/
def fxA (f : Int) (V : qHp) (S : St) : anS := fun r V' S' => r = f ∧ V' = V ∧ S' = S
theorem fxA_D (f : Int) (V : qHp) (S : St) : anD (fxA f V S) := by
  rintro r1 V1 S1 r2 V2 S2 ⟨a1, a2, a3⟩ ⟨b1, b2, b3⟩
  exact ⟨by rw [a1, b1], by rw [a2, b2], by rw [a3, b3]⟩
/-- nothing changes, and the answer is one -/
def qrA (P : Int → Prop) (V : qHp) (S : St) : anS := fun r V' S' => P r ∧ V' = V ∧ S' = S
theorem qrA_D {P : Int → Prop} {V : qHp} {S : St} (h : ∀ a b, P a → P b → a = b) : anD (qrA P V S) := by
  rintro r1 V1 S1 r2 V2 S2 ⟨a1, a2, a3⟩ ⟨b1, b2, b3⟩
  exact ⟨h _ _ a1 b1, by rw [a2, b2], by rw [a3, b3]⟩
theorem spc_ok {cs : List Prop} {A : anS} {V V' : qHp} {S S' : St} {r : Int} (hc : fstF cs 1 0) (h : A r V' S') : spc cs A V S 0 r V' S' := ⟨hc, fun _ => h, fun q => absurd rfl q⟩
theorem spc_no {cs : List Prop} {A : anS} {V V' : qHp} {S S' : St} {k r : Int} (hk : k ≠ 0) (hc : fstF cs 1 k) (h1 : V' = V) (h2 : S' = S) : spc cs A V S k r V' S' := ⟨hc, fun q => absurd q hk, fun _ => ⟨h1, h2⟩⟩
/-! words over the abstract yard -/
def hgt (S : St) (s : Int) : Int := ((S s).length : Int)
def unS (S : St) (x : Int) : Int := hgt S (soS S x) - 1 - (ixO x (S (soS S x)) : Nat)
def atS (S : St) (s k : Int) : Int := if 0 ≤ k ∧ k < hgt S s then ((S s)[(S s).length - 1 - k.toNat]?).getD (-1) else -1
noncomputable def nBS (S : St) : Int := cntI (fun x => @decide (inS S x) (Classical.propDecidable _)) 20
def bearS (V : qHp) (S : St) (s w : Int) : Prop := ∀ x, (S s).head? = some x → w ≤ V 2 x
def hlA (V : qHp) (x h : Int) : Prop := V 3 x ≠ 45 ∧ h < V 4 x
def frA (V : qHp) (h : Int) : Prop := bkAL V 0 h = -1 ∨ bkAL V 1 h = -1 ∨ bkAL V 2 h = -1
def cnA (V : qHp) (t : Int) : Int := cntI (fun i => decide (V 8 i = t)) (V 0 5).toNat
def isT (V : qHp) (s : Int) : Prop := 0 ≤ s ∧ s < V 0 3
def pshS (S : St) (s x : Int) : St := fun u => if u = s then x :: S s else S u
/-! the calls -/
abbrev sp_addStack (rc : Int) (V : qHp) (S : St) := spc [1 ≤ rc ∧ rc ≤ 4, V 0 3 ≠ 4] (fxA (V 0 3) (qUp (qUp V 0 3 (V 0 3 + 1)) 1 (V 0 3) rc) S) V S
abbrev sp_addBox (w s : Int) (V : qHp) (S : St) := spc [isT V s, 1 ≤ w ∧ w ≤ 30, hgt S s < V 1 s ∧ bearS V S s w, nBS S ≠ 8 ∧ V 0 4 ≠ 20] (fxA (V 0 4) (qUp (qUp V 0 4 (V 0 4 + 1)) 2 (V 0 4) w) (pshS S s (V 0 4))) V S
abbrev sp_boxes (V : qHp) (S : St) := spc [] (fxA (nBS S) V S) V S
abbrev sp_isInYard (x : Int) (V : qHp) (S : St) := spc [] (qrA (fun r => (inS S x ∧ r = 1) ∨ (¬ inS S x ∧ r = 0)) V S) V S
abbrev sp_weight (x : Int) (V : qHp) (S : St) := spc [inS S x] (fxA (V 2 x) V S) V S
abbrev sp_stackOf (x : Int) (V : qHp) (S : St) := spc [inS S x] (fxA (soS S x) V S) V S
abbrev sp_level (x : Int) (V : qHp) (S : St) := spc [inS S x] (fxA (unS S x) V S) V S
abbrev sp_above (x : Int) (V : qHp) (S : St) := spc [inS S x] (fxA (ixO x (S (soS S x)) : Nat) V S) V S
abbrev sp_height (s : Int) (V : qHp) (S : St) := spc [isT V s] (fxA (hgt S s) V S) V S
abbrev sp_boxAt (s k : Int) (V : qHp) (S : St) := spc [isT V s, 0 ≤ k ∧ k < hgt S s] (fxA (atS S s k) V S) V S
abbrev sp_hold (x kd ut : Int) (V : qHp) (S : St) := spc [inS S x, (kd = 112 ∨ kd = 108) ∧ (V 0 0 < ut ∧ ut ≤ 1000)] (fun r V' S' => (((bkAB V x = -1 ∨ ut ≤ V 6 (bkAB V x)) ∧ r = 0 ∧ V' = qUp (qUp V 3 x kd) 4 x ut) ∨ ((bkAB V x ≠ -1 ∧ V 6 (bkAB V x) < ut) ∧ r = 1 ∧ V' = qUp (qUp (qUp V 3 x kd) 4 x ut) 8 (bkAB V x) 103)) ∧ S' = S) V S
abbrev sp_release (x : Int) (V : qHp) (S : St) := spc [inS S x, V 3 x ≠ 45] (fxA (V 4 x) (qUp (qUp V 3 x 45) 4 x 0) S) V S
abbrev sp_holdOf (x : Int) (V : qHp) (S : St) := spc [inS S x] (fxA (V 3 x) V S) V S
abbrev sp_heldUntil (x : Int) (V : qHp) (S : St) := spc [inS S x, V 3 x ≠ 45] (fxA (V 4 x) V S) V S
abbrev sp_pinnedAbove (x : Int) (V : qHp) (S : St) := spc [inS S x] (fxA (cntF (fun i => pinA V (atS S (soS S x) i)) (hgt S (soS S x) - (unS S x + 1)).toNat (unS S x + 1)) V S) V S
def whyA (V : qHp) (S : St) (x s r : Int) : Prop := ((S (soS S x)).head? ≠ some x ∧ r = 116) ∨ ((S (soS S x)).head? = some x ∧ ((V 3 x = 112 ∧ r = 112) ∨ (V 3 x ≠ 112 ∧ ((soS S x = s ∧ r = 115) ∨ (soS S x ≠ s ∧ ((V 1 s ≤ hgt S s ∧ r = 102) ∨ (hgt S s < V 1 s ∧ ((bearS V S s (V 2 x) ∧ r = 45) ∨ (¬ bearS V S s (V 2 x) ∧ r = 119)))))))))
theorem whyA_D {V : qHp} {S : St} {x s a b : Int} (h : whyA V S x s a) (h' : whyA V S x s b) : a = b := by
  rcases h with ⟨p, e⟩ | ⟨p, ⟨q, e⟩ | ⟨q, ⟨u, e⟩ | ⟨u, ⟨v, e⟩ | ⟨v, ⟨w, e⟩ | ⟨w, e⟩⟩⟩⟩⟩ <;> rcases h' with ⟨p', e'⟩ | ⟨p', ⟨q', e'⟩ | ⟨q', ⟨u', e'⟩ | ⟨u', ⟨v', e'⟩ | ⟨v', ⟨w', e'⟩ | ⟨w', e'⟩⟩⟩⟩⟩ <;> first | exact e.trans e'.symm | exact absurd p' p | exact absurd p p' | omega | exact absurd w' w | exact absurd w w'
abbrev sp_why (x s : Int) (V : qHp) (S : St) := spc [inS S x ∧ isT V s] (qrA (whyA V S x s) V S) V S
abbrev sp_move (x s : Int) (V : qHp) (S : St) := spc [inS S x ∧ isT V s, okM (V 0 3) (V 1) (V 2) (pinA V) S (soS S x) s x] (fxA (w32 (V 0 1 + 1)) (qUp V 0 1 (w32 (V 0 1 + 1))) (doM S (soS S x) s x)) V S
abbrev sp_plan (b : Int) (V : qHp) (S : St) := spc [inS S b, ∃ L, leaA V S b L] (qrA (fun r => ∃ L, leaA V S b L ∧ r = (L.length : Int)) V S) V S
abbrev sp_planBox (b i : Int) (V : qHp) (S : St) := spc [inS S b, ∃ L, leaA V S b L ∧ (0 ≤ i ∧ i < (L.length : Int))] (qrA (fun r => ∃ L m, leaA V S b L ∧ L[i.toNat]? = some m ∧ r = m / 4) V S) V S
abbrev sp_planStack (b i : Int) (V : qHp) (S : St) := spc [inS S b, ∃ L, leaA V S b L ∧ (0 ≤ i ∧ i < (L.length : Int))] (qrA (fun r => ∃ L m, leaA V S b L ∧ L[i.toNat]? = some m ∧ r = m % 4) V S) V S
abbrev sp_dig (b : Int) (V : qHp) (S : St) := spc [inS S b, ∃ L, leaA V S b L] (fun r V' S' => ∃ L, leaA V S b L ∧ runA V b L S S' ∧ r = (L.length : Int) ∧ V' = qUp V 0 1 (w32 (V 0 1 + L.length))) V S
abbrev sp_moves (V : qHp) (S : St) := spc [] (fxA (V 0 1) V S) V S
abbrev sp_book (x h l : Int) (V : qHp) (S : St) := spc [inS S x ∧ (0 ≤ l ∧ l ≤ 2), V 0 0 < h ∧ h ≤ 999, ¬ hlA V x h, bkAB V x = -1 ∧ bkAL V l h = -1 ∧ V 0 5 ≠ 30] (fxA (V 0 5) (qUp (qUp (qUp (qUp (qUp V 0 5 (V 0 5 + 1)) 5 (V 0 5) x) 6 (V 0 5) h) 7 (V 0 5) l) 8 (V 0 5) 98) S) V S
abbrev sp_cancel (a : Int) (V : qHp) (S : St) := spc [0 ≤ a ∧ a < V 0 5, V 8 a = 98] (fxA (cnA (qUp V 8 a 99) 98) (qUp V 8 a 99) S) V S
abbrev sp_stateOf (a : Int) (V : qHp) (S : St) := spc [0 ≤ a ∧ a < V 0 5] (fxA (V 8 a) V S) V S
abbrev sp_appointmentOf (x : Int) (V : qHp) (S : St) := spc [inS S x, bkAB V x ≠ -1] (fxA (bkAB V x) V S) V S
abbrev sp_inLane (l h : Int) (V : qHp) (S : St) := spc [0 ≤ l ∧ l ≤ 2, 0 ≤ h ∧ h ≤ 999] (fxA (bkAL V l h) V S) V S
abbrev okH (V : qHp) (x h : Int) : Prop := ¬ hlA V x h ∧ frA V h
abbrev sp_firstHour (x : Int) (V : qHp) (S : St) := spc [inS S x, ∃ j, V 0 0 < j ∧ j ≤ 999 ∧ okH V x j] (qrA (fun r => (V 0 0 < r ∧ okH V x r) ∧ ∀ j, V 0 0 < j → j < r → ¬ okH V x j) V S) V S
abbrev sp_pass (n : Int) (V : qHp) (S : St) := spc [(1 ≤ n ∧ n ≤ 24) ∧ n ≤ 999 - V 0 0] (fun r V' S' => psA n.toNat V S r V' S') V S
abbrev sp_now (V : qHp) (S : St) := spc [] (fxA (V 0 0) V S) V S
abbrev sp_weightLeft (V : qHp) (S : St) := spc [] (fxA (V 0 2) V S) V S
/-! that the answers with a choice in them are one -/
theorem lea_D {V : qHp} {S : St} {b : Int} (hc : V 0 3 ≤ 4) (hr : ∀ t, V 1 t ≤ 4) (hw : wfS (V 0 3) S) : ∀ L L', leaA V S b L → leaA V S b L' → L = L' := fun _ _ => leaA_u hc hr hw
theorem hold_D {V : qHp} {S : St} {x kd ut : Int} : anD (fun r V' S' => (((bkAB V x = -1 ∨ ut ≤ V 6 (bkAB V x)) ∧ r = 0 ∧ V' = qUp (qUp V 3 x kd) 4 x ut) ∨ ((bkAB V x ≠ -1 ∧ V 6 (bkAB V x) < ut) ∧ r = 1 ∧ V' = qUp (qUp (qUp V 3 x kd) 4 x ut) 8 (bkAB V x) 103)) ∧ S' = S) := by
  rintro r1 V1 S1 r2 V2 S2 ⟨⟨a, e, f⟩ | ⟨a, e, f⟩, q⟩ ⟨⟨a', e', f'⟩ | ⟨a', e', f'⟩, q'⟩
  · exact ⟨by rw [e, e'], by rw [f, f'], by rw [q, q']⟩
  · omega
  · omega
  · exact ⟨by rw [e, e'], by rw [f, f'], by rw [q, q']⟩
theorem inY_D {V : qHp} {S : St} {x : Int} : anD (qrA (fun r => (inS S x ∧ r = 1) ∨ (¬ inS S x ∧ r = 0)) V S) := qrA_D (fun a b h h' => by
  rcases h with ⟨p, e⟩ | ⟨p, e⟩ <;> rcases h' with ⟨p', e'⟩ | ⟨p', e'⟩
  · rw [e, e']
  · exact absurd p p'
  · exact absurd p' p
  · rw [e, e'])
theorem why_D {V : qHp} {S : St} {x s : Int} : anD (qrA (whyA V S x s) V S) := qrA_D (fun _ _ => whyA_D)
theorem plan_D {V : qHp} {S : St} {b : Int} (h : ∀ L L', leaA V S b L → leaA V S b L' → L = L') : anD (qrA (fun r => ∃ L, leaA V S b L ∧ r = (L.length : Int)) V S) := qrA_D (by
  rintro a c ⟨L, h1, h2⟩ ⟨L', h1', h2'⟩
  rw [h2, h2', h L L' h1 h1'])
theorem planBox_D {V : qHp} {S : St} {b i : Int} (h : ∀ L L', leaA V S b L → leaA V S b L' → L = L') : anD (qrA (fun r => ∃ L m, leaA V S b L ∧ L[i.toNat]? = some m ∧ r = m / 4) V S) := qrA_D (by
  rintro a c ⟨L, m, h1, h2, h3⟩ ⟨L', m', h1', h2', h3'⟩
  have e := h L L' h1 h1'
  subst e
  rw [h2] at h2'
  have e2 : m = m' := by simpa using h2'
  rw [h3, h3', e2])
theorem planStack_D {V : qHp} {S : St} {b i : Int} (h : ∀ L L', leaA V S b L → leaA V S b L' → L = L') : anD (qrA (fun r => ∃ L m, leaA V S b L ∧ L[i.toNat]? = some m ∧ r = m % 4) V S) := qrA_D (by
  rintro a c ⟨L, m, h1, h2, h3⟩ ⟨L', m', h1', h2', h3'⟩
  have e := h L L' h1 h1'
  subst e
  rw [h2] at h2'
  have e2 : m = m' := by simpa using h2'
  rw [h3, h3', e2])
theorem dig_D {V : qHp} {S : St} {b : Int} (hc : V 0 3 ≤ 4) (hr : ∀ t, V 1 t ≤ 4) (hw : wfS (V 0 3) S) : anD (fun r V' S' => ∃ L, leaA V S b L ∧ runA V b L S S' ∧ r = (L.length : Int) ∧ V' = qUp V 0 1 (w32 (V 0 1 + L.length))) := by
  rintro r1 V1 S1 r2 V2 S2 ⟨L, h1, h2, h3, h4⟩ ⟨L', h1', h2', h3', h4'⟩
  have e := leaA_u hc hr hw h1 h1'
  subst e
  exact ⟨by rw [h3, h3'], by rw [h4, h4'], run_det hc hr hw h2 h2'⟩
theorem firstHour_D {V : qHp} {S : St} {x : Int} : anD (qrA (fun r => (V 0 0 < r ∧ okH V x r) ∧ ∀ j, V 0 0 < j → j < r → ¬ okH V x j) V S) := qrA_D (by
  rintro a b ⟨⟨h1, h2⟩, h3⟩ ⟨⟨h1', h2'⟩, h3'⟩
  by_cases q : a < b
  · exact absurd h2 (h3' a h1 q)
  · by_cases q2 : b < a
    · exact absurd h2' (h3 b h1' q2)
    · omega)
/-- serving, hours, passing: one way -/
theorem srv_D {V V1 V2 : qHp} {S S1 S2 : St} {a r1 r2 : Int} (hc : V 0 3 ≤ 4) (hr : ∀ t, V 1 t ≤ 4) (hw : wfS (V 0 3) S) (h : srvA V S a r1 V1 S1) (h' : srvA V S a r2 V2 S2) : r1 = r2 ∧ V1 = V2 ∧ S1 = S2 := by
  rcases h with ⟨a1, a2, a3, a4⟩ | ⟨a1, a2, a3, a4, a5⟩ | ⟨a1, a2, L, z, a3, a4, a5, a6, a7⟩ <;> rcases h' with ⟨b1, b2, b3, b4⟩ | ⟨b1, b2, b3, b4, b5⟩ | ⟨b1, b2, L', z', b3, b4, b5, b6, b7⟩
  · exact ⟨by rw [a2, b2], by rw [a3, b3], by rw [a4, b4]⟩
  · exact absurd a1 b1
  · exact absurd a1 b1
  · exact absurd b1 a1
  · exact ⟨by rw [a3, b3], by rw [a4, b4], by rw [a5, b5]⟩
  · rcases a2 with q | q
    · exact absurd b2 q
    · exact (leaA_no hw b3 q).elim
  · exact absurd b1 a1
  · rcases b2 with q | q
    · exact absurd a2 q
    · exact (leaA_no hw a3 q).elim
  · have e := leaA_u hc hr hw a3 b3
    subst e
    have e2 := run_det hc hr hw a4 b4
    subst e2
    exact ⟨by rw [a5, b5], by rw [a6, b6], by rw [a7, b7]⟩
/-- what holds of the abstract yard -/
def aOK (V : qHp) (S : St) : Prop := V 0 3 ≤ 4 ∧ (∀ t, V 1 t ≤ 4) ∧ wfS (V 0 3) S ∧ bInv V S
theorem bkL_pre (V : qHp) (l h : Int) : bkAL V l h = -1 ∨ (0 ≤ bkAL V l h ∧ bkAL V l h < V 0 5 ∧ V 8 (bkAL V l h) = 98) := by
  rcases fstB_spec (fun i => decide (V 8 i = 98) && (decide (V 7 i = l) && decide (V 6 i = h))) (V 0 5) with ⟨q, -⟩ | ⟨q1, q2, q3, -⟩
  · exact Or.inl q
  · rw [Bool.and_eq_true] at q3
    exact Or.inr ⟨q1, q2, of_decide_eq_true q3.1⟩
theorem srv_sub {V V' : qHp} {S S' : St} {a r : Int} (O : aOK V S) (h : srvA V S a r V' S') : ∀ x, inS S' x → inS S x := by
  intro x hx
  rcases h with ⟨h1, h2, rfl, rfl⟩ | ⟨h1, h2, h3, rfl, rfl⟩ | ⟨h1, h2, L, z, h3, h4, h5, rfl, rfl⟩
  · exact hx
  · exact hx
  · obtain ⟨u, hu⟩ := hx
    refine (inS_run h4).mp ⟨u, ?_⟩
    unfold tkS at hu
    split at hu
    · exact List.mem_of_mem_tail hu
    · exact hu
theorem srv_O {V V' : qHp} {S S' : St} {l h r : Int} (O : aOK V S) (H : srvA V S (bkAL V l h) r V' S') : aOK V' S' := by
  obtain ⟨o1, o2, o3, o4⟩ := O
  obtain ⟨b1, b2, b3, b4, -⟩ := srv_b o1 o2 o3 o4 (bkL_pre V l h) H
  exact ⟨by rw [b3]; exact o1, by rw [b4]; exact o2, b2, b1⟩
theorem eh_O {V : qHp} {S : St} {h : Int} (O : aOK V S) : aOK (ehA V h) S := by
  obtain ⟨o1, o2, o3, o4⟩ := O
  obtain ⟨b1, b2, b3, -⟩ := bInv_eh (h := h) o4
  exact ⟨by rw [b2]; exact o1, by rw [b3]; exact o2, by rw [b2]; exact o3, b1⟩
theorem ln_O {h : Int} : ∀ {n : Nat} {V V' : qHp} {S S' : St} {r : Int}, aOK V S → lnA h n V S r V' S' → aOK V' S' ∧ ∀ x, inS S' x → inS S x
  | 0, V, V', S, S', r, O, H => by
    obtain ⟨-, rfl, rfl⟩ := H
    exact ⟨O, fun _ q => q⟩
  | n + 1, V, V', S, S', r, O, H => by
    obtain ⟨V1, S1, r1, r2, h1, h2, -⟩ := H
    obtain ⟨O1, s1⟩ := ln_O O h1
    exact ⟨srv_O O1 h2, fun x q => s1 x (srv_sub O1 h2 x q)⟩
theorem ln_D {h : Int} : ∀ {n : Nat} {V V1 V2 : qHp} {S S1 S2 : St} {r1 r2 : Int}, aOK V S → lnA h n V S r1 V1 S1 → lnA h n V S r2 V2 S2 → r1 = r2 ∧ V1 = V2 ∧ S1 = S2
  | 0, V, V1, V2, S, S1, S2, r1, r2, O, H, H' => by
    obtain ⟨a1, a2, a3⟩ := H
    obtain ⟨b1, b2, b3⟩ := H'
    exact ⟨by rw [a1, b1], by rw [a2, b2], by rw [a3, b3]⟩
  | n + 1, V, V1, V2, S, S1, S2, r1, r2, O, H, H' => by
    obtain ⟨W, T, u1, u2, h1, h2, h3⟩ := H
    obtain ⟨W', T', u1', u2', h1', h2', h3'⟩ := H'
    obtain ⟨e1, e2, e3⟩ := ln_D O h1 h1'
    have O1 := (ln_O O h1).1
    subst e2
    subst e3
    obtain ⟨f1, f2, f3⟩ := srv_D O1.1 O1.2.1 O1.2.2.1 h2 h2'
    exact ⟨by rw [h3, h3', e1, f1], f2, f3⟩
theorem ps_O : ∀ {n : Nat} {V V' : qHp} {S S' : St} {r : Int}, aOK V S → psA n V S r V' S' → aOK V' S' ∧ ∀ x, inS S' x → inS S x
  | 0, V, V', S, S', r, O, H => by
    obtain ⟨-, rfl, rfl⟩ := H
    exact ⟨O, fun _ q => q⟩
  | n + 1, V, V', S, S', r, O, H => by
    obtain ⟨V1, S1, r1, r2, h1, h2, -⟩ := H
    obtain ⟨O1, s1⟩ := ps_O O h1
    obtain ⟨O2, s2⟩ := ln_O (eh_O O1) h2
    exact ⟨O2, fun x q => s1 x (s2 x q)⟩
theorem ps_D : ∀ {n : Nat} {V V1 V2 : qHp} {S S1 S2 : St} {r1 r2 : Int}, aOK V S → psA n V S r1 V1 S1 → psA n V S r2 V2 S2 → r1 = r2 ∧ V1 = V2 ∧ S1 = S2
  | 0, V, V1, V2, S, S1, S2, r1, r2, O, H, H' => by
    obtain ⟨a1, a2, a3⟩ := H
    obtain ⟨b1, b2, b3⟩ := H'
    exact ⟨by rw [a1, b1], by rw [a2, b2], by rw [a3, b3]⟩
  | n + 1, V, V1, V2, S, S1, S2, r1, r2, O, H, H' => by
    obtain ⟨W, T, u1, u2, h1, h2, h3⟩ := H
    obtain ⟨W', T', u1', u2', h1', h2', h3'⟩ := H'
    obtain ⟨e1, e2, e3⟩ := ps_D O h1 h1'
    have O1 := (ps_O O h1).1
    subst e2
    subst e3
    obtain ⟨f1, f2, f3⟩ := ln_D (eh_O O1) h2 h2'
    exact ⟨by rw [h3, h3', e1, f1], f2, f3⟩
theorem pass_D {V : qHp} {S : St} {n : Int} (O : aOK V S) : anD (fun r V' S' => psA n.toNat V S r V' S') := fun _ _ _ _ _ _ h h' => ps_D O h h'
