/-! Gate -/
/-- the first index from i on (n steps at most) where p holds, else i + n -/
def fstI (p : Int → Bool) : Nat → Int → Int
  | 0, i => i
  | n + 1, i => bif p i then i else fstI p n (i + 1)
theorem fstI_rng (p : Int → Bool) : ∀ (n : Nat) (i : Int), i ≤ fstI p n i ∧ fstI p n i ≤ i + n
  | 0, i => by simp [fstI]
  | n + 1, i => by
    have h := fstI_rng p n (i + 1)
    unfold fstI
    cases p i <;> simp <;> omega
theorem fstI_hit (p : Int → Bool) : ∀ (n : Nat) (i : Int), fstI p n i < i + n → p (fstI p n i) = true
  | 0, i, h => by simp [fstI] at h
  | n + 1, i, h => by
    unfold fstI at h ⊢
    cases hp : p i with
    | true => simpa [hp] using hp
    | false =>
      rw [hp] at h
      exact fstI_hit p n (i + 1) (by simp at h; omega)
theorem fstI_miss (p : Int → Bool) : ∀ (n : Nat) (i j : Int), i ≤ j → j < fstI p n i → p j = false
  | 0, i, j, h1, h2 => by simp [fstI] at h2; omega
  | n + 1, i, j, h1, h2 => by
    unfold fstI at h2
    cases hp : p i with
    | true => rw [hp] at h2; simp at h2; omega
    | false =>
      rw [hp] at h2
      by_cases e : j = i
      · rw [e]; exact hp
      · exact fstI_miss p n (i + 1) j (by omega) h2
theorem fstI_t {p : Int → Bool} {n : Nat} {i : Int} (h : p i = true) : fstI p (n + 1) i = i := by simp [fstI, h]
theorem fstI_f {p : Int → Bool} {n : Nat} {i : Int} (h : p i = false) : fstI p (n + 1) i = fstI p n (i + 1) := by simp [fstI, h]
/-- the first index below c where p holds, or -1 -/
def fstB (p : Int → Bool) (c : Int) : Int := bif decide (fstI p c.toNat 0 < c) then fstI p c.toNat 0 else -1
theorem fstB_congr {p q : Int → Bool} {c : Int} (h : ∀ i, 0 ≤ i → i < c → p i = q i) : fstB p c = fstB q c := by
  have key : ∀ (n : Nat) (i : Int), 0 ≤ i → i + n ≤ c → fstI p n i = fstI q n i := by
    intro n
    induction n with
    | zero => intro i _ _; rfl
    | succ n ih =>
      intro i h0 h1
      unfold fstI
      rw [h i h0 (by omega), ih (i + 1) (by omega) (by omega)]
  unfold fstB
  by_cases hc : 0 ≤ c
  · rw [key c.toNat 0 (by omega) (by omega)]
  · have : c.toNat = 0 := by omega
    rw [this]
    rfl
theorem fstB_spec (p : Int → Bool) (c : Int) : (fstB p c = -1 ∧ ∀ i, 0 ≤ i → i < c → p i = false) ∨ (0 ≤ fstB p c ∧ fstB p c < c ∧ p (fstB p c) = true ∧ ∀ i, 0 ≤ i → i < fstB p c → p i = false) := by
  unfold fstB
  have h1 := fstI_rng p c.toNat 0
  have h3 := fstI_miss p c.toNat 0
  by_cases h : fstI p c.toNat 0 < c
  · have h2 := fstI_hit p c.toNat 0 (by omega)
    rw [decide_eq_true h]
    exact Or.inr ⟨h1.1, h, h2, fun i a b => h3 i a b⟩
  · rw [decide_eq_false h]
    refine Or.inl ⟨rfl, fun i a b => h3 i a (by omega)⟩
theorem fstB_hit {p : Int → Bool} {c i : Int} (h0 : 0 ≤ i) (h1 : i < c) (hp : p i = true) (hm : fstI p c.toNat 0 = fstI p (c - i).toNat i) : fstB p c = i := by
  have e : (c - i).toNat = ((c - i).toNat - 1) + 1 := by omega
  rw [e, fstI_t hp] at hm
  unfold fstB
  rw [hm, decide_eq_true h1]
  rfl
theorem fstB_none {p : Int → Bool} {c i : Int} (h1 : c ≤ i) (hm : fstI p c.toNat 0 = fstI p (c - i).toNat i) : fstB p c = -1 := by
  have e : (c - i).toNat = 0 := by omega
  rw [e] at hm
  have hm : fstI p c.toNat 0 = i := hm
  unfold fstB
  rw [hm, decide_eq_false (by omega)]
  rfl
theorem fstI_next {p : Int → Bool} {c i : Int} (h1 : i < c) (hp : p i = false) (hm : fstI p c.toNat 0 = fstI p (c - i).toNat i) : fstI p c.toNat 0 = fstI p (c - (i + 1)).toNat (i + 1) := by
  have e : (c - i).toNat = (c - (i + 1)).toNat + 1 := by omega
  rw [e, fstI_f hp] at hm
  exact hm
/-- how many below n -/
def cntI (p : Int → Bool) : Nat → Int
  | 0 => 0
  | n + 1 => cntI p n + (bif p n then 1 else 0)
theorem cntI_rng (p : Int → Bool) : ∀ n : Nat, 0 ≤ cntI p n ∧ cntI p n ≤ n
  | 0 => by simp [cntI]
  | n + 1 => by
    have h := cntI_rng p n
    unfold cntI
    cases p n <;> simp <;> omega
theorem cntI_congr {p q : Int → Bool} : ∀ {n : Nat}, (∀ i : Int, 0 ≤ i → i < n → p i = q i) → cntI p n = cntI q n
  | 0, _ => rfl
  | n + 1, h => by
    unfold cntI
    rw [cntI_congr (n := n) (fun i a b => h i a (by omega)), h n (by omega) (by omega)]
theorem cntI_t {p : Int → Bool} {i : Int} (h0 : 0 ≤ i) (hp : p i = true) : cntI p (i + 1).toNat = cntI p i.toNat + 1 := by
  have e : (i + 1).toNat = i.toNat + 1 := by omega
  have e2 : ((i.toNat : Nat) : Int) = i := by omega
  rw [e]
  show cntI p i.toNat + _ = _
  rw [e2, hp]
  rfl
theorem cntI_f {p : Int → Bool} {i : Int} (h0 : 0 ≤ i) (hp : p i = false) : cntI p (i + 1).toNat = cntI p i.toNat := by
  have e : (i + 1).toNat = i.toNat + 1 := by omega
  have e2 : ((i.toNat : Nat) : Int) = i := by omega
  rw [e]
  show cntI p i.toNat + _ = _
  rw [e2, hp]
  simp
def bkB (g : qHp) (b : Int) : Int → Bool := fun i => decide (g 22 i = 98) && decide (g 19 i = b)
def bkL (g : qHp) (lane hour : Int) : Int → Bool := fun i => decide (g 22 i = 98) && (decide (g 21 i = lane) && decide (g 20 i = hour))
def stN (g : qHp) (t : Int) : Int → Bool := fun i => decide (g 22 i = t)
set_option maxRecDepth 20000 in
theorem KX1_count (g : qHp)  : qC yX1_count (.code yX1_count cX1_count 1 (some .int)) 0 0 (fun ad => [.ref (ad 18)]) g (qPi (fun (r : Int) (g' : qHp) => (r = g 18 4) ∧ g' = g)) qNo := by
  refine q_meth (by decide +kernel) rfl (fun _ => (Nat.le_of_ble_eq_true rfl)) (fun X ω C => ?_)
  refine q_loc [(0, .ref (ω.1 18))] ⟨rfl, trivial⟩ ?_
  refine q_aload_n C 0 dX1_count_0 rfl rfl ?_
  refine q_geti C (b := 18) 4 4 0 30 rfl (by decide) rfl in_X1 (by decide) fl_X1_25 rfl rfl rfl dX1_count_1 (fun v1 e1 l1 u1 => ?_)
  subst e1
  exact q_iretI C dX1_count_4 (by omega) (by decide) (⟨by omega, rfl⟩)
set_option maxRecDepth 20000 in
theorem KX1_has (g : qHp) (a : Int) (ha : -2147483648 ≤ a ∧ a < 2147483648)  : qC yX1_has (.code yX1_has cX1_has 2 (some .boolean)) 0 0 (fun ad => [.ref (ad 18), .int (iI a)]) g (qPi (fun (r : Int) (g' : qHp) => (((0 ≤ a ∧ a < g 18 4) ∧ r = 1) ∨ (¬ (0 ≤ a ∧ a < g 18 4) ∧ r = 0)) ∧ g' = g)) qNo := by
  refine q_meth (by decide +kernel) rfl (fun _ => (Nat.le_of_ble_eq_true rfl)) (fun X ω C => ?_)
  refine q_loc [(0, .ref (ω.1 18)), (1, .int (iI a))] ⟨rfl, rfl, trivial⟩ ?_
  refine q_iload_n C 1 dX1_has_0 rfl rfl ?_
  refine q_iflt C 16 dX1_has_1 (by decide) (by omega) (fun c1 => ?_) (fun c1 => ?_)
  · refine q_iconst C dX1_has_16 ?_
    exact q_iretZ C dX1_has_17 (by omega) (by decide) (⟨by omega, rfl⟩)
  · refine q_iload_n C 1 dX1_has_4 rfl rfl ?_
    refine q_aload_n C 0 dX1_has_5 rfl rfl ?_
    refine q_geti C (b := 18) 4 4 0 30 rfl (by decide) rfl in_X1 (by decide) fl_X1_25 rfl rfl rfl dX1_has_6 (fun v6 e6 l6 u6 => ?_)
    refine q_icmp_ge C 16 dX1_has_9 (by decide) (by omega) (by omega) (fun c9 => ?_) (fun c9 => ?_)
    · refine q_iconst C dX1_has_16 ?_
      subst e6
      exact q_iretZ C dX1_has_17 (by omega) (by decide) (⟨by omega, rfl⟩)
    · refine q_iconst C dX1_has_12 ?_
      refine q_goto C 17 dX1_has_13 (by decide) ?_
      subst e6
      exact q_iretZ C dX1_has_17 (by omega) (by decide) (⟨by omega, rfl⟩)
set_option maxRecDepth 20000 in
theorem KX1_boxOf (g : qHp) (a : Int) (ha : -2147483648 ≤ a ∧ a < 2147483648)  : qC yX1_boxOf (.code yX1_boxOf cX1_boxOf 2 (some .int)) 1 0 (fun ad => [.ref (ad 18), .int (iI a)]) g (qPi (fun (r : Int) (g' : qHp) => (((0 ≤ a ∧ a < g 18 4) ∧ r = g 19 a) ∨ (¬ (0 ≤ a ∧ a < g 18 4) ∧ r = -1)) ∧ g' = g)) qNo := by
  refine q_meth (by decide +kernel) rfl (fun _ => (Nat.le_of_ble_eq_true rfl)) (fun X ω C => ?_)
  refine q_nm (fun hn => ?_)
  have r18_4 : 0 ≤ g 18 4 ∧ g 18 4 ≤ 30 := hn 18 4
  refine q_loc [(0, .ref (ω.1 18)), (1, .int (iI a))] ⟨rfl, rfl, trivial⟩ ?_
  refine q_aload_n C 0 dX1_boxOf_0 rfl rfl ?_
  refine q_iload_n C 1 dX1_boxOf_1 rfl rfl ?_
  refine q_Vf0 C (KX1_has _ _ (by omega)) mX1_has ml_X1_29 dX1_boxOf_2 (by decide) (by decide) rfl rfl rfl (Nat.le_of_ble_eq_true rfl) rfl (by decide) rfl rfl (fun v2 l2 u2 h2 => ?_)
  refine q_ifeq C 17 dX1_boxOf_5 (by decide) (by omega) (fun c5 => ?_) (fun c5 => ?_)
  · refine q_iconst C dX1_boxOf_17 ?_
    exact q_iretI C dX1_boxOf_18 (by omega) (by decide) (⟨by omega, rfl⟩)
  · refine q_aload_n C 0 dX1_boxOf_8 rfl rfl ?_
    refine q_getr C (b := 18) 0 rfl (by decide) rfl in_X1 (by decide) fl_X1_9 rfl dX1_boxOf_9 ?_
    refine q_iload_n C 1 dX1_boxOf_12 rfl rfl ?_
    refine q_iald C (b := 19) (n := 30) 0 19 rfl (by decide) (by decide) (by omega) (fun _ => rfl) dX1_boxOf_13 (fun v13 e13 l13 u13 => ?_)
    refine q_goto C 18 dX1_boxOf_14 (by decide) ?_
    subst e13
    exact q_iretI C dX1_boxOf_18 (by omega) (by decide) (⟨by omega, rfl⟩)
set_option maxRecDepth 20000 in
theorem KX1_hourOf (g : qHp) (a : Int) (ha : -2147483648 ≤ a ∧ a < 2147483648)  : qC yX1_hourOf (.code yX1_hourOf cX1_hourOf 2 (some .int)) 1 0 (fun ad => [.ref (ad 18), .int (iI a)]) g (qPi (fun (r : Int) (g' : qHp) => (((0 ≤ a ∧ a < g 18 4) ∧ r = g 20 a) ∨ (¬ (0 ≤ a ∧ a < g 18 4) ∧ r = -1)) ∧ g' = g)) qNo := by
  refine q_meth (by decide +kernel) rfl (fun _ => (Nat.le_of_ble_eq_true rfl)) (fun X ω C => ?_)
  refine q_nm (fun hn => ?_)
  have r18_4 : 0 ≤ g 18 4 ∧ g 18 4 ≤ 30 := hn 18 4
  refine q_loc [(0, .ref (ω.1 18)), (1, .int (iI a))] ⟨rfl, rfl, trivial⟩ ?_
  refine q_aload_n C 0 dX1_hourOf_0 rfl rfl ?_
  refine q_iload_n C 1 dX1_hourOf_1 rfl rfl ?_
  refine q_Vf0 C (KX1_has _ _ (by omega)) mX1_has ml_X1_29 dX1_hourOf_2 (by decide) (by decide) rfl rfl rfl (Nat.le_of_ble_eq_true rfl) rfl (by decide) rfl rfl (fun v2 l2 u2 h2 => ?_)
  refine q_ifeq C 17 dX1_hourOf_5 (by decide) (by omega) (fun c5 => ?_) (fun c5 => ?_)
  · refine q_iconst C dX1_hourOf_17 ?_
    exact q_iretI C dX1_hourOf_18 (by omega) (by decide) (⟨by omega, rfl⟩)
  · refine q_aload_n C 0 dX1_hourOf_8 rfl rfl ?_
    refine q_getr C (b := 18) 1 rfl (by decide) rfl in_X1 (by decide) fl_X1_15 rfl dX1_hourOf_9 ?_
    refine q_iload_n C 1 dX1_hourOf_12 rfl rfl ?_
    refine q_iald C (b := 20) (n := 30) 0 999 rfl (by decide) (by decide) (by omega) (fun _ => rfl) dX1_hourOf_13 (fun v13 e13 l13 u13 => ?_)
    refine q_goto C 18 dX1_hourOf_14 (by decide) ?_
    subst e13
    exact q_iretI C dX1_hourOf_18 (by omega) (by decide) (⟨by omega, rfl⟩)
set_option maxRecDepth 20000 in
theorem KX1_state (g : qHp) (a : Int) (ha : -2147483648 ≤ a ∧ a < 2147483648)  : qC yX1_state (.code yX1_state cX1_state 2 (some .char)) 1 0 (fun ad => [.ref (ad 18), .int (iI a)]) g (qPi (fun (r : Int) (g' : qHp) => (((0 ≤ a ∧ a < g 18 4) ∧ r = g 22 a) ∨ (¬ (0 ≤ a ∧ a < g 18 4) ∧ r = 99)) ∧ g' = g)) qNo := by
  refine q_meth (by decide +kernel) rfl (fun _ => (Nat.le_of_ble_eq_true rfl)) (fun X ω C => ?_)
  refine q_nm (fun hn => ?_)
  have r18_4 : 0 ≤ g 18 4 ∧ g 18 4 ≤ 30 := hn 18 4
  refine q_loc [(0, .ref (ω.1 18)), (1, .int (iI a))] ⟨rfl, rfl, trivial⟩ ?_
  refine q_aload_n C 0 dX1_state_0 rfl rfl ?_
  refine q_iload_n C 1 dX1_state_1 rfl rfl ?_
  refine q_Vf0 C (KX1_has _ _ (by omega)) mX1_has ml_X1_29 dX1_state_2 (by decide) (by decide) rfl rfl rfl (Nat.le_of_ble_eq_true rfl) rfl (by decide) rfl rfl (fun v2 l2 u2 h2 => ?_)
  refine q_ifeq C 17 dX1_state_5 (by decide) (by omega) (fun c5 => ?_) (fun c5 => ?_)
  · refine q_bipush C dX1_state_17 (by decide +kernel) ?_
    exact q_iretC C dX1_state_19 (by omega) (by decide) (⟨by omega, rfl⟩)
  · refine q_aload_n C 0 dX1_state_8 rfl rfl ?_
    refine q_getr C (b := 18) 3 rfl (by decide) rfl in_X1 (by decide) fl_X1_21 rfl dX1_state_9 ?_
    refine q_iload_n C 1 dX1_state_12 rfl rfl ?_
    refine q_cald C (b := 22) (n := 30) 0 65535 rfl (by decide) (by decide) (by omega) (fun _ => rfl) dX1_state_13 (fun v13 e13 l13 u13 => ?_)
    refine q_goto C 19 dX1_state_14 (by decide) ?_
    subst e13
    exact q_iretC C dX1_state_19 (by omega) (by decide) (⟨by omega, rfl⟩)
set_option maxRecDepth 20000 in
theorem KX1_turn (g : qHp) (a : Int) (ha : -2147483648 ≤ a ∧ a < 2147483648) (t : Int) (ht : -2147483648 ≤ t ∧ t < 2147483648) (ht2 : 0 ≤ t ∧ t < 65536) : qC yX1_turn (.code yX1_turn cX1_turn 3 none) 1 0 (fun ad => [.ref (ad 18), .int (iI a), .int (iI t)]) g (qPv (fun g' : qHp => g' = (if 0 ≤ a ∧ a < g 18 4 then qUp g 22 a t else g))) qNo := by
  refine q_meth (by decide +kernel) rfl (fun _ => (Nat.le_of_ble_eq_true rfl)) (fun X ω C => ?_)
  refine q_nm (fun hn => ?_)
  have r18_4 : 0 ≤ g 18 4 ∧ g 18 4 ≤ 30 := hn 18 4
  refine q_loc [(0, .ref (ω.1 18)), (1, .int (iI a)), (2, .int (iI t))] ⟨rfl, rfl, rfl, trivial⟩ ?_
  refine q_aload_n C 0 dX1_turn_0 rfl rfl ?_
  refine q_iload_n C 1 dX1_turn_1 rfl rfl ?_
  refine q_Vf0 C (KX1_has _ _ (by omega)) mX1_has ml_X1_29 dX1_turn_2 (by decide) (by decide) rfl rfl rfl (Nat.le_of_ble_eq_true rfl) rfl (by decide) rfl rfl (fun v2 l2 u2 h2 => ?_)
  refine q_ifeq C 15 dX1_turn_5 (by decide) (by omega) (fun c5 => ?_) (fun c5 => ?_)
  · exact q_retV C dX1_turn_15 (by decide) (by first | rw [if_pos (by omega)] | rw [if_neg (by omega)])
  · refine q_aload_n C 0 dX1_turn_8 rfl rfl ?_
    refine q_getr C (b := 18) 3 rfl (by decide) rfl in_X1 (by decide) fl_X1_21 rfl dX1_turn_9 ?_
    refine q_iload_n C 1 dX1_turn_12 rfl rfl ?_
    refine q_iload_n C 2 dX1_turn_13 rfl rfl ?_
    refine q_cast C (b := 22) (n := 30) rfl (by decide) (by decide) (by omega) (by omega) (show 0 ≤ _ ∧ _ ≤ 65535 from (by omega)) dX1_turn_14 ?_
    exact q_retV C dX1_turn_15 (by decide) (by first | rw [if_pos (by omega)] | rw [if_neg (by omega)])
set_option maxRecDepth 20000 in
theorem KX1_bookedFor (g : qHp) (b : Int) (hb : -2147483648 ≤ b ∧ b < 2147483648)  : qC yX1_bookedFor (.code yX1_bookedFor cX1_bookedFor 3 (some .int)) 0 0 (fun ad => [.ref (ad 18), .int (iI b)]) g (qPi (fun (r : Int) (g' : qHp) => (r = fstB (bkB g b) (g 18 4)) ∧ g' = g)) qNo := by
  refine q_meth (by decide +kernel) rfl (fun _ => (Nat.le_of_ble_eq_true rfl)) (fun X ω C => ?_)
  refine q_nm (fun hn => ?_)
  have r18_4 : 0 ≤ g 18 4 ∧ g 18 4 ≤ 30 := hn 18 4
  refine q_loc [(0, .ref (ω.1 18)), (1, .int (iI b))] ⟨rfl, rfl, trivial⟩ ?_
  refine q_iconst C dX1_bookedFor_0 ?_
  refine q_istoreV_n C 2 dX1_bookedFor_1 rfl (by decide) (fun v1 e1 => ?_)
  have loop : ∀ (n : Nat) (i : Int), ((g 18 4 - i) < (n : Int)) → (0 ≤ i) → (i ≤ g 18 4) → (fstI (bkB g b) (g 18 4).toNat 0 = fstI (bkB g b) (g 18 4 - i).toNat i) → qT X ω 3 0 (qEnd X ω (qPi (fun (r : Int) (g' : qHp) => (r = fstB (bkB g b) (g 18 4)) ∧ g' = g)) qNo 0) g 2 [(0, .ref (ω.1 18)), (1, .int (iI b)), (2, .int (iI i))] [] := by
    intro n
    induction n with
    | zero => intro i hm hi hi2 hm2; exfalso; omega
    | succ n ih =>
      intro i hm hi hi2 hm2
      refine q_iload_n C 2 dX1_bookedFor_2 rfl rfl ?_
      refine q_aload_n C 0 dX1_bookedFor_3 rfl rfl ?_
      refine q_geti C (b := 18) 4 4 0 30 rfl (by decide) rfl in_X1 (by decide) fl_X1_25 rfl rfl rfl dX1_bookedFor_4 (fun v4 e4 l4 u4 => ?_)
      refine q_icmp_ge C 39 dX1_bookedFor_7 (by decide) (by omega) (by omega) (fun c7 => ?_) (fun c7 => ?_)
      · refine q_iconst C dX1_bookedFor_39 ?_
        subst e4
        exact q_iretI C dX1_bookedFor_40 (by omega) (by decide) ⟨(fstB_none (p := bkB g b) (by assumption) hm2).symm, rfl⟩
      · refine q_aload_n C 0 dX1_bookedFor_10 rfl rfl ?_
        refine q_getr C (b := 18) 3 rfl (by decide) rfl in_X1 (by decide) fl_X1_21 rfl dX1_bookedFor_11 ?_
        refine q_iload_n C 2 dX1_bookedFor_14 rfl rfl ?_
        refine q_cald C (b := 22) (n := 30) 0 65535 rfl (by decide) (by decide) (by omega) (fun _ => rfl) dX1_bookedFor_15 (fun v15 e15 l15 u15 => ?_)
        refine q_bipush C dX1_bookedFor_16 (by decide +kernel) ?_
        refine q_icmp_ne C 33 dX1_bookedFor_18 (by decide) (by omega) (by omega) (fun c18 => ?_) (fun c18 => ?_)
        · refine q_iinc C dX1_bookedFor_33 rfl (by decide) (fun v33 e33 => ?_)
          refine q_goto C 2 dX1_bookedFor_36 (by decide) ?_
          refine q_loc [(0, .ref (ω.1 18)), (1, .int (iI b)), (2, .int (iI v33))] ⟨rfl, rfl, rfl, trivial⟩ ?_
          exact ih v33 (by omega) (by omega) (by omega) (by subst e33 e15 e4; exact fstI_next (p := bkB g b) (by assumption) (by simp [bkB, bkL, *]) hm2)
        · refine q_aload_n C 0 dX1_bookedFor_21 rfl rfl ?_
          refine q_getr C (b := 18) 0 rfl (by decide) rfl in_X1 (by decide) fl_X1_9 rfl dX1_bookedFor_22 ?_
          refine q_iload_n C 2 dX1_bookedFor_25 rfl rfl ?_
          refine q_iald C (b := 19) (n := 30) 0 19 rfl (by decide) (by decide) (by omega) (fun _ => rfl) dX1_bookedFor_26 (fun v26 e26 l26 u26 => ?_)
          refine q_iload_n C 1 dX1_bookedFor_27 rfl rfl ?_
          refine q_icmp_ne C 33 dX1_bookedFor_28 (by decide) (by omega) (by omega) (fun c28 => ?_) (fun c28 => ?_)
          · refine q_iinc C dX1_bookedFor_33 rfl (by decide) (fun v33 e33 => ?_)
            refine q_goto C 2 dX1_bookedFor_36 (by decide) ?_
            refine q_loc [(0, .ref (ω.1 18)), (1, .int (iI b)), (2, .int (iI v33))] ⟨rfl, rfl, rfl, trivial⟩ ?_
            exact ih v33 (by omega) (by omega) (by omega) (by subst e33 e26 e15 e4; exact fstI_next (p := bkB g b) (by assumption) (by simp [bkB, bkL, *]) hm2)
          · refine q_iload_n C 2 dX1_bookedFor_31 rfl rfl ?_
            subst e26 e15 e4
            exact q_iretI C dX1_bookedFor_32 (by omega) (by decide) ⟨(fstB_hit (p := bkB g b) hi (by assumption) (by simp [bkB, bkL, *]) hm2).symm, rfl⟩
  refine q_loc [(0, .ref (ω.1 18)), (1, .int (iI b)), (2, .int (iI v1))] ⟨rfl, rfl, rfl, trivial⟩ ?_
  exact loop ((g 18 4 - v1).toNat + 1) v1 (by omega) (by omega) (by omega) (by rw [e1, Int.sub_zero])
set_option maxRecDepth 20000 in
theorem KX1_bookedAt (g : qHp) (lane : Int) (hlane : -2147483648 ≤ lane ∧ lane < 2147483648) (hour : Int) (hhour : -2147483648 ≤ hour ∧ hour < 2147483648)  : qC yX1_bookedAt (.code yX1_bookedAt cX1_bookedAt 4 (some .int)) 0 0 (fun ad => [.ref (ad 18), .int (iI lane), .int (iI hour)]) g (qPi (fun (r : Int) (g' : qHp) => (r = fstB (bkL g lane hour) (g 18 4)) ∧ g' = g)) qNo := by
  refine q_meth (by decide +kernel) rfl (fun _ => (Nat.le_of_ble_eq_true rfl)) (fun X ω C => ?_)
  refine q_nm (fun hn => ?_)
  have r18_4 : 0 ≤ g 18 4 ∧ g 18 4 ≤ 30 := hn 18 4
  refine q_loc [(0, .ref (ω.1 18)), (1, .int (iI lane)), (2, .int (iI hour))] ⟨rfl, rfl, rfl, trivial⟩ ?_
  refine q_iconst C dX1_bookedAt_0 ?_
  refine q_istoreV_n C 3 dX1_bookedAt_1 rfl (by decide) (fun v1 e1 => ?_)
  have loop : ∀ (n : Nat) (i : Int), ((g 18 4 - i) < (n : Int)) → (0 ≤ i) → (i ≤ g 18 4) → (fstI (bkL g lane hour) (g 18 4).toNat 0 = fstI (bkL g lane hour) (g 18 4 - i).toNat i) → qT X ω 4 0 (qEnd X ω (qPi (fun (r : Int) (g' : qHp) => (r = fstB (bkL g lane hour) (g 18 4)) ∧ g' = g)) qNo 0) g 2 [(0, .ref (ω.1 18)), (1, .int (iI lane)), (2, .int (iI hour)), (3, .int (iI i))] [] := by
    intro n
    induction n with
    | zero => intro i hm hi hi2 hm2; exfalso; omega
    | succ n ih =>
      intro i hm hi hi2 hm2
      refine q_iload_n C 3 dX1_bookedAt_2 rfl rfl ?_
      refine q_aload_n C 0 dX1_bookedAt_3 rfl rfl ?_
      refine q_geti C (b := 18) 4 4 0 30 rfl (by decide) rfl in_X1 (by decide) fl_X1_25 rfl rfl rfl dX1_bookedAt_4 (fun v4 e4 l4 u4 => ?_)
      refine q_icmp_ge C 49 dX1_bookedAt_7 (by decide) (by omega) (by omega) (fun c7 => ?_) (fun c7 => ?_)
      · refine q_iconst C dX1_bookedAt_49 ?_
        subst e4
        exact q_iretI C dX1_bookedAt_50 (by omega) (by decide) ⟨(fstB_none (p := bkL g lane hour) (by assumption) hm2).symm, rfl⟩
      · refine q_aload_n C 0 dX1_bookedAt_10 rfl rfl ?_
        refine q_getr C (b := 18) 3 rfl (by decide) rfl in_X1 (by decide) fl_X1_21 rfl dX1_bookedAt_11 ?_
        refine q_iload_n C 3 dX1_bookedAt_14 rfl rfl ?_
        refine q_cald C (b := 22) (n := 30) 0 65535 rfl (by decide) (by decide) (by omega) (fun _ => rfl) dX1_bookedAt_15 (fun v15 e15 l15 u15 => ?_)
        refine q_bipush C dX1_bookedAt_16 (by decide +kernel) ?_
        refine q_icmp_ne C 43 dX1_bookedAt_18 (by decide) (by omega) (by omega) (fun c18 => ?_) (fun c18 => ?_)
        · refine q_iinc C dX1_bookedAt_43 rfl (by decide) (fun v43 e43 => ?_)
          refine q_goto C 2 dX1_bookedAt_46 (by decide) ?_
          refine q_loc [(0, .ref (ω.1 18)), (1, .int (iI lane)), (2, .int (iI hour)), (3, .int (iI v43))] ⟨rfl, rfl, rfl, rfl, trivial⟩ ?_
          exact ih v43 (by omega) (by omega) (by omega) (by subst e43 e15 e4; exact fstI_next (p := bkL g lane hour) (by assumption) (by simp [bkB, bkL, *]) hm2)
        · refine q_aload_n C 0 dX1_bookedAt_21 rfl rfl ?_
          refine q_getr C (b := 18) 2 rfl (by decide) rfl in_X1 (by decide) fl_X1_18 rfl dX1_bookedAt_22 ?_
          refine q_iload_n C 3 dX1_bookedAt_25 rfl rfl ?_
          refine q_iald C (b := 21) (n := 30) 0 2 rfl (by decide) (by decide) (by omega) (fun _ => rfl) dX1_bookedAt_26 (fun v26 e26 l26 u26 => ?_)
          refine q_iload_n C 1 dX1_bookedAt_27 rfl rfl ?_
          refine q_icmp_ne C 43 dX1_bookedAt_28 (by decide) (by omega) (by omega) (fun c28 => ?_) (fun c28 => ?_)
          · refine q_iinc C dX1_bookedAt_43 rfl (by decide) (fun v43 e43 => ?_)
            refine q_goto C 2 dX1_bookedAt_46 (by decide) ?_
            refine q_loc [(0, .ref (ω.1 18)), (1, .int (iI lane)), (2, .int (iI hour)), (3, .int (iI v43))] ⟨rfl, rfl, rfl, rfl, trivial⟩ ?_
            exact ih v43 (by omega) (by omega) (by omega) (by subst e43 e26 e15 e4; exact fstI_next (p := bkL g lane hour) (by assumption) (by simp [bkB, bkL, *]) hm2)
          · refine q_aload_n C 0 dX1_bookedAt_31 rfl rfl ?_
            refine q_getr C (b := 18) 1 rfl (by decide) rfl in_X1 (by decide) fl_X1_15 rfl dX1_bookedAt_32 ?_
            refine q_iload_n C 3 dX1_bookedAt_35 rfl rfl ?_
            refine q_iald C (b := 20) (n := 30) 0 999 rfl (by decide) (by decide) (by omega) (fun _ => rfl) dX1_bookedAt_36 (fun v36 e36 l36 u36 => ?_)
            refine q_iload_n C 2 dX1_bookedAt_37 rfl rfl ?_
            refine q_icmp_ne C 43 dX1_bookedAt_38 (by decide) (by omega) (by omega) (fun c38 => ?_) (fun c38 => ?_)
            · refine q_iinc C dX1_bookedAt_43 rfl (by decide) (fun v43 e43 => ?_)
              refine q_goto C 2 dX1_bookedAt_46 (by decide) ?_
              refine q_loc [(0, .ref (ω.1 18)), (1, .int (iI lane)), (2, .int (iI hour)), (3, .int (iI v43))] ⟨rfl, rfl, rfl, rfl, trivial⟩ ?_
              exact ih v43 (by omega) (by omega) (by omega) (by subst e43 e36 e26 e15 e4; exact fstI_next (p := bkL g lane hour) (by assumption) (by simp [bkB, bkL, *]) hm2)
            · refine q_iload_n C 3 dX1_bookedAt_41 rfl rfl ?_
              subst e36 e26 e15 e4
              exact q_iretI C dX1_bookedAt_42 (by omega) (by decide) ⟨(fstB_hit (p := bkL g lane hour) hi (by assumption) (by simp [bkB, bkL, *]) hm2).symm, rfl⟩
  refine q_loc [(0, .ref (ω.1 18)), (1, .int (iI lane)), (2, .int (iI hour)), (3, .int (iI v1))] ⟨rfl, rfl, rfl, rfl, trivial⟩ ?_
  exact loop ((g 18 4 - v1).toNat + 1) v1 (by omega) (by omega) (by omega) (by rw [e1, Int.sub_zero])
set_option maxRecDepth 20000 in
theorem KX1_hasFreeLane (g : qHp) (hour : Int) (hhour : -2147483648 ≤ hour ∧ hour < 2147483648)  : qC yX1_hasFreeLane (.code yX1_hasFreeLane cX1_hasFreeLane 3 (some .boolean)) 1 0 (fun ad => [.ref (ad 18), .int (iI hour)]) g (qPi (fun (r : Int) (g' : qHp) => ((r = 1 ∧ (fstB (bkL g 0 hour) (g 18 4) = -1 ∨ fstB (bkL g 1 hour) (g 18 4) = -1 ∨ fstB (bkL g 2 hour) (g 18 4) = -1)) ∨ (r = 0 ∧ fstB (bkL g 0 hour) (g 18 4) ≠ -1 ∧ fstB (bkL g 1 hour) (g 18 4) ≠ -1 ∧ fstB (bkL g 2 hour) (g 18 4) ≠ -1)) ∧ g' = g)) qNo := by
  refine q_meth (by decide +kernel) rfl (fun _ => (Nat.le_of_ble_eq_true rfl)) (fun X ω C => ?_)
  refine q_loc [(0, .ref (ω.1 18)), (1, .int (iI hour))] ⟨rfl, rfl, trivial⟩ ?_
  refine q_iconst C dX1_hasFreeLane_0 ?_
  refine q_istoreV_n C 2 dX1_hasFreeLane_1 rfl (by decide) (fun v1 e1 => ?_)
  have loop : ∀ (n : Nat) (i : Int), ((3 - i) < (n : Int)) → (0 ≤ i) → (i ≤ 3) → (∀ j, 0 ≤ j → j < i → fstB (bkL g j hour) (g 18 4) ≠ -1) → qT X ω 3 0 (qEnd X ω (qPi (fun (r : Int) (g' : qHp) => ((r = 1 ∧ (fstB (bkL g 0 hour) (g 18 4) = -1 ∨ fstB (bkL g 1 hour) (g 18 4) = -1 ∨ fstB (bkL g 2 hour) (g 18 4) = -1)) ∨ (r = 0 ∧ fstB (bkL g 0 hour) (g 18 4) ≠ -1 ∧ fstB (bkL g 1 hour) (g 18 4) ≠ -1 ∧ fstB (bkL g 2 hour) (g 18 4) ≠ -1)) ∧ g' = g)) qNo 0) g 2 [(0, .ref (ω.1 18)), (1, .int (iI hour)), (2, .int (iI i))] [] := by
    intro n
    induction n with
    | zero => intro i hm hi hi2 hm2; exfalso; omega
    | succ n ih =>
      intro i hm hi hi2 hm2
      refine q_iload_n C 2 dX1_hasFreeLane_2 rfl rfl ?_
      refine q_iconst C dX1_hasFreeLane_3 ?_
      refine q_icmp_ge C 25 dX1_hasFreeLane_4 (by decide) (by omega) (by omega) (fun c4 => ?_) (fun c4 => ?_)
      · refine q_iconst C dX1_hasFreeLane_25 ?_
        have h0 := hm2 0 (by omega) (by omega)
        have h1 := hm2 1 (by omega) (by omega)
        have h2 := hm2 2 (by omega) (by omega)
        exact q_iretZ C dX1_hasFreeLane_26 (by omega) (by decide) ⟨by omega, rfl⟩
      · refine q_aload_n C 0 dX1_hasFreeLane_7 rfl rfl ?_
        refine q_iload_n C 2 dX1_hasFreeLane_8 rfl rfl ?_
        refine q_iload_n C 1 dX1_hasFreeLane_9 rfl rfl ?_
        refine q_Vf0 C (KX1_bookedAt _ _ (by omega) _ (by omega)) mX1_bookedAt ml_X1_33 dX1_hasFreeLane_10 (by decide) (by decide) rfl rfl rfl (Nat.le_of_ble_eq_true rfl) rfl (by decide) rfl rfl (fun v10 l10 u10 h10 => ?_)
        refine q_iconst C dX1_hasFreeLane_13 ?_
        refine q_icmp_ne C 19 dX1_hasFreeLane_14 (by decide) (by omega) (by omega) (fun c14 => ?_) (fun c14 => ?_)
        · refine q_iinc C dX1_hasFreeLane_19 rfl (by decide) (fun v19 e19 => ?_)
          refine q_goto C 2 dX1_hasFreeLane_22 (by decide) ?_
          refine q_loc [(0, .ref (ω.1 18)), (1, .int (iI hour)), (2, .int (iI v19))] ⟨rfl, rfl, rfl, trivial⟩ ?_
          exact ih v19 (by omega) (by omega) (by omega) (by intro j h1 h2; by_cases hj : j = i; (· subst hj; omega); (· exact hm2 j h1 (by omega)))
        · refine q_iconst C dX1_hasFreeLane_17 ?_
          have hc : i = 0 ∨ i = 1 ∨ i = 2 := by omega
          rcases hc with rfl | rfl | rfl <;> exact q_iretZ C dX1_hasFreeLane_18 (by omega) (by decide) ⟨by omega, rfl⟩
  refine q_loc [(0, .ref (ω.1 18)), (1, .int (iI hour)), (2, .int (iI v1))] ⟨rfl, rfl, rfl, trivial⟩ ?_
  exact loop ((3 - v1).toNat + 1) v1 (by omega) (by omega) (by omega) (fun j h1 h2 => by omega)
set_option maxRecDepth 20000 in
theorem KX1_countIn (g : qHp) (t : Int) (ht : -2147483648 ≤ t ∧ t < 2147483648)  : qC yX1_countIn (.code yX1_countIn cX1_countIn 4 (some .int)) 0 0 (fun ad => [.ref (ad 18), .int (iI t)]) g (qPi (fun (r : Int) (g' : qHp) => (r = cntI (stN g t) (g 18 4).toNat) ∧ g' = g)) qNo := by
  refine q_meth (by decide +kernel) rfl (fun _ => (Nat.le_of_ble_eq_true rfl)) (fun X ω C => ?_)
  refine q_nm (fun hn => ?_)
  have r18_4 : 0 ≤ g 18 4 ∧ g 18 4 ≤ 30 := hn 18 4
  refine q_loc [(0, .ref (ω.1 18)), (1, .int (iI t))] ⟨rfl, rfl, trivial⟩ ?_
  refine q_iconst C dX1_countIn_0 ?_
  refine q_istoreV_n C 2 dX1_countIn_1 rfl (by decide) (fun v1 e1 => ?_)
  refine q_iconst C dX1_countIn_2 ?_
  refine q_istoreV_n C 3 dX1_countIn_3 rfl (by decide) (fun v3 e3 => ?_)
  have hcr := fun m => cntI_rng (stN g t) m
  have loop : ∀ (n : Nat) (k : Int) (i : Int), ((g 18 4 - i) < (n : Int)) → (0 ≤ i) → (i ≤ g 18 4) → (k = cntI (stN g t) i.toNat) → qT X ω 4 0 (qEnd X ω (qPi (fun (r : Int) (g' : qHp) => (r = cntI (stN g t) (g 18 4).toNat) ∧ g' = g)) qNo 0) g 4 [(0, .ref (ω.1 18)), (1, .int (iI t)), (2, .int (iI k)), (3, .int (iI i))] [] := by
    intro n
    induction n with
    | zero => intro k i hm hi hi2 hm2; exfalso; omega
    | succ n ih =>
      intro k i hm hi hi2 hm2
      refine q_iload_n C 3 dX1_countIn_4 rfl rfl ?_
      refine q_aload_n C 0 dX1_countIn_5 rfl rfl ?_
      refine q_geti C (b := 18) 4 4 0 30 rfl (by decide) rfl in_X1 (by decide) fl_X1_25 rfl rfl rfl dX1_countIn_6 (fun v6 e6 l6 u6 => ?_)
      refine q_icmp_ge C 31 dX1_countIn_9 (by decide) (by omega) (by omega) (fun c9 => ?_) (fun c9 => ?_)
      · refine q_iload_n C 2 dX1_countIn_31 rfl rfl ?_
        have hq := hcr i.toNat
        subst e6
        have hie : i = g 18 4 := by omega
        subst hm2
        exact q_iretI C dX1_countIn_32 (by omega) (by decide) ⟨by rw [hie], rfl⟩
      · refine q_aload_n C 0 dX1_countIn_12 rfl rfl ?_
        refine q_getr C (b := 18) 3 rfl (by decide) rfl in_X1 (by decide) fl_X1_21 rfl dX1_countIn_13 ?_
        refine q_iload_n C 3 dX1_countIn_16 rfl rfl ?_
        refine q_cald C (b := 22) (n := 30) 0 65535 rfl (by decide) (by decide) (by omega) (fun _ => rfl) dX1_countIn_17 (fun v17 e17 l17 u17 => ?_)
        refine q_iload_n C 1 dX1_countIn_18 rfl rfl ?_
        refine q_icmp_ne C 25 dX1_countIn_19 (by decide) (by omega) (by omega) (fun c19 => ?_) (fun c19 => ?_)
        · refine q_iinc C dX1_countIn_25 rfl (by decide) (fun v25 e25 => ?_)
          refine q_goto C 4 dX1_countIn_28 (by decide) ?_
          refine q_loc [(0, .ref (ω.1 18)), (1, .int (iI t)), (2, .int (iI k)), (3, .int (iI v25))] ⟨rfl, rfl, rfl, rfl, trivial⟩ ?_
          exact ih k v25 (by omega) (by omega) (by omega) (by subst e25 e17 e6; first | (have q := cntI_t (p := stN g t) hi (by simp [stN, *]); omega) | (have q := cntI_f (p := stN g t) hi (by simp [stN, *]); omega))
        · refine q_iinc C dX1_countIn_22 rfl (by decide) (fun v22 e22 => ?_)
          refine q_iinc C dX1_countIn_25 rfl (by decide) (fun v25 e25 => ?_)
          refine q_goto C 4 dX1_countIn_28 (by decide) ?_
          refine q_loc [(0, .ref (ω.1 18)), (1, .int (iI t)), (2, .int (iI v22)), (3, .int (iI v25))] ⟨rfl, rfl, rfl, rfl, trivial⟩ ?_
          exact ih v22 v25 (by omega) (by omega) (by omega) (by subst e25 e22 e17 e6; first | (have q := cntI_t (p := stN g t) hi (by simp [stN, *]); omega) | (have q := cntI_f (p := stN g t) hi (by simp [stN, *]); omega))
  refine q_loc [(0, .ref (ω.1 18)), (1, .int (iI t)), (2, .int (iI v1)), (3, .int (iI v3))] ⟨rfl, rfl, rfl, rfl, trivial⟩ ?_
  exact loop ((g 18 4 - v3).toNat + 1) v1 v3 (by omega) (by omega) (by omega) (by rw [e1, e3]; rfl)
set_option maxRecDepth 20000 in
theorem KX1_register (g : qHp) (b : Int) (hb : -2147483648 ≤ b ∧ b < 2147483648) (hour : Int) (hhour : -2147483648 ≤ hour ∧ hour < 2147483648) (lane : Int) (hlane : -2147483648 ≤ lane ∧ lane < 2147483648) (hb2 : 0 ≤ b ∧ b ≤ 19) (hh2 : 0 ≤ hour ∧ hour ≤ 999) (hl2 : 0 ≤ lane ∧ lane ≤ 2) : qC yX1_register (.code yX1_register cX1_register 5 (some .int)) 0 0 (fun ad => [.ref (ad 18), .int (iI b), .int (iI hour), .int (iI lane)]) g (qPi (fun (r : Int) (g' : qHp) => ((g 18 4 < 30 ∧ r = g 18 4) ∨ (30 ≤ g 18 4 ∧ r = -1)) ∧ g' = (if g 18 4 < 30 then qUp (qUp (qUp (qUp (qUp g 18 4 (g 18 4 + 1)) 19 (g 18 4) b) 20 (g 18 4) hour) 21 (g 18 4) lane) 22 (g 18 4) 98 else g))) qNo := by
  refine q_meth (by decide +kernel) rfl (fun _ => (Nat.le_of_ble_eq_true rfl)) (fun X ω C => ?_)
  refine q_nm (fun hn => ?_)
  have r18_4 : 0 ≤ g 18 4 ∧ g 18 4 ≤ 30 := hn 18 4
  refine q_loc [(0, .ref (ω.1 18)), (1, .int (iI b)), (2, .int (iI hour)), (3, .int (iI lane))] ⟨rfl, rfl, rfl, rfl, trivial⟩ ?_
  refine q_aload_n C 0 dX1_register_0 rfl rfl ?_
  refine q_geti C (b := 18) 4 4 0 30 rfl (by decide) rfl in_X1 (by decide) fl_X1_25 rfl rfl rfl dX1_register_1 (fun v1 e1 l1 u1 => ?_)
  refine q_bipush C dX1_register_4 (by decide +kernel) ?_
  refine q_icmp_lt C 11 dX1_register_6 (by decide) (by omega) (by omega) (fun c6 => ?_) (fun c6 => ?_)
  · refine q_aload_n C 0 dX1_register_11 rfl rfl ?_
    refine q_geti C (b := 18) 4 4 0 30 rfl (by decide) rfl in_X1 (by decide) fl_X1_25 rfl rfl rfl dX1_register_12 (fun v12 e12 l12 u12 => ?_)
    refine q_istoreV C dX1_register_15 (by decide) (fun v15 e15 => ?_)
    refine q_aload_n C 0 dX1_register_17 rfl rfl ?_
    refine q_dup C dX1_register_18 rfl ?_
    refine q_geti C (b := 18) 4 4 0 30 rfl (by decide) rfl in_X1 (by decide) fl_X1_25 rfl rfl rfl dX1_register_19 (fun v19 e19 l19 u19 => ?_)
    refine q_iconst C dX1_register_22 ?_
    refine q_iadd C dX1_register_23 ?_
    refine q_puti C (b := 18) 4 4 0 30 _ rfl (by decide) rfl in_X1 tyX1_ok nmX1 (by decide) fl_X1_25 rfl (by decide +kernel) rfl rfl rfl rfl (by omega) dX1_register_24 ?_
    refine q_aload_n C 0 dX1_register_27 rfl rfl ?_
    refine q_getr C (b := 18) 0 rfl (by decide) rfl in_X1 (by decide) fl_X1_9 rfl dX1_register_28 ?_
    refine q_iload C dX1_register_31 rfl ?_
    refine q_iload_n C 1 dX1_register_33 rfl rfl ?_
    refine q_iast C (b := 19) (n := 30) rfl (by decide) (by decide) (by omega)  (show 0 ≤ _ ∧ _ ≤ 19 from (by omega)) dX1_register_34 ?_
    refine q_aload_n C 0 dX1_register_35 rfl rfl ?_
    refine q_getr C (b := 18) 1 rfl (by decide) rfl in_X1 (by decide) fl_X1_15 rfl dX1_register_36 ?_
    refine q_iload C dX1_register_39 rfl ?_
    refine q_iload_n C 2 dX1_register_41 rfl rfl ?_
    refine q_iast C (b := 20) (n := 30) rfl (by decide) (by decide) (by omega)  (show 0 ≤ _ ∧ _ ≤ 999 from (by omega)) dX1_register_42 ?_
    refine q_aload_n C 0 dX1_register_43 rfl rfl ?_
    refine q_getr C (b := 18) 2 rfl (by decide) rfl in_X1 (by decide) fl_X1_18 rfl dX1_register_44 ?_
    refine q_iload C dX1_register_47 rfl ?_
    refine q_iload_n C 3 dX1_register_49 rfl rfl ?_
    refine q_iast C (b := 21) (n := 30) rfl (by decide) (by decide) (by omega)  (show 0 ≤ _ ∧ _ ≤ 2 from (by omega)) dX1_register_50 ?_
    refine q_aload_n C 0 dX1_register_51 rfl rfl ?_
    refine q_getr C (b := 18) 3 rfl (by decide) rfl in_X1 (by decide) fl_X1_21 rfl dX1_register_52 ?_
    refine q_iload C dX1_register_55 rfl ?_
    refine q_bipush C dX1_register_57 (by decide +kernel) ?_
    refine q_cast C (b := 22) (n := 30) rfl (by decide) (by decide) (by omega) (by omega) (show 0 ≤ _ ∧ _ ≤ 65535 from (by omega)) dX1_register_59 ?_
    refine q_iload C dX1_register_60 rfl ?_
    subst e19 e15 e12 e1
    exact q_iretI C dX1_register_62 (by omega) (by decide) (⟨by omega, by first | rw [if_pos (by omega)] | rw [if_neg (by omega)]⟩)
  · refine q_iconst C dX1_register_9 ?_
    subst e1
    exact q_iretI C dX1_register_10 (by omega) (by decide) (⟨by omega, by first | rw [if_pos (by omega)] | rw [if_neg (by omega)]⟩)
