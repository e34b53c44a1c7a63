/-! Cargo, Yard: what they answer, as functions of a yard's parts: c stacks, r reaches, h heights, p places, so the stack of each box -/
def cGet (n : Int) (f : Int → Int) (d x : Int) : Int := if 0 ≤ x ∧ x < n then f x else d
def yHt (c : Int) (h : Int → Int) (s : Int) : Int := if 0 ≤ s ∧ s < c then h s else 0
def yTop (c : Int) (h p : Int → Int) (s : Int) : Int := if 0 ≤ s ∧ s < c ∧ h s ≠ 0 then p (s * 4 + h s - 1) else -1
def yAt (c : Int) (h p : Int → Int) (s k : Int) : Int := if 0 ≤ k ∧ k < yHt c h s then p (s * 4 + k) else -1
def ySt (so : Int → Int) (x : Int) : Int := if 0 ≤ x ∧ x < 20 then so x else -1
def yUnd (c : Int) (h p so : Int → Int) (x : Int) : Int := fstI (fun k => decide (yAt c h p (ySt so x) k = x)) (yHt c h (ySt so x)).toNat 0
def yOvr (c : Int) (h p so : Int → Int) (x : Int) : Int := if ySt so x = -1 then 0 else yHt c h (ySt so x) - 1 - yUnd c h p so x
def cntF (p : Int → Bool) : Nat → Int → Int
  | 0, _ => 0
  | n + 1, i => (bif p i then 1 else 0) + cntF p n (i + 1)
theorem cntF_rng (p : Int → Bool) : ∀ (n : Nat) (i : Int), 0 ≤ cntF p n i ∧ cntF p n i ≤ n
  | 0, _ => by simp [cntF]
  | n + 1, i => by
    have h := cntF_rng p n (i + 1)
    unfold cntF
    cases p i <;> simp <;> omega
theorem cntF_t {p : Int → Bool} {c i : Int} (h : i < c) (hp : p i = true) : cntF p (c - i).toNat i = 1 + cntF p (c - (i + 1)).toNat (i + 1) := by
  have e : (c - i).toNat = (c - (i + 1)).toNat + 1 := by omega
  rw [e]
  show (bif p i then 1 else 0) + _ = _
  rw [hp]
  rfl
theorem cntF_f {p : Int → Bool} {c i : Int} (h : i < c) (hp : p i = false) : cntF p (c - i).toNat i = cntF p (c - (i + 1)).toNat (i + 1) := by
  have e : (c - i).toNat = (c - (i + 1)).toNat + 1 := by omega
  rw [e]
  show (bif p i then 1 else 0) + _ = _
  rw [hp]
  simp
theorem cntF_0 {p : Int → Bool} {c i : Int} (h : c ≤ i) : cntF p (c - i).toNat i = 0 := by
  have e : (c - i).toNat = 0 := by omega
  rw [e]
  rfl
def pinB (g : qHp) (x : Int) : Bool := decide (cGet (g 1 3) (g 3) 45 x = 112)
def yPin (g : qHp) (c : Int) (h p so : Int → Int) (x : Int) : Int := cntF (fun k => pinB g (yAt c h p (ySt so x) k)) (yHt c h (ySt so x) - (yUnd c h p so x + 1)).toNat (yUnd c h p so x + 1)
/-- can stack t bear a box of weight w, by its top -/
def yBears (g : qHp) (c : Int) (h p : Int → Int) (t w : Int) : Prop := yTop c h p t = -1 ∨ w ≤ cGet (g 1 3) (g 2) 0 (yTop c h p t)
def yWhyR (g : qHp) (c : Int) (r h p so : Int → Int) (x t v : Int) : Prop :=
  ((ySt so x = -1 ∨ yTop c h p (ySt so x) ≠ x) ∧ v = 116) ∨
  (ySt so x ≠ -1 ∧ yTop c h p (ySt so x) = x ∧
    ((pinB g x = true ∧ v = 112) ∨ (pinB g x = false ∧
      ((ySt so x = t ∧ v = 115) ∨ (ySt so x ≠ t ∧
        (((t < 0 ∨ c ≤ t ∨ r t ≤ h t) ∧ v = 102) ∨ (¬ (t < 0 ∨ c ≤ t ∨ r t ≤ h t) ∧
          ((yBears g c h p t (cGet (g 1 3) (g 2) 0 x) ∧ v = 45) ∨ (¬ yBears g c h p t (cGet (g 1 3) (g 2) 0 x) ∧ v = 119)))))))))
/-- one box more looked at -/
theorem eho_step {g g1 g2 : qHp} {i hour : Int} (h3 : ∀ j, g1 3 j = if (0 ≤ j ∧ j < i ∧ g 3 j ≠ 45 ∧ g 4 j = hour) then 45 else g 3 j) (h4 : ∀ j, g1 4 j = if (0 ≤ j ∧ j < i ∧ g 3 j ≠ 45 ∧ g 4 j = hour) then 0 else g 4 j) (ho : ∀ k, k ≠ 3 → k ≠ 4 → g1 k = g k) (hi : 0 ≤ i)
    (e : (g 3 i ≠ 45 ∧ g 4 i = hour ∧ g2 = qUp (qUp g1 3 i 45) 4 i 0) ∨ (¬ (g 3 i ≠ 45 ∧ g 4 i = hour) ∧ g2 = g1)) : (∀ j, g2 3 j = if (0 ≤ j ∧ j < i + 1 ∧ g 3 j ≠ 45 ∧ g 4 j = hour) then 45 else g 3 j) ∧ (∀ j, g2 4 j = if (0 ≤ j ∧ j < i + 1 ∧ g 3 j ≠ 45 ∧ g 4 j = hour) then 0 else g 4 j) ∧ (∀ k, k ≠ 3 → k ≠ 4 → g2 k = g k) := by
  rcases e with ⟨a, b, rfl⟩ | ⟨a, rfl⟩
  · refine ⟨fun j => ?_, fun j => ?_, fun k k3 k4 => ?_⟩
    · rw [qUp_k (by decide)]
      by_cases hj : j = i
      · rw [hj, qUp_s, if_pos (by omega)]
      · rw [qUp_j hj, h3 j]
        by_cases q : (0 ≤ j ∧ j < i ∧ g 3 j ≠ 45 ∧ g 4 j = hour)
        · rw [if_pos q, if_pos (by omega)]
        · rw [if_neg q, if_neg (by omega)]
    · by_cases hj : j = i
      · rw [hj, qUp_s, if_pos (by omega)]
      · rw [qUp_j hj, qUp_k (by decide), h4 j]
        by_cases q : (0 ≤ j ∧ j < i ∧ g 3 j ≠ 45 ∧ g 4 j = hour)
        · rw [if_pos q, if_pos (by omega)]
        · rw [if_neg q, if_neg (by omega)]
    · rw [qUp_row k4, qUp_row k3, ho k k3 k4]
  · refine ⟨fun j => ?_, fun j => ?_, ho⟩
    · rw [h3 j]
      by_cases hj : j = i
      · subst hj
        rw [if_neg (by omega), if_neg (by omega)]
      · by_cases q : (0 ≤ j ∧ j < i ∧ g 3 j ≠ 45 ∧ g 4 j = hour)
        · rw [if_pos q, if_pos (by omega)]
        · rw [if_neg q, if_neg (by omega)]
    · rw [h4 j]
      by_cases hj : j = i
      · subst hj
        rw [if_neg (by omega), if_neg (by omega)]
      · by_cases q : (0 ≤ j ∧ j < i ∧ g 3 j ≠ 45 ∧ g 4 j = hour)
        · rw [if_pos q, if_pos (by omega)]
        · rw [if_neg q, if_neg (by omega)]
set_option maxRecDepth 20000 in
theorem KX0_come (g : qHp)  : qC yX0_come (.code yX0_come cX0_come 1 (some .int)) 0 0 (fun ad => [.ref (ad 1)]) g (qPi (fun (r : Int) (g' : qHp) => (r = g 1 3) ∧ g' = g)) qNo := by
  refine q_meth (by decide +kernel) rfl (fun _ => (Nat.le_of_ble_eq_true rfl)) (fun X ω C => ?_)
  refine q_loc [(0, .ref (ω.1 1))] ⟨rfl, trivial⟩ ?_
  refine q_aload_n C 0 dX0_come_0 rfl rfl ?_
  refine q_geti C (b := 1) 3 3 0 20 rfl (by decide) rfl in_X0 (by decide) fl_X0_22 rfl rfl rfl dX0_come_1 (fun v1 e1 l1 u1 => ?_)
  subst e1
  exact q_iretI C dX0_come_4 (by omega) (by decide) (⟨by omega, rfl⟩)
set_option maxRecDepth 20000 in
theorem KX0_weightOf (g : qHp) (x : Int) (hx : -2147483648 ≤ x ∧ x < 2147483648)  : qC yX0_weightOf (.code yX0_weightOf cX0_weightOf 2 (some .int)) 0 0 (fun ad => [.ref (ad 1), .int (iI x)]) g (qPi (fun (r : Int) (g' : qHp) => (r = cGet (g 1 3) (g 2) 0 x) ∧ g' = g)) qNo := by
  refine q_meth (by decide +kernel) rfl (fun _ => (Nat.le_of_ble_eq_true rfl)) (fun X ω C => ?_)
  refine q_nm (fun hn => ?_)
  have r1_3 : 0 ≤ g 1 3 ∧ g 1 3 ≤ 20 := hn 1 3
  refine q_loc [(0, .ref (ω.1 1)), (1, .int (iI x))] ⟨rfl, rfl, trivial⟩ ?_
  refine q_iload_n C 1 dX0_weightOf_0 rfl rfl ?_
  refine q_iflt C 21 dX0_weightOf_1 (by decide) (by omega) (fun c1 => ?_) (fun c1 => ?_)
  · refine q_iconst C dX0_weightOf_21 ?_
    exact q_iretI C dX0_weightOf_22 (by omega) (by decide) (⟨by unfold cGet; first | rw [if_pos (by omega)] | rw [if_neg (by omega)], rfl⟩)
  · refine q_iload_n C 1 dX0_weightOf_4 rfl rfl ?_
    refine q_aload_n C 0 dX0_weightOf_5 rfl rfl ?_
    refine q_geti C (b := 1) 3 3 0 20 rfl (by decide) rfl in_X0 (by decide) fl_X0_22 rfl rfl rfl dX0_weightOf_6 (fun v6 e6 l6 u6 => ?_)
    refine q_icmp_ge C 21 dX0_weightOf_9 (by decide) (by omega) (by omega) (fun c9 => ?_) (fun c9 => ?_)
    · refine q_iconst C dX0_weightOf_21 ?_
      subst e6
      exact q_iretI C dX0_weightOf_22 (by omega) (by decide) (⟨by unfold cGet; first | rw [if_pos (by omega)] | rw [if_neg (by omega)], rfl⟩)
    · refine q_aload_n C 0 dX0_weightOf_12 rfl rfl ?_
      refine q_getr C (b := 1) 0 rfl (by decide) rfl in_X0 (by decide) fl_X0_9 rfl dX0_weightOf_13 ?_
      refine q_iload_n C 1 dX0_weightOf_16 rfl rfl ?_
      refine q_iald C (b := 2) (n := 20) 0 30 rfl (by decide) (by decide) (by omega) (fun _ => rfl) dX0_weightOf_17 (fun v17 e17 l17 u17 => ?_)
      refine q_goto C 22 dX0_weightOf_18 (by decide) ?_
      subst e17 e6
      exact q_iretI C dX0_weightOf_22 (by omega) (by decide) (⟨by unfold cGet; first | rw [if_pos (by omega)] | rw [if_neg (by omega)], rfl⟩)
set_option maxRecDepth 20000 in
theorem KX0_holdKind (g : qHp) (x : Int) (hx : -2147483648 ≤ x ∧ x < 2147483648)  : qC yX0_holdKind (.code yX0_holdKind cX0_holdKind 2 (some .char)) 0 0 (fun ad => [.ref (ad 1), .int (iI x)]) g (qPi (fun (r : Int) (g' : qHp) => (r = cGet (g 1 3) (g 3) 45 x) ∧ g' = g)) qNo := by
  refine q_meth (by decide +kernel) rfl (fun _ => (Nat.le_of_ble_eq_true rfl)) (fun X ω C => ?_)
  refine q_nm (fun hn => ?_)
  have r1_3 : 0 ≤ g 1 3 ∧ g 1 3 ≤ 20 := hn 1 3
  refine q_loc [(0, .ref (ω.1 1)), (1, .int (iI x))] ⟨rfl, rfl, trivial⟩ ?_
  refine q_iload_n C 1 dX0_holdKind_0 rfl rfl ?_
  refine q_iflt C 21 dX0_holdKind_1 (by decide) (by omega) (fun c1 => ?_) (fun c1 => ?_)
  · refine q_bipush C dX0_holdKind_21 (by decide +kernel) ?_
    exact q_iretC C dX0_holdKind_23 (by omega) (by decide) (⟨by unfold cGet; first | rw [if_pos (by omega)] | rw [if_neg (by omega)], rfl⟩)
  · refine q_iload_n C 1 dX0_holdKind_4 rfl rfl ?_
    refine q_aload_n C 0 dX0_holdKind_5 rfl rfl ?_
    refine q_geti C (b := 1) 3 3 0 20 rfl (by decide) rfl in_X0 (by decide) fl_X0_22 rfl rfl rfl dX0_holdKind_6 (fun v6 e6 l6 u6 => ?_)
    refine q_icmp_ge C 21 dX0_holdKind_9 (by decide) (by omega) (by omega) (fun c9 => ?_) (fun c9 => ?_)
    · refine q_bipush C dX0_holdKind_21 (by decide +kernel) ?_
      subst e6
      exact q_iretC C dX0_holdKind_23 (by omega) (by decide) (⟨by unfold cGet; first | rw [if_pos (by omega)] | rw [if_neg (by omega)], rfl⟩)
    · refine q_aload_n C 0 dX0_holdKind_12 rfl rfl ?_
      refine q_getr C (b := 1) 1 rfl (by decide) rfl in_X0 (by decide) fl_X0_15 rfl dX0_holdKind_13 ?_
      refine q_iload_n C 1 dX0_holdKind_16 rfl rfl ?_
      refine q_cald C (b := 3) (n := 20) 0 65535 rfl (by decide) (by decide) (by omega) (fun _ => rfl) dX0_holdKind_17 (fun v17 e17 l17 u17 => ?_)
      refine q_goto C 23 dX0_holdKind_18 (by decide) ?_
      subst e17 e6
      exact q_iretC C dX0_holdKind_23 (by omega) (by decide) (⟨by unfold cGet; first | rw [if_pos (by omega)] | rw [if_neg (by omega)], rfl⟩)
set_option maxRecDepth 20000 in
theorem KX0_holdEnd (g : qHp) (x : Int) (hx : -2147483648 ≤ x ∧ x < 2147483648)  : qC yX0_holdEnd (.code yX0_holdEnd cX0_holdEnd 2 (some .int)) 0 0 (fun ad => [.ref (ad 1), .int (iI x)]) g (qPi (fun (r : Int) (g' : qHp) => (r = cGet (g 1 3) (g 4) 0 x) ∧ g' = g)) qNo := by
  refine q_meth (by decide +kernel) rfl (fun _ => (Nat.le_of_ble_eq_true rfl)) (fun X ω C => ?_)
  refine q_nm (fun hn => ?_)
  have r1_3 : 0 ≤ g 1 3 ∧ g 1 3 ≤ 20 := hn 1 3
  refine q_loc [(0, .ref (ω.1 1)), (1, .int (iI x))] ⟨rfl, rfl, trivial⟩ ?_
  refine q_iload_n C 1 dX0_holdEnd_0 rfl rfl ?_
  refine q_iflt C 21 dX0_holdEnd_1 (by decide) (by omega) (fun c1 => ?_) (fun c1 => ?_)
  · refine q_iconst C dX0_holdEnd_21 ?_
    exact q_iretI C dX0_holdEnd_22 (by omega) (by decide) (⟨by unfold cGet; first | rw [if_pos (by omega)] | rw [if_neg (by omega)], rfl⟩)
  · refine q_iload_n C 1 dX0_holdEnd_4 rfl rfl ?_
    refine q_aload_n C 0 dX0_holdEnd_5 rfl rfl ?_
    refine q_geti C (b := 1) 3 3 0 20 rfl (by decide) rfl in_X0 (by decide) fl_X0_22 rfl rfl rfl dX0_holdEnd_6 (fun v6 e6 l6 u6 => ?_)
    refine q_icmp_ge C 21 dX0_holdEnd_9 (by decide) (by omega) (by omega) (fun c9 => ?_) (fun c9 => ?_)
    · refine q_iconst C dX0_holdEnd_21 ?_
      subst e6
      exact q_iretI C dX0_holdEnd_22 (by omega) (by decide) (⟨by unfold cGet; first | rw [if_pos (by omega)] | rw [if_neg (by omega)], rfl⟩)
    · refine q_aload_n C 0 dX0_holdEnd_12 rfl rfl ?_
      refine q_getr C (b := 1) 2 rfl (by decide) rfl in_X0 (by decide) fl_X0_19 rfl dX0_holdEnd_13 ?_
      refine q_iload_n C 1 dX0_holdEnd_16 rfl rfl ?_
      refine q_iald C (b := 4) (n := 20) 0 1000 rfl (by decide) (by decide) (by omega) (fun _ => rfl) dX0_holdEnd_17 (fun v17 e17 l17 u17 => ?_)
      refine q_goto C 22 dX0_holdEnd_18 (by decide) ?_
      subst e17 e6
      exact q_iretI C dX0_holdEnd_22 (by omega) (by decide) (⟨by unfold cGet; first | rw [if_pos (by omega)] | rw [if_neg (by omega)], rfl⟩)
set_option maxRecDepth 20000 in
theorem KX0_isHeld (g : qHp) (x : Int) (hx : -2147483648 ≤ x ∧ x < 2147483648)  : qC yX0_isHeld (.code yX0_isHeld cX0_isHeld 2 (some .boolean)) 1 0 (fun ad => [.ref (ad 1), .int (iI x)]) g (qPi (fun (r : Int) (g' : qHp) => (((cGet (g 1 3) (g 3) 45 x) ≠ 45 ∧ r = 1) ∨ ((cGet (g 1 3) (g 3) 45 x) = 45 ∧ r = 0)) ∧ g' = g)) qNo := by
  refine q_meth (by decide +kernel) rfl (fun _ => (Nat.le_of_ble_eq_true rfl)) (fun X ω C => ?_)
  refine q_loc [(0, .ref (ω.1 1)), (1, .int (iI x))] ⟨rfl, rfl, trivial⟩ ?_
  refine q_aload_n C 0 dX0_isHeld_0 rfl rfl ?_
  refine q_iload_n C 1 dX0_isHeld_1 rfl rfl ?_
  refine q_Vf0 C (KX0_holdKind _ _ (by omega)) mX0_holdKind ml_X0_30 dX0_isHeld_2 (by decide) (by decide) rfl rfl rfl (Nat.le_of_ble_eq_true rfl) rfl (by decide) rfl rfl (fun v2 l2 u2 h2 => ?_)
  refine q_bipush C dX0_isHeld_5 (by decide +kernel) ?_
  refine q_icmp_eq C 14 dX0_isHeld_7 (by decide) (by omega) (by omega) (fun c7 => ?_) (fun c7 => ?_)
  · refine q_iconst C dX0_isHeld_14 ?_
    exact q_iretZ C dX0_isHeld_15 (by omega) (by decide) (⟨by omega, rfl⟩)
  · refine q_iconst C dX0_isHeld_10 ?_
    refine q_goto C 15 dX0_isHeld_11 (by decide) ?_
    exact q_iretZ C dX0_isHeld_15 (by omega) (by decide) (⟨by omega, rfl⟩)
set_option maxRecDepth 20000 in
theorem KX0_isPinned (g : qHp) (x : Int) (hx : -2147483648 ≤ x ∧ x < 2147483648)  : qC yX0_isPinned (.code yX0_isPinned cX0_isPinned 2 (some .boolean)) 1 0 (fun ad => [.ref (ad 1), .int (iI x)]) g (qPi (fun (r : Int) (g' : qHp) => ((pinB g x = true ∧ r = 1) ∨ (pinB g x = false ∧ r = 0)) ∧ g' = g)) qNo := by
  refine q_meth (by decide +kernel) rfl (fun _ => (Nat.le_of_ble_eq_true rfl)) (fun X ω C => ?_)
  refine q_loc [(0, .ref (ω.1 1)), (1, .int (iI x))] ⟨rfl, rfl, trivial⟩ ?_
  refine q_aload_n C 0 dX0_isPinned_0 rfl rfl ?_
  refine q_iload_n C 1 dX0_isPinned_1 rfl rfl ?_
  refine q_Vf0 C (KX0_holdKind _ _ (by omega)) mX0_holdKind ml_X0_30 dX0_isPinned_2 (by decide) (by decide) rfl rfl rfl (Nat.le_of_ble_eq_true rfl) rfl (by decide) rfl rfl (fun v2 l2 u2 h2 => ?_)
  refine q_bipush C dX0_isPinned_5 (by decide +kernel) ?_
  refine q_icmp_ne C 14 dX0_isPinned_7 (by decide) (by omega) (by omega) (fun c7 => ?_) (fun c7 => ?_)
  · refine q_iconst C dX0_isPinned_14 ?_
    exact q_iretZ C dX0_isPinned_15 (by omega) (by decide) (⟨by unfold pinB; first | exact Or.inl ⟨decide_eq_true (by omega), by omega⟩ | exact Or.inr ⟨decide_eq_false (by omega), by omega⟩, rfl⟩)
  · refine q_iconst C dX0_isPinned_10 ?_
    refine q_goto C 15 dX0_isPinned_11 (by decide) ?_
    exact q_iretZ C dX0_isPinned_15 (by omega) (by decide) (⟨by unfold pinB; first | exact Or.inl ⟨decide_eq_true (by omega), by omega⟩ | exact Or.inr ⟨decide_eq_false (by omega), by omega⟩, rfl⟩)
set_option maxRecDepth 20000 in
theorem KX0_isHeldIn (g : qHp) (x : Int) (hx : -2147483648 ≤ x ∧ x < 2147483648) (hour : Int) (hhour : -2147483648 ≤ hour ∧ hour < 2147483648)  : qC yX0_isHeldIn (.code yX0_isHeldIn cX0_isHeldIn 3 (some .boolean)) 2 0 (fun ad => [.ref (ad 1), .int (iI x), .int (iI hour)]) g (qPi (fun (r : Int) (g' : qHp) => (((cGet (g 1 3) (g 3) 45 x ≠ 45 ∧ hour < cGet (g 1 3) (g 4) 0 x) ∧ r = 1) ∨ (¬ (cGet (g 1 3) (g 3) 45 x ≠ 45 ∧ hour < cGet (g 1 3) (g 4) 0 x) ∧ r = 0)) ∧ g' = g)) qNo := by
  refine q_meth (by decide +kernel) rfl (fun _ => (Nat.le_of_ble_eq_true rfl)) (fun X ω C => ?_)
  refine q_loc [(0, .ref (ω.1 1)), (1, .int (iI x)), (2, .int (iI hour))] ⟨rfl, rfl, rfl, trivial⟩ ?_
  refine q_aload_n C 0 dX0_isHeldIn_0 rfl rfl ?_
  refine q_iload_n C 1 dX0_isHeldIn_1 rfl rfl ?_
  refine q_Vf0 C (KX0_isHeld _ _ (by omega)) mX0_isHeld ml_X0_34 dX0_isHeldIn_2 (by decide) (by decide) rfl rfl rfl (Nat.le_of_ble_eq_true rfl) rfl (by decide) rfl rfl (fun v2 l2 u2 h2 => ?_)
  refine q_ifeq C 21 dX0_isHeldIn_5 (by decide) (by omega) (fun c5 => ?_) (fun c5 => ?_)
  · refine q_iconst C dX0_isHeldIn_21 ?_
    exact q_iretZ C dX0_isHeldIn_22 (by omega) (by decide) (⟨by omega, rfl⟩)
  · refine q_iload_n C 2 dX0_isHeldIn_8 rfl rfl ?_
    refine q_aload_n C 0 dX0_isHeldIn_9 rfl rfl ?_
    refine q_iload_n C 1 dX0_isHeldIn_10 rfl rfl ?_
    refine q_Vf0 C (KX0_holdEnd _ _ (by omega)) mX0_holdEnd ml_X0_38 dX0_isHeldIn_11 (by decide) (by decide) rfl rfl rfl (Nat.le_of_ble_eq_true rfl) rfl (by decide) rfl rfl (fun v11 l11 u11 h11 => ?_)
    refine q_icmp_ge C 21 dX0_isHeldIn_14 (by decide) (by omega) (by omega) (fun c14 => ?_) (fun c14 => ?_)
    · refine q_iconst C dX0_isHeldIn_21 ?_
      exact q_iretZ C dX0_isHeldIn_22 (by omega) (by decide) (⟨by omega, rfl⟩)
    · refine q_iconst C dX0_isHeldIn_17 ?_
      refine q_goto C 22 dX0_isHeldIn_18 (by decide) ?_
      exact q_iretZ C dX0_isHeldIn_22 (by omega) (by decide) (⟨by omega, rfl⟩)
set_option maxRecDepth 20000 in
theorem KX0_putHold (g : qHp) (x : Int) (hx : -2147483648 ≤ x ∧ x < 2147483648) (kd : Int) (hkd : -2147483648 ≤ kd ∧ kd < 2147483648) (ut : Int) (hut : -2147483648 ≤ ut ∧ ut < 2147483648) (hk2 : 0 ≤ kd ∧ kd < 65536) (hu2 : 0 ≤ ut ∧ ut ≤ 1000) : qC yX0_putHold (.code yX0_putHold cX0_putHold 4 none) 0 0 (fun ad => [.ref (ad 1), .int (iI x), .int (iI kd), .int (iI ut)]) g (qPv (fun g' : qHp => g' = (if 0 ≤ x ∧ x < g 1 3 then qUp (qUp g 3 x kd) 4 x ut else g))) qNo := by
  refine q_meth (by decide +kernel) rfl (fun _ => (Nat.le_of_ble_eq_true rfl)) (fun X ω C => ?_)
  refine q_nm (fun hn => ?_)
  have r1_3 : 0 ≤ g 1 3 ∧ g 1 3 ≤ 20 := hn 1 3
  refine q_loc [(0, .ref (ω.1 1)), (1, .int (iI x)), (2, .int (iI kd)), (3, .int (iI ut))] ⟨rfl, rfl, rfl, rfl, trivial⟩ ?_
  refine q_iload_n C 1 dX0_putHold_0 rfl rfl ?_
  refine q_iflt C 26 dX0_putHold_1 (by decide) (by omega) (fun c1 => ?_) (fun c1 => ?_)
  · exact q_retV C dX0_putHold_26 (by decide) (by first | rw [if_pos (by omega)] | rw [if_neg (by omega)])
  · refine q_iload_n C 1 dX0_putHold_4 rfl rfl ?_
    refine q_aload_n C 0 dX0_putHold_5 rfl rfl ?_
    refine q_geti C (b := 1) 3 3 0 20 rfl (by decide) rfl in_X0 (by decide) fl_X0_22 rfl rfl rfl dX0_putHold_6 (fun v6 e6 l6 u6 => ?_)
    refine q_icmp_ge C 26 dX0_putHold_9 (by decide) (by omega) (by omega) (fun c9 => ?_) (fun c9 => ?_)
    · subst e6
      exact q_retV C dX0_putHold_26 (by decide) (by first | rw [if_pos (by omega)] | rw [if_neg (by omega)])
    · refine q_aload_n C 0 dX0_putHold_12 rfl rfl ?_
      refine q_getr C (b := 1) 1 rfl (by decide) rfl in_X0 (by decide) fl_X0_15 rfl dX0_putHold_13 ?_
      refine q_iload_n C 1 dX0_putHold_16 rfl rfl ?_
      refine q_iload_n C 2 dX0_putHold_17 rfl rfl ?_
      refine q_cast C (b := 3) (n := 20) rfl (by decide) (by decide) (by omega) (by omega) (show 0 ≤ _ ∧ _ ≤ 65535 from (by omega)) dX0_putHold_18 ?_
      refine q_aload_n C 0 dX0_putHold_19 rfl rfl ?_
      refine q_getr C (b := 1) 2 rfl (by decide) rfl in_X0 (by decide) fl_X0_19 rfl dX0_putHold_20 ?_
      refine q_iload_n C 1 dX0_putHold_23 rfl rfl ?_
      refine q_iload_n C 3 dX0_putHold_24 rfl rfl ?_
      refine q_iast C (b := 4) (n := 20) rfl (by decide) (by decide) (by omega)  (show 0 ≤ _ ∧ _ ≤ 1000 from (by omega)) dX0_putHold_25 ?_
      subst e6
      exact q_retV C dX0_putHold_26 (by decide) (by first | rw [if_pos (by omega)] | rw [if_neg (by omega)])
set_option maxRecDepth 20000 in
theorem KX0_endHold (g : qHp) (x : Int) (hx : -2147483648 ≤ x ∧ x < 2147483648)  : qC yX0_endHold (.code yX0_endHold cX0_endHold 2 none) 1 0 (fun ad => [.ref (ad 1), .int (iI x)]) g (qPv (fun g' : qHp => g' = (if 0 ≤ x ∧ x < g 1 3 then qUp (qUp g 3 x 45) 4 x 0 else g))) qNo := by
  refine q_meth (by decide +kernel) rfl (fun _ => (Nat.le_of_ble_eq_true rfl)) (fun X ω C => ?_)
  refine q_loc [(0, .ref (ω.1 1)), (1, .int (iI x))] ⟨rfl, rfl, trivial⟩ ?_
  refine q_aload_n C 0 dX0_endHold_0 rfl rfl ?_
  refine q_iload_n C 1 dX0_endHold_1 rfl rfl ?_
  refine q_bipush C dX0_endHold_2 (by decide +kernel) ?_
  refine q_iconst C dX0_endHold_4 ?_
  refine q_Vv0 C (KX0_putHold _ _ (by omega) _ (by omega) _ (by omega) (by omega) (by omega)) mX0_putHold ml_X0_42 dX0_endHold_5 (by decide) (by decide) rfl rfl rfl (Nat.le_of_ble_eq_true rfl) rfl (by decide) rfl rfl ?_
  exact q_retV C dX0_endHold_8 (by decide) (rfl)
set_option maxRecDepth 20000 in
theorem KX0_register (g : qHp) (w : Int) (hw : -2147483648 ≤ w ∧ w < 2147483648) (hw2 : 0 ≤ w ∧ w ≤ 30) : qC yX0_register (.code yX0_register cX0_register 3 (some .int)) 2 0 (fun ad => [.ref (ad 1), .int (iI w)]) g (qPi (fun (r : Int) (g' : qHp) => ((g 1 3 < 20 ∧ r = g 1 3) ∨ (20 ≤ g 1 3 ∧ r = -1)) ∧ g' = (if g 1 3 < 20 then qUp (qUp (qUp (qUp g 1 3 (g 1 3 + 1)) 2 (g 1 3) w) 3 (g 1 3) 45) 4 (g 1 3) 0 else g))) qNo := by
  refine q_meth (by decide +kernel) rfl (fun _ => (Nat.le_of_ble_eq_true rfl)) (fun X ω C => ?_)
  refine q_nm (fun hn => ?_)
  have r1_3 : 0 ≤ g 1 3 ∧ g 1 3 ≤ 20 := hn 1 3
  refine q_loc [(0, .ref (ω.1 1)), (1, .int (iI w))] ⟨rfl, rfl, trivial⟩ ?_
  refine q_aload_n C 0 dX0_register_0 rfl rfl ?_
  refine q_geti C (b := 1) 3 3 0 20 rfl (by decide) rfl in_X0 (by decide) fl_X0_22 rfl rfl rfl dX0_register_1 (fun v1 e1 l1 u1 => ?_)
  refine q_bipush C dX0_register_4 (by decide +kernel) ?_
  refine q_icmp_lt C 11 dX0_register_6 (by decide) (by omega) (by omega) (fun c6 => ?_) (fun c6 => ?_)
  · refine q_aload_n C 0 dX0_register_11 rfl rfl ?_
    refine q_geti C (b := 1) 3 3 0 20 rfl (by decide) rfl in_X0 (by decide) fl_X0_22 rfl rfl rfl dX0_register_12 (fun v12 e12 l12 u12 => ?_)
    refine q_istoreV_n C 2 dX0_register_15 rfl (by decide) (fun v15 e15 => ?_)
    refine q_aload_n C 0 dX0_register_16 rfl rfl ?_
    refine q_dup C dX0_register_17 rfl ?_
    refine q_geti C (b := 1) 3 3 0 20 rfl (by decide) rfl in_X0 (by decide) fl_X0_22 rfl rfl rfl dX0_register_18 (fun v18 e18 l18 u18 => ?_)
    refine q_iconst C dX0_register_21 ?_
    refine q_iadd C dX0_register_22 ?_
    refine q_puti C (b := 1) 3 3 0 20 _ rfl (by decide) rfl in_X0 tyX0_ok nmX0 (by decide) fl_X0_22 rfl (by decide +kernel) rfl rfl rfl rfl (by omega) dX0_register_23 ?_
    refine q_aload_n C 0 dX0_register_26 rfl rfl ?_
    refine q_getr C (b := 1) 0 rfl (by decide) rfl in_X0 (by decide) fl_X0_9 rfl dX0_register_27 ?_
    refine q_iload_n C 2 dX0_register_30 rfl rfl ?_
    refine q_iload_n C 1 dX0_register_31 rfl rfl ?_
    refine q_iast C (b := 2) (n := 20) rfl (by decide) (by decide) (by omega)  (show 0 ≤ _ ∧ _ ≤ 30 from (by omega)) dX0_register_32 ?_
    refine q_aload_n C 0 dX0_register_33 rfl rfl ?_
    refine q_iload_n C 2 dX0_register_34 rfl rfl ?_
    refine q_Vv0 C (KX0_endHold _ _ (by omega)) mX0_endHold ml_X0_26 dX0_register_35 (by decide) (by decide) rfl rfl rfl (Nat.le_of_ble_eq_true rfl) rfl (by decide) rfl rfl ?_
    refine q_iload_n C 2 dX0_register_38 rfl rfl ?_
    have hz : (qUp (qUp g 1 3 (v18 + 1)) 2 v15 w) 1 3 = v18 + 1 := by rw [qUp_k (by decide), qUp_s]
    subst e18 e15 e12 e1
    exact q_iretI C dX0_register_39 (by omega) (by decide) ⟨by omega, by rw [if_pos (by rw [hz]; omega), if_pos (by omega)]⟩
  · refine q_iconst C dX0_register_9 ?_
    subst e1
    exact q_iretI C dX0_register_10 (by omega) (by decide) ⟨by omega, by rw [if_neg (by omega)]⟩
set_option maxRecDepth 20000 in
theorem KX0_endHoldsOf (g : qHp) (hour : Int) (hhour : -2147483648 ≤ hour ∧ hour < 2147483648)  : qC yX0_endHoldsOf (.code yX0_endHoldsOf cX0_endHoldsOf 3 none) 3 0 (fun ad => [.ref (ad 1), .int (iI hour)]) g (qPv (fun g' : qHp => (∀ j, g' 3 j = if (0 ≤ j ∧ j < g 1 3 ∧ g 3 j ≠ 45 ∧ g 4 j = hour) then 45 else g 3 j) ∧ (∀ j, g' 4 j = if (0 ≤ j ∧ j < g 1 3 ∧ g 3 j ≠ 45 ∧ g 4 j = hour) then 0 else g 4 j) ∧ (∀ k, k ≠ 3 → k ≠ 4 → g' k = g k))) qNo := by
  refine q_meth (by decide +kernel) rfl (fun _ => (Nat.le_of_ble_eq_true rfl)) (fun X ω C => ?_)
  refine q_nm (fun hn => ?_)
  have r1_3 : 0 ≤ g 1 3 ∧ g 1 3 ≤ 20 := hn 1 3
  refine q_loc [(0, .ref (ω.1 1)), (1, .int (iI hour))] ⟨rfl, rfl, trivial⟩ ?_
  refine q_iconst C dX0_endHoldsOf_0 ?_
  refine q_istoreV_n C 2 dX0_endHoldsOf_1 rfl (by decide) (fun v1 e1 => ?_)
  have loop : ∀ (n : Nat) (i : Int) (g1 : qHp), ((g 1 3 - i) < (n : Int)) → (0 ≤ i) → (i ≤ g 1 3) → ((∀ j, g1 3 j = if (0 ≤ j ∧ j < i ∧ g 3 j ≠ 45 ∧ g 4 j = hour) then 45 else g 3 j) ∧ (∀ j, g1 4 j = if (0 ≤ j ∧ j < i ∧ g 3 j ≠ 45 ∧ g 4 j = hour) then 0 else g 4 j) ∧ (∀ k, k ≠ 3 → k ≠ 4 → g1 k = g k)) → qT X ω 3 0 (qEnd X ω (qPv (fun g' : qHp => (∀ j, g' 3 j = if (0 ≤ j ∧ j < g 1 3 ∧ g 3 j ≠ 45 ∧ g 4 j = hour) then 45 else g 3 j) ∧ (∀ j, g' 4 j = if (0 ≤ j ∧ j < g 1 3 ∧ g 3 j ≠ 45 ∧ g 4 j = hour) then 0 else g 4 j) ∧ (∀ k, k ≠ 3 → k ≠ 4 → g' k = g k))) qNo 0) g1 2 [(0, .ref (ω.1 1)), (1, .int (iI hour)), (2, .int (iI i))] [] := by
    intro n
    induction n with
    | zero => intro i g1 hm hi hi2 hh; exfalso; omega
    | succ n ih =>
      intro i g1 hm hi hi2 hh
      obtain ⟨h3, h4, ho⟩ := hh
      have ho1 : g1 1 3 = g 1 3 := by rw [ho 1 (by decide) (by decide)]
      refine q_iload_n C 2 dX0_endHoldsOf_2 rfl rfl ?_
      refine q_aload_n C 0 dX0_endHoldsOf_3 rfl rfl ?_
      refine q_geti C (b := 1) 3 3 0 20 rfl (by decide) rfl in_X0 (by decide) fl_X0_22 rfl rfl rfl dX0_endHoldsOf_4 (fun v4 e4 l4 u4 => ?_)
      refine q_icmp_ge C 38 dX0_endHoldsOf_7 (by decide) (by omega) (by omega) (fun c7 => ?_) (fun c7 => ?_)
      · subst e4
        have hie : i = g 1 3 := by omega
        subst hie
        exact q_retV C dX0_endHoldsOf_38 (by decide) ⟨h3, h4, ho⟩
      · refine q_aload_n C 0 dX0_endHoldsOf_10 rfl rfl ?_
        refine q_iload_n C 2 dX0_endHoldsOf_11 rfl rfl ?_
        refine q_Vf0 C (KX0_isHeld _ _ (by omega)) mX0_isHeld ml_X0_34 dX0_endHoldsOf_12 (by decide) (by decide) rfl rfl rfl (Nat.le_of_ble_eq_true rfl) rfl (by decide) rfl rfl (fun v12 l12 u12 h12 => ?_)
        refine q_ifeq C 32 dX0_endHoldsOf_15 (by decide) (by omega) (fun c15 => ?_) (fun c15 => ?_)
        · refine q_iinc C dX0_endHoldsOf_32 rfl (by decide) (fun v32 e32 => ?_)
          refine q_goto C 2 dX0_endHoldsOf_35 (by decide) ?_
          refine q_loc [(0, .ref (ω.1 1)), (1, .int (iI hour)), (2, .int (iI v32))] ⟨rfl, rfl, rfl, trivial⟩ ?_
          subst e32 e4
          refine ih _ _ (by omega) (by omega) (by omega) (eho_step h3 h4 ho hi ?_)
          have hc1 : cGet (g1 1 3) (g1 3) 45 i = g 3 i := by unfold cGet; rw [ho 1 (by decide) (by decide), if_pos (by omega), h3 i, if_neg (by omega)]
          have hc2 : cGet (g1 1 3) (g1 4) 0 i = g 4 i := by unfold cGet; rw [ho 1 (by decide) (by decide), if_pos (by omega), h4 i, if_neg (by omega)]
          first | exact Or.inl ⟨by omega, by omega, by rw [if_pos (by omega)]⟩ | exact Or.inr ⟨by omega, rfl⟩
        · refine q_aload_n C 0 dX0_endHoldsOf_18 rfl rfl ?_
          refine q_iload_n C 2 dX0_endHoldsOf_19 rfl rfl ?_
          refine q_Vf0 C (KX0_holdEnd _ _ (by omega)) mX0_holdEnd ml_X0_38 dX0_endHoldsOf_20 (by decide) (by decide) rfl rfl rfl (Nat.le_of_ble_eq_true rfl) rfl (by decide) rfl rfl (fun v20 l20 u20 h20 => ?_)
          refine q_iload_n C 1 dX0_endHoldsOf_23 rfl rfl ?_
          refine q_icmp_ne C 32 dX0_endHoldsOf_24 (by decide) (by omega) (by omega) (fun c24 => ?_) (fun c24 => ?_)
          · refine q_iinc C dX0_endHoldsOf_32 rfl (by decide) (fun v32 e32 => ?_)
            refine q_goto C 2 dX0_endHoldsOf_35 (by decide) ?_
            refine q_loc [(0, .ref (ω.1 1)), (1, .int (iI hour)), (2, .int (iI v32))] ⟨rfl, rfl, rfl, trivial⟩ ?_
            subst e32 e4
            refine ih _ _ (by omega) (by omega) (by omega) (eho_step h3 h4 ho hi ?_)
            have hc1 : cGet (g1 1 3) (g1 3) 45 i = g 3 i := by unfold cGet; rw [ho 1 (by decide) (by decide), if_pos (by omega), h3 i, if_neg (by omega)]
            have hc2 : cGet (g1 1 3) (g1 4) 0 i = g 4 i := by unfold cGet; rw [ho 1 (by decide) (by decide), if_pos (by omega), h4 i, if_neg (by omega)]
            first | exact Or.inl ⟨by omega, by omega, by rw [if_pos (by omega)]⟩ | exact Or.inr ⟨by omega, rfl⟩
          · refine q_aload_n C 0 dX0_endHoldsOf_27 rfl rfl ?_
            refine q_iload_n C 2 dX0_endHoldsOf_28 rfl rfl ?_
            refine q_Vv0 C (KX0_endHold _ _ (by omega)) mX0_endHold ml_X0_26 dX0_endHoldsOf_29 (by decide) (by decide) rfl rfl rfl (Nat.le_of_ble_eq_true rfl) rfl (by decide) rfl rfl ?_
            refine q_iinc C dX0_endHoldsOf_32 rfl (by decide) (fun v32 e32 => ?_)
            refine q_goto C 2 dX0_endHoldsOf_35 (by decide) ?_
            refine q_loc [(0, .ref (ω.1 1)), (1, .int (iI hour)), (2, .int (iI v32))] ⟨rfl, rfl, rfl, trivial⟩ ?_
            subst e32 e4
            refine ih _ _ (by omega) (by omega) (by omega) (eho_step h3 h4 ho hi ?_)
            have hc1 : cGet (g1 1 3) (g1 3) 45 i = g 3 i := by unfold cGet; rw [ho 1 (by decide) (by decide), if_pos (by omega), h3 i, if_neg (by omega)]
            have hc2 : cGet (g1 1 3) (g1 4) 0 i = g 4 i := by unfold cGet; rw [ho 1 (by decide) (by decide), if_pos (by omega), h4 i, if_neg (by omega)]
            first | exact Or.inl ⟨by omega, by omega, by rw [if_pos (by omega)]⟩ | exact Or.inr ⟨by omega, rfl⟩
  refine q_loc [(0, .ref (ω.1 1)), (1, .int (iI hour)), (2, .int (iI v1))] ⟨rfl, rfl, rfl, trivial⟩ ?_
  exact loop ((g 1 3 - v1).toNat + 1) v1 g (by omega) (by omega) (by omega) ⟨fun j => by rw [if_neg (by omega)], fun j => by rw [if_neg (by omega)], fun _ _ _ => rfl⟩
