/-! the heap of longs -/
theorem q_lcmpN {X : qEnv} {ω : qOm} {own : String} {cc : ByteArray} {nL : Nat} {ret : Option FieldType} {T : List ExceptionTableEntry} {fr mc k : Nat} {Q : State → Prop} {g : qHp} {pc : Nat} {ls : List (Nat × Value)} {st : List Value} (C : qCx X ω own cc nL ret T fr mc) {a b : Int} (hd : decode cc pc = .ok (.lcmp, 1)) (ha : -9223372036854775808 ≤ a ∧ a < 9223372036854775808) (hb0 : -9223372036854775808 ≤ b ∧ b < 9223372036854775808) (kk : ∀ r : Int, ((a < b ∧ r = -1) ∨ (a = b ∧ r = 0) ∨ (b < a ∧ r = 1)) → qT X ω nL k Q g (pc + 1) ls (.int (iI r) :: st)) : qT X ω nL k Q g pc ls (.long (lI b) :: .long (lI a) :: st) :=
  q_lcmp C hd ha hb0 (kk (qCmp a b) (by unfold qCmp; split <;> (try split) <;> omega))
def uI (f : Int → Int) (i x : Int) : Int → Int := fun j => if j = i then x else f j
theorem uI_s (f : Int → Int) (i x : Int) : uI f i x i = x := by simp [uI]
theorem uI_n {f : Int → Int} {i j x : Int} (h : j ≠ i) : uI f i x j = f j := by simp [uI, h]
theorem qUp_u (g : qHp) (k : Nat) (i x : Int) : qUp g k i x k = uI (g k) i x := by funext j; simp [qUp, uI]
def hpL (f : Int → Int) : Nat → List Int
  | 0 => []
  | n + 1 => f n :: hpL f n
theorem hpL_eq {f f' : Int → Int} : ∀ {n : Nat}, (∀ i : Int, 0 ≤ i → i < n → f' i = f i) → hpL f' n = hpL f n
  | 0, _ => rfl
  | n + 1, h => by
    unfold hpL
    rw [h n (by omega) (by omega), hpL_eq (n := n) (fun i a b => h i a (by omega))]
theorem hpL_push {f : Int → Int} {n : Int} (h : 0 ≤ n) : hpL f (n + 1).toNat = f n :: hpL f n.toNat := by
  have e : (n + 1).toNat = n.toNat + 1 := by omega
  rw [e]
  show f ((n.toNat : Nat) : Int) :: _ = _
  rw [show ((n.toNat : Nat) : Int) = n by omega]
theorem hpL_mem {f : Int → Int} {x : Int} : ∀ {n : Nat}, x ∈ hpL f n ↔ ∃ i : Int, 0 ≤ i ∧ i < n ∧ f i = x
  | 0 => by simp [hpL]; omega
  | n + 1 => by
    simp only [hpL, List.mem_cons, hpL_mem (n := n)]
    constructor
    · rintro (h | ⟨i, a, b, c⟩)
      · exact ⟨n, by omega, by omega, h.symm⟩
      · exact ⟨i, a, by omega, c⟩
    · rintro ⟨i, a, b, c⟩
      by_cases h : i = n
      · exact Or.inl (by rw [← c, h])
      · exact Or.inr ⟨i, a, by omega, c⟩
theorem hpL_R {f : Int → Int} {i x : Int} : ∀ {n : Nat}, 0 ≤ i → i < n → (f i :: hpL (uI f i x) n).Perm (x :: hpL f n)
  | 0, h0, h1 => by omega
  | n + 1, h0, h1 => by
    unfold hpL
    by_cases h : i = n
    · subst h
      rw [uI_s, hpL_eq (f' := uI f n x) (f := f) (fun j a b => uI_n (by omega))]
      exact List.Perm.swap _ _ _
    · rw [uI_n (by omega)]
      refine (List.Perm.swap _ _ _).trans ((List.Perm.cons _ (hpL_R (n := n) h0 (by omega))).trans ?_)
      exact List.Perm.swap _ _ _
/-- two places change their values -/
theorem hpL_swap {f f1 : Int → Int} {i j : Int} {n : Nat} (hi : 0 ≤ i) (hi2 : i < n) (hj : 0 ≤ j) (hj2 : j < n) (hij : i ≠ j) (h1 : f1 i = f j) (h2 : f1 j = f i) (h3 : ∀ k, k ≠ i → k ≠ j → f1 k = f k) : (hpL f1 n).Perm (hpL f n) := by
  have e : f1 = uI (uI f i (f j)) j (f i) := by
    funext k
    by_cases a : k = j
    · rw [a, uI_s, h2]
    · by_cases b : k = i
      · rw [b, uI_n hij, uI_s, h1]
      · rw [uI_n a, uI_n b, h3 k b a]
  have p1 : (f i :: hpL (uI f i (f j)) n).Perm (f j :: hpL f n) := hpL_R hi hi2
  have p2 : (uI f i (f j) j :: hpL (uI (uI f i (f j)) j (f i)) n).Perm (f i :: hpL (uI f i (f j)) n) := hpL_R hj hj2
  rw [uI_n (Ne.symm hij)] at p2
  rw [e]
  exact (List.perm_cons _).mp (p2.trans p1)
def hpO (f : Int → Int) (n : Int) : Prop := ∀ i, 0 < i → i < n → f ((i - 1) / 2) ≤ f i
theorem hpO_min {f : Int → Int} {n : Int} (h : hpO f n) : ∀ (k : Nat) (i : Int), i ≤ k → 0 ≤ i → i < n → f 0 ≤ f i
  | 0, i, a, b, c => by
    have : i = 0 := by omega
    rw [this]
    exact Int.le_refl _
  | k + 1, i, a, b, c => by
    by_cases h0 : i = 0
    · rw [h0]
      exact Int.le_refl _
    · exact Int.le_trans (hpO_min h k ((i - 1) / 2) (by omega) (by omega) (by omega)) (h i (by omega) c)
/-- adding: the hole at a, the value x that is to come there -/
def hpA (f : Int → Int) (n a x : Int) : Prop := (∀ i, 0 < i → i < n + 1 → i ≠ a → uI f a x ((i - 1) / 2) ≤ uI f a x i) ∧ (0 < a → ∀ i, 0 < i → i < n + 1 → (i - 1) / 2 = a → uI f a x ((a - 1) / 2) ≤ uI f a x i)
theorem hpA_0 {f : Int → Int} {n x : Int} (h0 : 0 ≤ n) (h : hpO f n) : hpA f n n x := by
  refine ⟨fun i a b c => ?_, fun a i b c d => by omega⟩
  rw [uI_n (by omega), uI_n c]
  exact h i a (by omega)
theorem hpA_step {f : Int → Int} {n a x : Int} (h0 : 0 < a) (hn : a ≤ n) (h : hpA f n a x) (hx : x < f ((a - 1) / 2)) : hpA (uI f a (f ((a - 1) / 2))) n ((a - 1) / 2) x ∧ (hpL (uI (uI f a (f ((a - 1) / 2))) ((a - 1) / 2) x) (n + 1).toNat).Perm (hpL (uI f a x) (n + 1).toNat) := by
  obtain ⟨o1, o2⟩ := h
  have o2 := o2 h0
  have e1 : uI (uI f a (f ((a - 1) / 2))) ((a - 1) / 2) x a = f ((a - 1) / 2) := by rw [uI_n (by omega), uI_s]
  have e2 : uI (uI f a (f ((a - 1) / 2))) ((a - 1) / 2) x ((a - 1) / 2) = x := uI_s _ _ _
  have e3 : ∀ k, k ≠ a → k ≠ (a - 1) / 2 → uI (uI f a (f ((a - 1) / 2))) ((a - 1) / 2) x k = f k := fun k p q => by rw [uI_n q, uI_n p]
  have d1 : uI f a x a = x := uI_s _ _ _
  have d2 : ∀ k, k ≠ a → uI f a x k = f k := fun k p => uI_n p
  refine ⟨⟨fun i p q r => ?_, fun p i q r t => ?_⟩, hpL_swap (i := a) (j := (a - 1) / 2) (by omega) (by omega) (by omega) (by omega) (by omega) (by rw [e1, d2 _ (by omega)]) (by rw [e2, d1]) (fun k u v => by rw [e3 k u v, d2 k u])⟩
  · by_cases hi : i = a
    · rw [hi, e1, e2]
      omega
    · have u := o1 i p q hi
      by_cases hp : (i - 1) / 2 = a
      · have w := o2 i p q hp
        rw [d2 _ (by omega), d2 _ hi] at w
        rw [hp, e1, e3 i hi r]
        exact w
      · rw [d2 _ hp, d2 _ hi] at u
        by_cases hq : (i - 1) / 2 = (a - 1) / 2
        · rw [hq, e2, e3 i hi r]
          rw [hq] at u
          omega
        · rw [e3 _ hp hq, e3 i hi r]
          exact u
  · have u1 := o1 ((a - 1) / 2) p (by omega) (by omega)
    rw [d2 _ (by omega), d2 _ (by omega)] at u1
    rw [e3 (((a - 1) / 2 - 1) / 2) (by omega) (by omega)]
    by_cases hi : i = a
    · rw [hi, e1]
      exact u1
    · rw [e3 i hi (by omega)]
      have u := o1 i q r hi
      rw [t, d2 _ (by omega), d2 _ hi] at u
      omega
theorem hpA_end {f : Int → Int} {n a x : Int} (hn : 0 ≤ a) (h : hpA f n a x) (hx : a ≤ 0 ∨ f ((a - 1) / 2) ≤ x) : hpO (uI f a x) (n + 1) := by
  intro i p q
  by_cases hi : i = a
  · rw [hi, uI_s, uI_n (by omega)]
    omega
  · exact h.1 i p q hi
/-- sinking: the hole at a -/
def hpS (f : Int → Int) (n a x : Int) : Prop := (∀ i, 0 < i → i < n → (i - 1) / 2 ≠ a → uI f a x ((i - 1) / 2) ≤ uI f a x i) ∧ (0 < a → ∀ i, 0 < i → i < n → (i - 1) / 2 = a → uI f a x ((a - 1) / 2) ≤ uI f a x i)
theorem hpS_step {f : Int → Int} {n a c x : Int} (h0 : 0 ≤ a) (hc : (c - 1) / 2 = a) (hc0 : 0 < c) (hcn : c < n) (h : hpS f n a x) (hx : f c < x) (hs : ∀ i, 0 < i → i < n → (i - 1) / 2 = a → f c ≤ f i) : hpS (uI f a (f c)) n c x ∧ (hpL (uI (uI f a (f c)) c x) n.toNat).Perm (hpL (uI f a x) n.toNat) := by
  obtain ⟨o1, o2⟩ := h
  have e1 : uI (uI f a (f c)) c x a = f c := by rw [uI_n (by omega), uI_s]
  have e2 : uI (uI f a (f c)) c x c = x := uI_s _ _ _
  have e3 : ∀ k, k ≠ a → k ≠ c → uI (uI f a (f c)) c x k = f k := fun k p q => by rw [uI_n q, uI_n p]
  have d1 : uI f a x a = x := uI_s _ _ _
  have d2 : ∀ k, k ≠ a → uI f a x k = f k := fun k p => uI_n p
  refine ⟨⟨fun i p q r => ?_, fun p i q r t => ?_⟩, hpL_swap (i := a) (j := c) (by omega) (by omega) (by omega) (by omega) (by omega) (by rw [e1, d2 _ (by omega)]) (by rw [e2, d1]) (fun k u v => by rw [e3 k u v, d2 k u])⟩
  · by_cases hi : i = c
    · rw [hi, hc, e1, e2]
      omega
    · by_cases hia : i = a
      · subst hia
        have w := o2 (by omega) c hc0 hcn hc
        rw [d2 _ (by omega), d2 _ (by omega)] at w
        rw [e1, e3 _ (by omega) r]
        exact w
      · by_cases hp : (i - 1) / 2 = a
        · rw [hp, e1, e3 i hia hi]
          exact hs i p q hp
        · have u := o1 i p q hp
          rw [d2 _ hp, d2 _ hia] at u
          rw [e3 _ hp r, e3 i hia hi]
          exact u
  · rw [hc, e1, e3 i (by omega) (by omega)]
    have u := o1 i q r (by omega)
    rw [t, d2 _ (by omega), d2 _ (by omega)] at u
    exact u
theorem hpS_end {f : Int → Int} {n a x : Int} (h : hpS f n a x) (hx : ∀ i, 0 < i → i < n → (i - 1) / 2 = a → x ≤ f i) (ha : 0 ≤ a) : hpO (uI f a x) n := by
  intro i p q
  by_cases hi : (i - 1) / 2 = a
  · rw [hi, uI_s, uI_n (by omega)]
    exact hx i p q hi
  · exact h.1 i p q hi
/-- all but the heap's items and size stay -/
def hpK (g g' : qHp) : Prop := (∀ k, k ≠ 16 → k ≠ 17 → g' k = g k) ∧ ∀ j, j ≠ 1 → g' 16 j = g 16 j
set_option maxRecDepth 20000 in
theorem KX2_isEmpty (g : qHp)  : qC yX2_isEmpty (.code yX2_isEmpty cX2_isEmpty 1 (some .boolean)) 0 0 (fun ad => [.ref (ad 16)]) g (qPi (fun (r : Int) (g' : qHp) => ((g 16 1 = 0 ∧ r = 1) ∨ (g 16 1 ≠ 0 ∧ r = 0)) ∧ g' = g)) qNo := by
  refine q_meth (by decide +kernel) rfl (fun _ => (Nat.le_of_ble_eq_true rfl)) (fun X ω C => ?_)
  refine q_loc [(0, .ref (ω.1 16))] ⟨rfl, trivial⟩ ?_
  refine q_aload_n C 0 dX2_isEmpty_0 rfl rfl ?_
  refine q_geti C (b := 16) 1 1 0 1024 rfl (by decide) rfl in_X2 (by decide) fl_X2_13 rfl rfl rfl dX2_isEmpty_1 (fun v1 e1 l1 u1 => ?_)
  refine q_ifne C 11 dX2_isEmpty_4 (by decide) (by omega) (fun c4 => ?_) (fun c4 => ?_)
  · refine q_iconst C dX2_isEmpty_11 ?_
    subst e1
    exact q_iretZ C dX2_isEmpty_12 (by omega) (by decide) (⟨by omega, rfl⟩)
  · refine q_iconst C dX2_isEmpty_7 ?_
    refine q_goto C 12 dX2_isEmpty_8 (by decide) ?_
    subst e1
    exact q_iretZ C dX2_isEmpty_12 (by omega) (by decide) (⟨by omega, rfl⟩)
set_option maxRecDepth 20000 in
theorem KX2_clear (g : qHp)  : qC yX2_clear (.code yX2_clear cX2_clear 1 none) 0 0 (fun ad => [.ref (ad 16)]) g (qPv (fun g' : qHp => g' = (qUp g 16 1 0))) qNo := by
  refine q_meth (by decide +kernel) rfl (fun _ => (Nat.le_of_ble_eq_true rfl)) (fun X ω C => ?_)
  refine q_loc [(0, .ref (ω.1 16))] ⟨rfl, trivial⟩ ?_
  refine q_aload_n C 0 dX2_clear_0 rfl rfl ?_
  refine q_iconst C dX2_clear_1 ?_
  refine q_puti C (b := 16) 1 1 0 1024 _ rfl (by decide) rfl in_X2 tyX2_ok nmX2 (by decide) fl_X2_13 rfl (by decide +kernel) rfl rfl rfl rfl (by omega) dX2_clear_2 ?_
  exact q_retV C dX2_clear_5 (by decide) (rfl)
set_option maxRecDepth 20000 in
theorem KX2_add (g : qHp) (x : Int) (hx : -9223372036854775808 ≤ x ∧ x < 9223372036854775808) (hx2 : 0 ≤ x ∧ x ≤ 1099511627775) (hsz : g 16 1 < 1024) (ho : hpO (g 17) (g 16 1)) : qC yX2_add (.code yX2_add cX2_add 4 none) 0 0 (fun ad => [.ref (ad 16), .long (lI x)]) g (qPv (fun g' : qHp => hpO (g' 17) (g 16 1 + 1) ∧ (hpL (g' 17) (g 16 1 + 1).toNat).Perm (x :: hpL (g 17) (g 16 1).toNat) ∧ g' 16 1 = g 16 1 + 1 ∧ hpK g g')) qNo := by
  refine q_meth (by decide +kernel) rfl (fun _ => (Nat.le_of_ble_eq_true rfl)) (fun X ω C => ?_)
  refine q_nm (fun hn => ?_)
  have r16_1 : 0 ≤ g 16 1 ∧ g 16 1 ≤ 1024 := hn 16 1
  refine q_loc [(0, .ref (ω.1 16)), (1, .long (lI x))] ⟨rfl, rfl, trivial⟩ ?_
  refine q_aload_n C 0 dX2_add_0 rfl rfl ?_
  refine q_geti C (b := 16) 1 1 0 1024 rfl (by decide) rfl in_X2 (by decide) fl_X2_13 rfl rfl rfl dX2_add_1 (fun v1 e1 l1 u1 => ?_)
  refine q_sipush C dX2_add_4 (by decide +kernel) ?_
  refine q_icmp_lt C 11 dX2_add_7 (by decide) (by omega) (by omega) (fun c7 => ?_) (fun c7 => ?_)
  · refine q_aload_n C 0 dX2_add_11 rfl rfl ?_
    refine q_geti C (b := 16) 1 1 0 1024 rfl (by decide) rfl in_X2 (by decide) fl_X2_13 rfl rfl rfl dX2_add_12 (fun v12 e12 l12 u12 => ?_)
    refine q_istoreV_n C 3 dX2_add_15 rfl (by decide) (fun v15 e15 => ?_)
    refine q_aload_n C 0 dX2_add_16 rfl rfl ?_
    refine q_dup C dX2_add_17 rfl ?_
    refine q_geti C (b := 16) 1 1 0 1024 rfl (by decide) rfl in_X2 (by decide) fl_X2_13 rfl rfl rfl dX2_add_18 (fun v18 e18 l18 u18 => ?_)
    refine q_iconst C dX2_add_21 ?_
    refine q_iadd C dX2_add_22 ?_
    refine q_puti C (b := 16) 1 1 0 1024 _ rfl (by decide) rfl in_X2 tyX2_ok nmX2 (by decide) fl_X2_13 rfl (by decide +kernel) rfl rfl rfl rfl (by omega) dX2_add_23 ?_
    have loop : ∀ (n : Nat) (a : Int) (g1 : qHp), ((a) < (n : Int)) → (0 ≤ a ∧ a ≤ g 16 1) → (hpA (g1 17) (g 16 1) a x ∧ (hpL (uI (g1 17) a x) (g 16 1 + 1).toNat).Perm (x :: hpL (g 17) (g 16 1).toNat) ∧ g1 16 1 = g 16 1 + 1 ∧ hpK g g1) → qT X ω 4 0 (qEnd X ω (qPv (fun g' : qHp => hpO (g' 17) (g 16 1 + 1) ∧ (hpL (g' 17) (g 16 1 + 1).toNat).Perm (x :: hpL (g 17) (g 16 1).toNat) ∧ g' 16 1 = g 16 1 + 1 ∧ hpK g g')) qNo 0) g1 26 [(0, .ref (ω.1 16)), (1, .long (lI x)), (3, .int (iI a))] [] := by
      intro n
      induction n with
      | zero => intro a g1 hm ha hi; exfalso; omega
      | succ n ih =>
        intro a g1 hm ha hi
        obtain ⟨h1, h2, h3, h4⟩ := hi
        refine q_iload_n C 3 dX2_add_26 rfl rfl ?_
        refine q_ifle C 70 dX2_add_27 (by decide) (by omega) (fun c27 => ?_) (fun c27 => ?_)
        · refine q_aload_n C 0 dX2_add_70 rfl rfl ?_
          refine q_getr C (b := 16) 0 rfl (by decide) rfl in_X2 (by decide) fl_X2_9 rfl dX2_add_71 ?_
          refine q_iload_n C 3 dX2_add_74 rfl rfl ?_
          refine q_lload_n C 1 dX2_add_75 rfl rfl ?_
          refine q_last C (b := 17) (n := 1024) rfl (by decide) (by decide) (by omega)  (show 0 ≤ _ ∧ _ ≤ 1099511627775 from (by omega)) dX2_add_76 ?_
          refine q_retV C dX2_add_77 (by decide) ⟨?_, ?_, by rw [qUp_k (by decide)]; exact h3, fun k k1 k2 => by rw [qUp_row k2]; exact h4.1 k k1 k2, fun j hj => by rw [qUp_k (by decide)]; exact h4.2 j hj⟩
          · rw [qUp_u]
            exact hpA_end ha.1 h1 (by omega)
          · rw [qUp_u]
            exact h2
        · refine q_aload_n C 0 dX2_add_30 rfl rfl ?_
          refine q_getr C (b := 16) 0 rfl (by decide) rfl in_X2 (by decide) fl_X2_9 rfl dX2_add_31 ?_
          refine q_iload_n C 3 dX2_add_34 rfl rfl ?_
          refine q_iconst C dX2_add_35 ?_
          refine q_isub C dX2_add_36 ?_
          refine q_iconst C dX2_add_37 ?_
          refine q_idiv C dX2_add_38 (by omega) (by omega) ?_
          refine q_lald C (b := 17) (n := 1024) 0 1099511627775 rfl (by decide) (by decide) (by omega) (fun _ => rfl) dX2_add_39 (fun v39 e39 l39 u39 => ?_)
          refine q_lload_n C 1 dX2_add_40 rfl rfl ?_
          refine q_lcmpN C dX2_add_41 (by omega) (by omega) (fun v41 h41 => ?_)
          refine q_ifle C 70 dX2_add_42 (by decide) (by omega) (fun c42 => ?_) (fun c42 => ?_)
          · refine q_aload_n C 0 dX2_add_70 rfl rfl ?_
            refine q_getr C (b := 16) 0 rfl (by decide) rfl in_X2 (by decide) fl_X2_9 rfl dX2_add_71 ?_
            refine q_iload_n C 3 dX2_add_74 rfl rfl ?_
            refine q_lload_n C 1 dX2_add_75 rfl rfl ?_
            refine q_last C (b := 17) (n := 1024) rfl (by decide) (by decide) (by omega)  (show 0 ≤ _ ∧ _ ≤ 1099511627775 from (by omega)) dX2_add_76 ?_
            refine q_retV C dX2_add_77 (by decide) ⟨?_, ?_, by rw [qUp_k (by decide)]; exact h3, fun k k1 k2 => by rw [qUp_row k2]; exact h4.1 k k1 k2, fun j hj => by rw [qUp_k (by decide)]; exact h4.2 j hj⟩
            · rw [qUp_u]
              exact hpA_end ha.1 h1 (by subst e39; omega)
            · rw [qUp_u]
              exact h2
          · refine q_aload_n C 0 dX2_add_45 rfl rfl ?_
            refine q_getr C (b := 16) 0 rfl (by decide) rfl in_X2 (by decide) fl_X2_9 rfl dX2_add_46 ?_
            refine q_iload_n C 3 dX2_add_49 rfl rfl ?_
            refine q_aload_n C 0 dX2_add_50 rfl rfl ?_
            refine q_getr C (b := 16) 0 rfl (by decide) rfl in_X2 (by decide) fl_X2_9 rfl dX2_add_51 ?_
            refine q_iload_n C 3 dX2_add_54 rfl rfl ?_
            refine q_iconst C dX2_add_55 ?_
            refine q_isub C dX2_add_56 ?_
            refine q_iconst C dX2_add_57 ?_
            refine q_idiv C dX2_add_58 (by omega) (by omega) ?_
            refine q_lald C (b := 17) (n := 1024) 0 1099511627775 rfl (by decide) (by decide) (by omega) (fun _ => rfl) dX2_add_59 (fun v59 e59 l59 u59 => ?_)
            refine q_last C (b := 17) (n := 1024) rfl (by decide) (by decide) (by omega)  (show 0 ≤ _ ∧ _ ≤ 1099511627775 from (by omega)) dX2_add_60 ?_
            refine q_iload_n C 3 dX2_add_61 rfl rfl ?_
            refine q_iconst C dX2_add_62 ?_
            refine q_isub C dX2_add_63 ?_
            refine q_iconst C dX2_add_64 ?_
            refine q_idiv C dX2_add_65 (by omega) (by omega) ?_
            refine q_istoreV_n C 3 dX2_add_66 rfl (by decide) (fun v66 e66 => ?_)
            refine q_goto C 26 dX2_add_67 (by decide) ?_
            refine q_loc [(0, .ref (ω.1 16)), (1, .long (lI x)), (3, .int (iI v66))] ⟨rfl, rfl, rfl, trivial⟩ ?_
            exact ih v66 _ (by omega) (by omega) (by subst e66; subst e39; have e59 : v59 = g1 17 ((a - 1) / 2) := e59; subst e59; have q := hpA_step (by omega) ha.2 h1 (by omega); rw [qUp_u]; exact ⟨q.1, q.2.trans h2, by rw [qUp_k (by decide)]; exact h3, fun k k1 k2 => by rw [qUp_row k2]; exact h4.1 k k1 k2, fun j hj => by rw [qUp_k (by decide)]; exact h4.2 j hj⟩)
    refine q_loc [(0, .ref (ω.1 16)), (1, .long (lI x)), (3, .int (iI v15))] ⟨rfl, rfl, rfl, trivial⟩ ?_
    exact loop ((v15).toNat + 1) v15 _ (by omega) (by omega) ⟨by rw [e15, e12, qUp_row (by decide)]; exact hpA_0 r16_1.1 ho, by rw [e15, e12, qUp_row (by decide), hpL_push r16_1.1, uI_s, hpL_eq (f' := uI (g 17) (g 16 1) x) (f := g 17) (fun j p q => uI_n (by omega))], by rw [qUp_s, e18], fun k k1 k2 => qUp_row k1, fun j hj => qUp_j hj⟩
  · exfalso; omega
set_option maxRecDepth 20000 in
theorem KX2_sinkFromTop (g : qHp) (x : Int) (hx : -9223372036854775808 ≤ x ∧ x < 9223372036854775808) (hx2 : 0 ≤ x ∧ x ≤ 1099511627775) (ho : ∀ i, 0 < i → i < g 16 1 → (i - 1) / 2 ≠ 0 → g 17 ((i - 1) / 2) ≤ g 17 i) : qC yX2_sinkFromTop (.code yX2_sinkFromTop cX2_sinkFromTop 5 none) 0 0 (fun ad => [.ref (ad 16), .long (lI x)]) g (qPv (fun g' : qHp => hpO (g' 17) (g 16 1) ∧ (0 < g 16 1 → (g 17 0 :: hpL (g' 17) (g 16 1).toNat).Perm (x :: hpL (g 17) (g 16 1).toNat)) ∧ g' 16 = g 16 ∧ ∀ k, k ≠ 17 → g' k = g k)) qNo := by
  refine q_meth (by decide +kernel) rfl (fun _ => (Nat.le_of_ble_eq_true rfl)) (fun X ω C => ?_)
  refine q_nm (fun hn => ?_)
  have r16_1 : 0 ≤ g 16 1 ∧ g 16 1 ≤ 1024 := hn 16 1
  refine q_loc [(0, .ref (ω.1 16)), (1, .long (lI x))] ⟨rfl, rfl, trivial⟩ ?_
  refine q_iconst C dX2_sinkFromTop_0 ?_
  refine q_istoreV_n C 3 dX2_sinkFromTop_1 rfl (by decide) (fun v1 e1 => ?_)
  refine q_iconst C dX2_sinkFromTop_2 ?_
  refine q_istoreV C dX2_sinkFromTop_3 (by decide) (fun v3 e3 => ?_)
  have loop : ∀ (n : Nat) (a b : Int) (g1 : qHp), ((1025 - a) < (n : Int)) → (0 ≤ a ∧ a ≤ 1023 ∧ b = 2 * a + 1 ∧ (a = 0 ∨ a < g 16 1)) → (hpS (g1 17) (g 16 1) a x ∧ (0 < g 16 1 → (g 17 0 :: hpL (uI (g1 17) a x) (g 16 1).toNat).Perm (x :: hpL (g 17) (g 16 1).toNat)) ∧ g1 16 = g 16 ∧ ∀ k, k ≠ 17 → g1 k = g k) → qT X ω 5 0 (qEnd X ω (qPv (fun g' : qHp => hpO (g' 17) (g 16 1) ∧ (0 < g 16 1 → (g 17 0 :: hpL (g' 17) (g 16 1).toNat).Perm (x :: hpL (g 17) (g 16 1).toNat)) ∧ g' 16 = g 16 ∧ ∀ k, k ≠ 17 → g' k = g k)) qNo 0) g1 5 [(0, .ref (ω.1 16)), (1, .long (lI x)), (3, .int (iI a)), (4, .int (iI b))] [] := by
    intro n
    induction n with
    | zero => intro a b g1 hm ha hh; exfalso; omega
    | succ n ih =>
      intro a b g1 hm ha hh
      obtain ⟨h1, h2, h3, h4⟩ := hh
      have hs1 : g1 16 1 = g 16 1 := by rw [h3]
      refine q_iload C dX2_sinkFromTop_5 rfl ?_
      refine q_aload_n C 0 dX2_sinkFromTop_7 rfl rfl ?_
      refine q_geti C (b := 16) 1 1 0 1024 rfl (by decide) rfl in_X2 (by decide) fl_X2_13 rfl rfl rfl dX2_sinkFromTop_8 (fun v8 e8 l8 u8 => ?_)
      refine q_icmp_ge C 89 dX2_sinkFromTop_11 (by decide) (by omega) (by omega) (fun c11 => ?_) (fun c11 => ?_)
      · refine q_aload_n C 0 dX2_sinkFromTop_89 rfl rfl ?_
        refine q_getr C (b := 16) 0 rfl (by decide) rfl in_X2 (by decide) fl_X2_9 rfl dX2_sinkFromTop_90 ?_
        refine q_iload_n C 3 dX2_sinkFromTop_93 rfl rfl ?_
        refine q_lload_n C 1 dX2_sinkFromTop_94 rfl rfl ?_
        refine q_last C (b := 17) (n := 1024) rfl (by decide) (by decide) (by omega)  (show 0 ≤ _ ∧ _ ≤ 1099511627775 from (by omega)) dX2_sinkFromTop_95 ?_
        refine q_retV C dX2_sinkFromTop_96 (by decide) ⟨?_, fun hz => ?_, by rw [qUp_row (by decide)]; exact h3, fun k k1 => by rw [qUp_row k1]; exact h4 k k1⟩
        · rw [qUp_u]
          exact hpS_end h1 (fun i p q r => by exfalso; omega) ha.1
        · rw [qUp_u]
          exact h2 hz
      · refine q_iload C dX2_sinkFromTop_14 rfl ?_
        refine q_iconst C dX2_sinkFromTop_16 ?_
        refine q_iadd C dX2_sinkFromTop_17 ?_
        refine q_aload_n C 0 dX2_sinkFromTop_18 rfl rfl ?_
        refine q_geti C (b := 16) 1 1 0 1024 rfl (by decide) rfl in_X2 (by decide) fl_X2_13 rfl rfl rfl dX2_sinkFromTop_19 (fun v19 e19 l19 u19 => ?_)
        refine q_icmp_ge C 48 dX2_sinkFromTop_22 (by decide) (by omega) (by omega) (fun c22 => ?_) (fun c22 => ?_)
        · refine q_aload_n C 0 dX2_sinkFromTop_48 rfl rfl ?_
          refine q_getr C (b := 16) 0 rfl (by decide) rfl in_X2 (by decide) fl_X2_9 rfl dX2_sinkFromTop_49 ?_
          refine q_iload C dX2_sinkFromTop_52 rfl ?_
          refine q_lald C (b := 17) (n := 1024) 0 1099511627775 rfl (by decide) (by decide) (by omega) (fun _ => rfl) dX2_sinkFromTop_54 (fun v54 e54 l54 u54 => ?_)
          refine q_lload_n C 1 dX2_sinkFromTop_55 rfl rfl ?_
          refine q_lcmpN C dX2_sinkFromTop_56 (by omega) (by omega) (fun v56 h56 => ?_)
          refine q_iflt C 63 dX2_sinkFromTop_57 (by decide) (by omega) (fun c57 => ?_) (fun c57 => ?_)
          · refine q_aload_n C 0 dX2_sinkFromTop_63 rfl rfl ?_
            refine q_getr C (b := 16) 0 rfl (by decide) rfl in_X2 (by decide) fl_X2_9 rfl dX2_sinkFromTop_64 ?_
            refine q_iload_n C 3 dX2_sinkFromTop_67 rfl rfl ?_
            refine q_aload_n C 0 dX2_sinkFromTop_68 rfl rfl ?_
            refine q_getr C (b := 16) 0 rfl (by decide) rfl in_X2 (by decide) fl_X2_9 rfl dX2_sinkFromTop_69 ?_
            refine q_iload C dX2_sinkFromTop_72 rfl ?_
            refine q_lald C (b := 17) (n := 1024) 0 1099511627775 rfl (by decide) (by decide) (by omega) (fun _ => rfl) dX2_sinkFromTop_74 (fun v74 e74 l74 u74 => ?_)
            refine q_last C (b := 17) (n := 1024) rfl (by decide) (by decide) (by omega)  (show 0 ≤ _ ∧ _ ≤ 1099511627775 from (by omega)) dX2_sinkFromTop_75 ?_
            refine q_iload C dX2_sinkFromTop_76 rfl ?_
            refine q_istoreV_n C 3 dX2_sinkFromTop_78 rfl (by decide) (fun v78 e78 => ?_)
            refine q_iconst C dX2_sinkFromTop_79 ?_
            refine q_iload_n C 3 dX2_sinkFromTop_80 rfl rfl ?_
            refine q_imul C dX2_sinkFromTop_81 ?_
            refine q_iconst C dX2_sinkFromTop_82 ?_
            refine q_iadd C dX2_sinkFromTop_83 ?_
            refine q_istoreV C dX2_sinkFromTop_84 (by decide) (fun v84 e84 => ?_)
            refine q_goto C 5 dX2_sinkFromTop_86 (by decide) ?_
            refine q_loc [(0, .ref (ω.1 16)), (1, .long (lI x)), (3, .int (iI v78)), (4, .int (iI v84))] ⟨rfl, rfl, rfl, rfl, trivial⟩ ?_
            have e74 : v74 = g1 17 b := e74
            have e54 : v54 = g1 17 b := e54
            have q := hpS_step (c := b) (by omega) (by omega) (by omega) (by omega) h1 (by omega) (fun i p q r => by rcases (show i = b ∨ i = b + 1 by omega) with rfl | rfl <;> omega)
            rw [← e74] at q
            subst e78
            exact ih _ v84 _ (by omega) (by omega) ⟨by rw [qUp_u]; exact q.1, fun hz => by rw [qUp_u]; exact (q.2.cons _).trans (h2 hz), by rw [qUp_row (by decide)]; exact h3, fun k k1 => by rw [qUp_row k1]; exact h4 k k1⟩
          · refine q_goto C 89 dX2_sinkFromTop_60 (by decide) ?_
            refine q_aload_n C 0 dX2_sinkFromTop_89 rfl rfl ?_
            refine q_getr C (b := 16) 0 rfl (by decide) rfl in_X2 (by decide) fl_X2_9 rfl dX2_sinkFromTop_90 ?_
            refine q_iload_n C 3 dX2_sinkFromTop_93 rfl rfl ?_
            refine q_lload_n C 1 dX2_sinkFromTop_94 rfl rfl ?_
            refine q_last C (b := 17) (n := 1024) rfl (by decide) (by decide) (by omega)  (show 0 ≤ _ ∧ _ ≤ 1099511627775 from (by omega)) dX2_sinkFromTop_95 ?_
            refine q_retV C dX2_sinkFromTop_96 (by decide) ⟨?_, fun hz => ?_, by rw [qUp_row (by decide)]; exact h3, fun k k1 => by rw [qUp_row k1]; exact h4 k k1⟩
            · rw [qUp_u]
              exact hpS_end h1 (fun i p q r => by rcases (show i = b ∨ i = b + 1 by omega) with rfl | rfl <;> omega) ha.1
            · rw [qUp_u]
              exact h2 hz
        · refine q_aload_n C 0 dX2_sinkFromTop_25 rfl rfl ?_
          refine q_getr C (b := 16) 0 rfl (by decide) rfl in_X2 (by decide) fl_X2_9 rfl dX2_sinkFromTop_26 ?_
          refine q_iload C dX2_sinkFromTop_29 rfl ?_
          refine q_iconst C dX2_sinkFromTop_31 ?_
          refine q_iadd C dX2_sinkFromTop_32 ?_
          refine q_lald C (b := 17) (n := 1024) 0 1099511627775 rfl (by decide) (by decide) (by omega) (fun _ => rfl) dX2_sinkFromTop_33 (fun v33 e33 l33 u33 => ?_)
          refine q_aload_n C 0 dX2_sinkFromTop_34 rfl rfl ?_
          refine q_getr C (b := 16) 0 rfl (by decide) rfl in_X2 (by decide) fl_X2_9 rfl dX2_sinkFromTop_35 ?_
          refine q_iload C dX2_sinkFromTop_38 rfl ?_
          refine q_lald C (b := 17) (n := 1024) 0 1099511627775 rfl (by decide) (by decide) (by omega) (fun _ => rfl) dX2_sinkFromTop_40 (fun v40 e40 l40 u40 => ?_)
          refine q_lcmpN C dX2_sinkFromTop_41 (by omega) (by omega) (fun v41 h41 => ?_)
          refine q_ifge C 48 dX2_sinkFromTop_42 (by decide) (by omega) (fun c42 => ?_) (fun c42 => ?_)
          · refine q_aload_n C 0 dX2_sinkFromTop_48 rfl rfl ?_
            refine q_getr C (b := 16) 0 rfl (by decide) rfl in_X2 (by decide) fl_X2_9 rfl dX2_sinkFromTop_49 ?_
            refine q_iload C dX2_sinkFromTop_52 rfl ?_
            refine q_lald C (b := 17) (n := 1024) 0 1099511627775 rfl (by decide) (by decide) (by omega) (fun _ => rfl) dX2_sinkFromTop_54 (fun v54 e54 l54 u54 => ?_)
            refine q_lload_n C 1 dX2_sinkFromTop_55 rfl rfl ?_
            refine q_lcmpN C dX2_sinkFromTop_56 (by omega) (by omega) (fun v56 h56 => ?_)
            refine q_iflt C 63 dX2_sinkFromTop_57 (by decide) (by omega) (fun c57 => ?_) (fun c57 => ?_)
            · refine q_aload_n C 0 dX2_sinkFromTop_63 rfl rfl ?_
              refine q_getr C (b := 16) 0 rfl (by decide) rfl in_X2 (by decide) fl_X2_9 rfl dX2_sinkFromTop_64 ?_
              refine q_iload_n C 3 dX2_sinkFromTop_67 rfl rfl ?_
              refine q_aload_n C 0 dX2_sinkFromTop_68 rfl rfl ?_
              refine q_getr C (b := 16) 0 rfl (by decide) rfl in_X2 (by decide) fl_X2_9 rfl dX2_sinkFromTop_69 ?_
              refine q_iload C dX2_sinkFromTop_72 rfl ?_
              refine q_lald C (b := 17) (n := 1024) 0 1099511627775 rfl (by decide) (by decide) (by omega) (fun _ => rfl) dX2_sinkFromTop_74 (fun v74 e74 l74 u74 => ?_)
              refine q_last C (b := 17) (n := 1024) rfl (by decide) (by decide) (by omega)  (show 0 ≤ _ ∧ _ ≤ 1099511627775 from (by omega)) dX2_sinkFromTop_75 ?_
              refine q_iload C dX2_sinkFromTop_76 rfl ?_
              refine q_istoreV_n C 3 dX2_sinkFromTop_78 rfl (by decide) (fun v78 e78 => ?_)
              refine q_iconst C dX2_sinkFromTop_79 ?_
              refine q_iload_n C 3 dX2_sinkFromTop_80 rfl rfl ?_
              refine q_imul C dX2_sinkFromTop_81 ?_
              refine q_iconst C dX2_sinkFromTop_82 ?_
              refine q_iadd C dX2_sinkFromTop_83 ?_
              refine q_istoreV C dX2_sinkFromTop_84 (by decide) (fun v84 e84 => ?_)
              refine q_goto C 5 dX2_sinkFromTop_86 (by decide) ?_
              refine q_loc [(0, .ref (ω.1 16)), (1, .long (lI x)), (3, .int (iI v78)), (4, .int (iI v84))] ⟨rfl, rfl, rfl, rfl, trivial⟩ ?_
              have e74 : v74 = g1 17 b := e74
              have e54 : v54 = g1 17 b := e54
              have q := hpS_step (c := b) (by omega) (by omega) (by omega) (by omega) h1 (by omega) (fun i p q r => by rcases (show i = b ∨ i = b + 1 by omega) with rfl | rfl <;> omega)
              rw [← e74] at q
              subst e78
              exact ih _ v84 _ (by omega) (by omega) ⟨by rw [qUp_u]; exact q.1, fun hz => by rw [qUp_u]; exact (q.2.cons _).trans (h2 hz), by rw [qUp_row (by decide)]; exact h3, fun k k1 => by rw [qUp_row k1]; exact h4 k k1⟩
            · refine q_goto C 89 dX2_sinkFromTop_60 (by decide) ?_
              refine q_aload_n C 0 dX2_sinkFromTop_89 rfl rfl ?_
              refine q_getr C (b := 16) 0 rfl (by decide) rfl in_X2 (by decide) fl_X2_9 rfl dX2_sinkFromTop_90 ?_
              refine q_iload_n C 3 dX2_sinkFromTop_93 rfl rfl ?_
              refine q_lload_n C 1 dX2_sinkFromTop_94 rfl rfl ?_
              refine q_last C (b := 17) (n := 1024) rfl (by decide) (by decide) (by omega)  (show 0 ≤ _ ∧ _ ≤ 1099511627775 from (by omega)) dX2_sinkFromTop_95 ?_
              refine q_retV C dX2_sinkFromTop_96 (by decide) ⟨?_, fun hz => ?_, by rw [qUp_row (by decide)]; exact h3, fun k k1 => by rw [qUp_row k1]; exact h4 k k1⟩
              · rw [qUp_u]
                exact hpS_end h1 (fun i p q r => by rcases (show i = b ∨ i = b + 1 by omega) with rfl | rfl <;> omega) ha.1
              · rw [qUp_u]
                exact h2 hz
          · refine q_iinc C dX2_sinkFromTop_45 rfl (by decide) (fun v45 e45 => ?_)
            refine q_aload_n C 0 dX2_sinkFromTop_48 rfl rfl ?_
            refine q_getr C (b := 16) 0 rfl (by decide) rfl in_X2 (by decide) fl_X2_9 rfl dX2_sinkFromTop_49 ?_
            refine q_iload C dX2_sinkFromTop_52 rfl ?_
            refine q_lald C (b := 17) (n := 1024) 0 1099511627775 rfl (by decide) (by decide) (by omega) (fun _ => rfl) dX2_sinkFromTop_54 (fun v54 e54 l54 u54 => ?_)
            refine q_lload_n C 1 dX2_sinkFromTop_55 rfl rfl ?_
            refine q_lcmpN C dX2_sinkFromTop_56 (by omega) (by omega) (fun v56 h56 => ?_)
            refine q_iflt C 63 dX2_sinkFromTop_57 (by decide) (by omega) (fun c57 => ?_) (fun c57 => ?_)
            · refine q_aload_n C 0 dX2_sinkFromTop_63 rfl rfl ?_
              refine q_getr C (b := 16) 0 rfl (by decide) rfl in_X2 (by decide) fl_X2_9 rfl dX2_sinkFromTop_64 ?_
              refine q_iload_n C 3 dX2_sinkFromTop_67 rfl rfl ?_
              refine q_aload_n C 0 dX2_sinkFromTop_68 rfl rfl ?_
              refine q_getr C (b := 16) 0 rfl (by decide) rfl in_X2 (by decide) fl_X2_9 rfl dX2_sinkFromTop_69 ?_
              refine q_iload C dX2_sinkFromTop_72 rfl ?_
              refine q_lald C (b := 17) (n := 1024) 0 1099511627775 rfl (by decide) (by decide) (by omega) (fun _ => rfl) dX2_sinkFromTop_74 (fun v74 e74 l74 u74 => ?_)
              refine q_last C (b := 17) (n := 1024) rfl (by decide) (by decide) (by omega)  (show 0 ≤ _ ∧ _ ≤ 1099511627775 from (by omega)) dX2_sinkFromTop_75 ?_
              refine q_iload C dX2_sinkFromTop_76 rfl ?_
              refine q_istoreV_n C 3 dX2_sinkFromTop_78 rfl (by decide) (fun v78 e78 => ?_)
              refine q_iconst C dX2_sinkFromTop_79 ?_
              refine q_iload_n C 3 dX2_sinkFromTop_80 rfl rfl ?_
              refine q_imul C dX2_sinkFromTop_81 ?_
              refine q_iconst C dX2_sinkFromTop_82 ?_
              refine q_iadd C dX2_sinkFromTop_83 ?_
              refine q_istoreV C dX2_sinkFromTop_84 (by decide) (fun v84 e84 => ?_)
              refine q_goto C 5 dX2_sinkFromTop_86 (by decide) ?_
              subst e45
              refine q_loc [(0, .ref (ω.1 16)), (1, .long (lI x)), (3, .int (iI v78)), (4, .int (iI v84))] ⟨rfl, rfl, rfl, rfl, trivial⟩ ?_
              have e74 : v74 = g1 17 (b + 1) := e74
              have e54 : v54 = g1 17 (b + 1) := e54
              have q := hpS_step (c := (b + 1)) (by omega) (by omega) (by omega) (by omega) h1 (by omega) (fun i p q r => by rcases (show i = b ∨ i = b + 1 by omega) with rfl | rfl <;> omega)
              rw [← e74] at q
              subst e78
              exact ih _ v84 _ (by omega) (by omega) ⟨by rw [qUp_u]; exact q.1, fun hz => by rw [qUp_u]; exact (q.2.cons _).trans (h2 hz), by rw [qUp_row (by decide)]; exact h3, fun k k1 => by rw [qUp_row k1]; exact h4 k k1⟩
            · refine q_goto C 89 dX2_sinkFromTop_60 (by decide) ?_
              refine q_aload_n C 0 dX2_sinkFromTop_89 rfl rfl ?_
              refine q_getr C (b := 16) 0 rfl (by decide) rfl in_X2 (by decide) fl_X2_9 rfl dX2_sinkFromTop_90 ?_
              refine q_iload_n C 3 dX2_sinkFromTop_93 rfl rfl ?_
              refine q_lload_n C 1 dX2_sinkFromTop_94 rfl rfl ?_
              refine q_last C (b := 17) (n := 1024) rfl (by decide) (by decide) (by omega)  (show 0 ≤ _ ∧ _ ≤ 1099511627775 from (by omega)) dX2_sinkFromTop_95 ?_
              subst e45
              refine q_retV C dX2_sinkFromTop_96 (by decide) ⟨?_, fun hz => ?_, by rw [qUp_row (by decide)]; exact h3, fun k k1 => by rw [qUp_row k1]; exact h4 k k1⟩
              · rw [qUp_u]
                exact hpS_end h1 (fun i p q r => by rcases (show i = b ∨ i = b + 1 by omega) with rfl | rfl <;> omega) ha.1
              · rw [qUp_u]
                exact h2 hz
  refine q_loc [(0, .ref (ω.1 16)), (1, .long (lI x)), (3, .int (iI v1)), (4, .int (iI v3))] ⟨rfl, rfl, rfl, rfl, trivial⟩ ?_
  exact loop ((1025 - v1).toNat + 1) v1 v3 g (by omega) (by omega) ⟨⟨fun i p q r => by subst e1; rw [uI_n r, uI_n (by omega)]; exact ho i p q r, fun p => by omega⟩, fun hz => by subst e1; exact hpL_R (by omega) (by omega), rfl, fun _ _ => rfl⟩
set_option maxRecDepth 20000 in
theorem KX2_takeFirst (g : qHp) (hsz : 0 < g 16 1) (ho : hpO (g 17) (g 16 1)) : qC yX2_takeFirst (.code yX2_takeFirst cX2_takeFirst 3 (some .long)) 1 0 (fun ad => [.ref (ad 16)]) g (qPl (fun (r : Int) (g' : qHp) => r = g 17 0 ∧ hpO (g' 17) (g 16 1 - 1) ∧ (r :: hpL (g' 17) (g 16 1 - 1).toNat).Perm (hpL (g 17) (g 16 1).toNat) ∧ g' 16 1 = g 16 1 - 1 ∧ hpK g g')) qNo := by
  refine q_meth (by decide +kernel) rfl (fun _ => (Nat.le_of_ble_eq_true rfl)) (fun X ω C => ?_)
  refine q_nm (fun hn => ?_)
  have r16_1 : 0 ≤ g 16 1 ∧ g 16 1 ≤ 1024 := hn 16 1
  refine q_loc [(0, .ref (ω.1 16))] ⟨rfl, trivial⟩ ?_
  refine q_aload_n C 0 dX2_takeFirst_0 rfl rfl ?_
  refine q_geti C (b := 16) 1 1 0 1024 rfl (by decide) rfl in_X2 (by decide) fl_X2_13 rfl rfl rfl dX2_takeFirst_1 (fun v1 e1 l1 u1 => ?_)
  refine q_ifne C 9 dX2_takeFirst_4 (by decide) (by omega) (fun c4 => ?_) (fun c4 => ?_)
  · refine q_aload_n C 0 dX2_takeFirst_9 rfl rfl ?_
    refine q_getr C (b := 16) 0 rfl (by decide) rfl in_X2 (by decide) fl_X2_9 rfl dX2_takeFirst_10 ?_
    refine q_iconst C dX2_takeFirst_13 ?_
    refine q_lald C (b := 17) (n := 1024) 0 1099511627775 rfl (by decide) (by decide) (by omega) (fun _ => rfl) dX2_takeFirst_14 (fun v14 e14 l14 u14 => ?_)
    refine q_lstore_n C 1 dX2_takeFirst_15 rfl (by decide) ?_
    refine q_aload_n C 0 dX2_takeFirst_16 rfl rfl ?_
    refine q_dup C dX2_takeFirst_17 rfl ?_
    refine q_geti C (b := 16) 1 1 0 1024 rfl (by decide) rfl in_X2 (by decide) fl_X2_13 rfl rfl rfl dX2_takeFirst_18 (fun v18 e18 l18 u18 => ?_)
    refine q_iconst C dX2_takeFirst_21 ?_
    refine q_isub C dX2_takeFirst_22 ?_
    refine q_puti C (b := 16) 1 1 0 1024 _ rfl (by decide) rfl in_X2 tyX2_ok nmX2 (by decide) fl_X2_13 rfl (by decide +kernel) rfl rfl rfl rfl (by omega) dX2_takeFirst_23 ?_
    refine q_aload_n C 0 dX2_takeFirst_26 rfl rfl ?_
    refine q_aload_n C 0 dX2_takeFirst_27 rfl rfl ?_
    refine q_getr C (b := 16) 0 rfl (by decide) rfl in_X2 (by decide) fl_X2_9 rfl dX2_takeFirst_28 ?_
    refine q_aload_n C 0 dX2_takeFirst_31 rfl rfl ?_
    refine q_geti C (b := 16) 1 1 0 1024 rfl (by decide) rfl in_X2 (by decide) fl_X2_13 rfl rfl rfl dX2_takeFirst_32 (fun v32 e32 l32 u32 => ?_)
    have q32 : v32 = g 16 1 - 1 := by rw [e32, qUp_s, e18]
    refine q_lald C (b := 17) (n := 1024) 0 1099511627775 rfl (by decide) (by decide) (by omega) (fun _ => rfl) dX2_takeFirst_35 (fun v35 e35 l35 u35 => ?_)
    have q35 : v35 = g 17 (g 16 1 - 1) := by rw [e35, qUp_k (by decide), q32]
    refine q_Vw0 C (KX2_sinkFromTop _ _ (by omega) (by omega) (fun i p q r => by rw [qUp_row (by decide)]; rw [qUp_s] at q; exact ho i p (by omega))) mX2_sinkFromTop ml_X2_17 dX2_takeFirst_36 (by decide) (by decide) rfl rfl rfl (Nat.le_of_ble_eq_true rfl) rfl (by decide) rfl rfl (fun g36 h36 => ?_)
    refine q_lload_n C 1 dX2_takeFirst_39 rfl rfl ?_
    obtain ⟨z1, z2, z3, z4⟩ := h36
    rw [qUp_s, qUp_k (by decide), qUp_row (by decide)] at z2
    rw [qUp_s] at z1
    subst e18
    refine q_lretL C dX2_takeFirst_40 (by omega) (by decide) ⟨e14, z1, ?_, ?_, fun k k1 k2 => ?_, fun j hj => ?_⟩
    · rw [e14]
      by_cases hz : 0 < g 16 1 - 1
      · refine (z2 hz).trans ?_
        have hp := hpL_push (f := g 17) (n := g 16 1 - 1) (by omega)
        rw [Int.sub_add_cancel] at hp
        rw [q35, hp]
      · have h1 : g 16 1 = 1 := by omega
        rw [h1]
        exact List.Perm.refl _
    · rw [z3, qUp_s]
    · rw [z4 k k2, qUp_row k1]
    · rw [z3, qUp_j hj]
  · refine q_lconst0 C dX2_takeFirst_7 ?_
    exfalso; omega
