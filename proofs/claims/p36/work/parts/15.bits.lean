/-! Planner: a begun plan in one long -/
theorem qb_l (n : Nat) : lI (n : Int) = lN n := Int64.ofInt_eq_ofNat
theorem qb_i (n : Nat) : iI (n : Int) = nI n := Int32.ofInt_eq_ofNat
theorem qb_tb (n : Nat) : (lN n).toBitVec = BitVec.ofNat 64 n := rfl
theorem qb_inj {a b : Int64} (h : a.toBitVec = b.toBitVec) : a = b := Int64.toBitVec_inj.mp h
theorem qb_c : ∀ k, k < 64 → ((nI k).toInt64 &&& 63) = lN k := by decide +kernel
theorem qb_sm : ∀ k, k < 64 → (BitVec.ofNat 64 k).smod 64 = BitVec.ofNat 64 k := by decide +kernel
theorem qb_shlN (n : Nat) {k : Nat} (hk : k < 64) : lN n <<< ((nI k).toInt64 &&& 63) = lN (n * 2 ^ k) := by
  rw [qb_c k hk]
  apply qb_inj
  rw [Int64.toBitVec_shiftLeft, qb_tb, qb_tb, qb_tb, qb_sm k hk]
  apply BitVec.eq_of_toNat_eq
  rw [BitVec.shiftLeft_eq', BitVec.toNat_shiftLeft, BitVec.toNat_ofNat, BitVec.toNat_ofNat, BitVec.toNat_ofNat, Nat.mod_eq_of_lt (show k < 2 ^ 64 by omega), Nat.shiftLeft_eq, Nat.mul_mod, Nat.mod_mod, ← Nat.mul_mod]
theorem qb_shl {a : Int} (h : 0 ≤ a) {k : Nat} {c : Int} (hk : k < 64) (hc : ((2 ^ k : Nat) : Int) = c) : lI a <<< ((iI (k : Int)).toInt64 &&& 63) = lI (a * c) := by
  obtain ⟨n, rfl⟩ : ∃ n : Nat, a = n := ⟨a.toNat, by omega⟩
  rw [qb_l, qb_i, qb_shlN n hk, ← qb_l, ← hc]
  rw [Int.natCast_mul]
theorem qb_shr {a : Int} (h : 0 ≤ a) (h2 : a < 9223372036854775808) {k : Nat} {c : Int} (hk : k < 64) (hc : ((2 ^ k : Nat) : Int) = c) : lI a >>> ((iI (k : Int)).toInt64 &&& 63) = lI (a / c) := by
  have hc0 : 0 < c := by rw [← hc]; exact Int.natCast_pos.mpr (Nat.two_pow_pos k)
  have hp : 0 ≤ a / c := Int.ediv_nonneg h (by omega)
  have hl : a / c ≤ a := Int.ediv_le_self _ h
  apply Int64.toInt_inj.mp
  rw [qb_i, qb_c k hk]
  show ((lI a).toBitVec.sshiftRight ((lN k).toBitVec.smod 64).toNat).toInt = _
  have e : ((lN k).toBitVec.smod 64).toNat = k := by
    rw [qb_tb, qb_sm k hk, BitVec.toNat_ofNat, Nat.mod_eq_of_lt (by omega)]
  rw [e, BitVec.toInt_sshiftRight]
  show (lI a).toInt >>> k = _
  rw [lI_t (by omega), lI_t (by omega), Int.shiftRight_eq_div_pow]
  rw [hc]
theorem qb_orN {a b : Nat} (ha : a < 2 ^ 64) (hb : b < 2 ^ 64) : lN a ||| lN b = lN (a ||| b) := by
  apply qb_inj
  rw [Int64.toBitVec_or, qb_tb, qb_tb, qb_tb]
  apply BitVec.eq_of_toNat_eq
  rw [BitVec.toNat_or, BitVec.toNat_ofNat, BitVec.toNat_ofNat, BitVec.toNat_ofNat, Nat.mod_eq_of_lt ha, Nat.mod_eq_of_lt hb, Nat.mod_eq_of_lt (Nat.or_lt_two_pow ha hb)]
/-- an or of a multiple of c = 2 ^ k and a number below c is a sum -/
theorem qb_or {a b : Int} (k : Nat) (c : Int) (hc : ((2 ^ k : Nat) : Int) = c) (ha : 0 ≤ a) (ha2 : a < 4611686018427387904) (hm : a % c = 0) (hb : 0 ≤ b) (hb2 : b < c) (hc2 : c ≤ 4611686018427387904) : lI a ||| lI b = lI (a + b) := by
  obtain ⟨n, rfl⟩ : ∃ n : Nat, a = n := ⟨a.toNat, by omega⟩
  obtain ⟨m, rfl⟩ : ∃ m : Nat, b = m := ⟨b.toNat, by omega⟩
  rw [qb_l, qb_l, qb_orN (by omega) (by omega)]
  have hm2 : n % 2 ^ k = 0 := by
    rw [← hc] at hm
    have : ((n % 2 ^ k : Nat) : Int) = 0 := by rw [Int.natCast_emod]; exact hm
    omega
  have hb3 : m < 2 ^ k := by rw [← hc] at hb2; omega
  have e : 2 ^ k * (n / 2 ^ k) = n := Nat.mul_div_cancel' (Nat.dvd_of_mod_eq_zero hm2)
  have h := Nat.two_pow_add_eq_or_of_lt hb3 (n / 2 ^ k)
  rw [e] at h
  rw [← h, ← qb_l, Int.natCast_add]
theorem qb_and {B m : Int} (k : Nat) (c : Int) (hc : ((2 ^ k : Nat) : Int) = c) (hk : k ≤ 31) (hm : (iI m).toBitVec.toNat = 2 ^ k - 1) (hB : 0 ≤ B) : iI B &&& iI m = iI (B % c) := by
  obtain ⟨n, rfl⟩ : ∃ n : Nat, B = n := ⟨B.toNat, by omega⟩
  rw [pk_and (iI (n : Int)) k hm, ← hc, ← Int.natCast_emod, qb_i, qb_i]
  congr 1
  show (BitVec.ofNat 32 n).toNat % 2 ^ k = n % 2 ^ k
  rw [BitVec.toNat_ofNat]
  exact Nat.mod_mod_of_dvd n (Nat.pow_dvd_pow 2 (by omega))
theorem qb_ishr {B : Int} (k : Nat) (c : Int) (hc : ((2 ^ k : Nat) : Int) = c) (hs : ((iI (k : Int) &&& 31).toBitVec.smod 32).toNat = k) (hB : 0 ≤ B) (hB2 : B < 2147483648) : iI B >>> (iI (k : Int) &&& 31) = iI (B / c) := by
  obtain ⟨n, rfl⟩ : ∃ n : Nat, B = n := ⟨B.toNat, by omega⟩
  rw [qb_i n, pk_shrN (by omega) _ k hs, ← hc, ← Int.natCast_ediv, qb_i]
def bSh (i : Int) : Int := if i = 0 then 16777216 else if i = 1 then 131072 else if i = 2 then 1024 else 8
def bMv (B i : Int) : Int := B / bSh i % 128
set_option maxRecDepth 20000 in
theorem KX3_begunWith (g : qHp) (n : Int) (hn : -2147483648 ≤ n ∧ n < 2147483648) (hn2 : 0 ≤ n ∧ n ≤ 511) : qC yX3_begunWith (.code yX3_begunWith cX3_begunWith 1 (some .long)) 0 0 (fun ad => [.int (iI n)]) g (qPl (fun (r : Int) (g' : qHp) => (r = n * 2147483648) ∧ g' = g)) qNo := by
  refine q_meth (by decide +kernel) rfl (fun _ => (Nat.le_of_ble_eq_true rfl)) (fun X ω C => ?_)
  refine q_loc [(0, .int (iI n))] ⟨rfl, trivial⟩ ?_
  refine q_iload_n C 0 dX3_begunWith_0 rfl rfl ?_
  refine q_i2l C dX3_begunWith_1 (by omega) ?_
  refine q_bipush C dX3_begunWith_2 (by decide +kernel) ?_
  refine q_lshl C dX3_begunWith_4 _ (qb_shl (k := 31) (c := 2147483648) (by omega) (by decide) (by decide)) ?_
  exact q_lretL C dX3_begunWith_5 (by omega) (by decide) (⟨rfl, rfl⟩)
set_option maxRecDepth 20000 in
theorem KX3_needOf (g : qHp) (B : Int) (hB : -9223372036854775808 ≤ B ∧ B < 9223372036854775808) (hB2 : 0 ≤ B ∧ B ≤ 1099511627775) : qC yX3_needOf (.code yX3_needOf cX3_needOf 2 (some .int)) 0 0 (fun ad => [.long (lI B)]) g (qPi (fun (r : Int) (g' : qHp) => (r = B / 2147483648) ∧ g' = g)) qNo := by
  refine q_meth (by decide +kernel) rfl (fun _ => (Nat.le_of_ble_eq_true rfl)) (fun X ω C => ?_)
  refine q_loc [(0, .long (lI B))] ⟨rfl, trivial⟩ ?_
  refine q_lload_n C 0 dX3_needOf_0 rfl rfl ?_
  refine q_bipush C dX3_needOf_1 (by decide +kernel) ?_
  refine q_lshr C dX3_needOf_3 _ (qb_shr (k := 31) (c := 2147483648) (by omega) (by omega) (by decide) (by decide)) ?_
  refine q_l2i C dX3_needOf_4 ?_
  exact q_iretI C dX3_needOf_5 (by omega) (by decide) (⟨by omega, rfl⟩)
set_option maxRecDepth 20000 in
theorem KX3_lengthOf (g : qHp) (B : Int) (hB : -9223372036854775808 ≤ B ∧ B < 9223372036854775808) (hB2 : 0 ≤ B ∧ B ≤ 1099511627775) : qC yX3_lengthOf (.code yX3_lengthOf cX3_lengthOf 2 (some .int)) 0 0 (fun ad => [.long (lI B)]) g (qPi (fun (r : Int) (g' : qHp) => (r = B % 8) ∧ g' = g)) qNo := by
  refine q_meth (by decide +kernel) rfl (fun _ => (Nat.le_of_ble_eq_true rfl)) (fun X ω C => ?_)
  refine q_loc [(0, .long (lI B))] ⟨rfl, trivial⟩ ?_
  refine q_lload_n C 0 dX3_lengthOf_0 rfl rfl ?_
  refine q_l2i C dX3_lengthOf_1 ?_
  refine q_bipush C dX3_lengthOf_2 (by decide +kernel) ?_
  refine q_iand C dX3_lengthOf_4 _ (qb_and 3 8 (by decide) (by decide) (by decide +kernel) (by omega)) ?_
  exact q_iretI C dX3_lengthOf_5 (by omega) (by decide) (⟨by omega, rfl⟩)
set_option maxRecDepth 20000 in
theorem KX3_shiftOf (g : qHp) (i : Int) (hi : -2147483648 ≤ i ∧ i < 2147483648) (hi2 : 0 ≤ i ∧ i ≤ 3) : qC yX3_shiftOf (.code yX3_shiftOf cX3_shiftOf 1 (some .int)) 0 0 (fun ad => [.int (iI i)]) g (qPi (fun (r : Int) (g' : qHp) => (r = 3 + (3 - i) * 7) ∧ g' = g)) qNo := by
  refine q_meth (by decide +kernel) rfl (fun _ => (Nat.le_of_ble_eq_true rfl)) (fun X ω C => ?_)
  refine q_loc [(0, .int (iI i))] ⟨rfl, trivial⟩ ?_
  refine q_iconst C dX3_shiftOf_0 ?_
  refine q_iconst C dX3_shiftOf_1 ?_
  refine q_iload_n C 0 dX3_shiftOf_2 rfl rfl ?_
  refine q_isub C dX3_shiftOf_3 ?_
  refine q_bipush C dX3_shiftOf_4 (by decide +kernel) ?_
  refine q_imul C dX3_shiftOf_6 ?_
  refine q_iadd C dX3_shiftOf_7 ?_
  exact q_iretI C dX3_shiftOf_8 (by omega) (by decide) (⟨by omega, rfl⟩)
set_option maxRecDepth 20000 in
theorem KX3_moveOf (g : qHp) (B : Int) (hB : -9223372036854775808 ≤ B ∧ B < 9223372036854775808) (i : Int) (hi : -2147483648 ≤ i ∧ i < 2147483648) (hB2 : 0 ≤ B ∧ B ≤ 1099511627775) (hi2 : 0 ≤ i ∧ i ≤ 3) : qC yX3_moveOf (.code yX3_moveOf cX3_moveOf 3 (some .int)) 1 0 (fun ad => [.long (lI B), .int (iI i)]) g (qPi (fun (r : Int) (g' : qHp) => (r = bMv B i) ∧ g' = g)) qNo := by
  refine q_meth (by decide +kernel) rfl (fun _ => (Nat.le_of_ble_eq_true rfl)) (fun X ω C => ?_)
  refine q_loc [(0, .long (lI B)), (2, .int (iI i))] ⟨rfl, rfl, trivial⟩ ?_
  refine q_lload_n C 0 dX3_moveOf_0 rfl rfl ?_
  refine q_iload_n C 2 dX3_moveOf_1 rfl rfl ?_
  refine q_Sf0 C (KX3_shiftOf _ _ (by omega) (by omega)) mX3_shiftOf ml_X3_106 dX3_moveOf_2 (by decide) (by decide) rfl rfl rfl (Nat.le_of_ble_eq_true rfl) (fun v2 l2 u2 h2 => ?_)
  rcases (show i = 0 ∨ i = 1 ∨ i = 2 ∨ i = 3 by omega) with rfl | rfl | rfl | rfl
  · subst h2
    refine q_lshr C dX3_moveOf_5 _ (qb_shr (k := 24) (c := 16777216) (by omega) (by omega) (by decide) (by decide)) ?_
    refine q_l2i C dX3_moveOf_6 ?_
    refine q_bipush C dX3_moveOf_7 (by decide +kernel) ?_
    refine q_iand C dX3_moveOf_9 _ (qb_and 7 128 (by decide) (by decide) (by decide +kernel) (by omega)) ?_
    exact q_iretI C dX3_moveOf_10 (by omega) (by decide) ⟨rfl, rfl⟩
  · subst h2
    refine q_lshr C dX3_moveOf_5 _ (qb_shr (k := 17) (c := 131072) (by omega) (by omega) (by decide) (by decide)) ?_
    refine q_l2i C dX3_moveOf_6 ?_
    refine q_bipush C dX3_moveOf_7 (by decide +kernel) ?_
    refine q_iand C dX3_moveOf_9 _ (qb_and 7 128 (by decide) (by decide) (by decide +kernel) (by omega)) ?_
    exact q_iretI C dX3_moveOf_10 (by omega) (by decide) ⟨rfl, rfl⟩
  · subst h2
    refine q_lshr C dX3_moveOf_5 _ (qb_shr (k := 10) (c := 1024) (by omega) (by omega) (by decide) (by decide)) ?_
    refine q_l2i C dX3_moveOf_6 ?_
    refine q_bipush C dX3_moveOf_7 (by decide +kernel) ?_
    refine q_iand C dX3_moveOf_9 _ (qb_and 7 128 (by decide) (by decide) (by decide +kernel) (by omega)) ?_
    exact q_iretI C dX3_moveOf_10 (by omega) (by decide) ⟨rfl, rfl⟩
  · subst h2
    refine q_lshr C dX3_moveOf_5 _ (qb_shr (k := 3) (c := 8) (by omega) (by omega) (by decide) (by decide)) ?_
    refine q_l2i C dX3_moveOf_6 ?_
    refine q_bipush C dX3_moveOf_7 (by decide +kernel) ?_
    refine q_iand C dX3_moveOf_9 _ (qb_and 7 128 (by decide) (by decide) (by decide +kernel) (by omega)) ?_
    exact q_iretI C dX3_moveOf_10 (by omega) (by decide) ⟨rfl, rfl⟩
set_option maxRecDepth 20000 in
theorem KX3_extraNeed (g : qHp) (f : Int) (hf : -2147483648 ≤ f ∧ f < 2147483648) (t : Int) (ht : -2147483648 ≤ t ∧ t < 2147483648) (h : Int) (hh : -2147483648 ≤ h ∧ h < 2147483648)  : qC yX3_extraNeed (.code yX3_extraNeed cX3_extraNeed 3 (some .int)) 0 0 (fun ad => [.int (iI f), .int (iI t), .int (iI h)]) g (qPi (fun (r : Int) (g' : qHp) => ((f = h ∧ r = 0) ∨ (f ≠ h ∧ t = h ∧ r = 2) ∨ (f ≠ h ∧ t ≠ h ∧ r = 1)) ∧ g' = g)) qNo := by
  refine q_meth (by decide +kernel) rfl (fun _ => (Nat.le_of_ble_eq_true rfl)) (fun X ω C => ?_)
  refine q_loc [(0, .int (iI f)), (1, .int (iI t)), (2, .int (iI h))] ⟨rfl, rfl, rfl, trivial⟩ ?_
  refine q_iload_n C 0 dX3_extraNeed_0 rfl rfl ?_
  refine q_iload_n C 2 dX3_extraNeed_1 rfl rfl ?_
  refine q_icmp_ne C 7 dX3_extraNeed_2 (by decide) (by omega) (by omega) (fun c2 => ?_) (fun c2 => ?_)
  · refine q_iload_n C 1 dX3_extraNeed_7 rfl rfl ?_
    refine q_iload_n C 2 dX3_extraNeed_8 rfl rfl ?_
    refine q_icmp_ne C 16 dX3_extraNeed_9 (by decide) (by omega) (by omega) (fun c9 => ?_) (fun c9 => ?_)
    · refine q_iconst C dX3_extraNeed_16 ?_
      exact q_iretI C dX3_extraNeed_17 (by omega) (by decide) (⟨by omega, rfl⟩)
    · refine q_iconst C dX3_extraNeed_12 ?_
      refine q_goto C 17 dX3_extraNeed_13 (by decide) ?_
      exact q_iretI C dX3_extraNeed_17 (by omega) (by decide) (⟨by omega, rfl⟩)
  · refine q_iconst C dX3_extraNeed_5 ?_
    exact q_iretI C dX3_extraNeed_6 (by omega) (by decide) (⟨by omega, rfl⟩)
set_option maxRecDepth 20000 in
theorem KX3_goneOn (g : qHp) (B : Int) (hB : -9223372036854775808 ≤ B ∧ B < 9223372036854775808) (nd : Int) (hnd : -2147483648 ≤ nd ∧ nd < 2147483648) (bx : Int) (hbx : -2147483648 ≤ bx ∧ bx < 2147483648) (sk : Int) (hsk : -2147483648 ≤ sk ∧ sk < 2147483648) (hB2 : 0 ≤ B ∧ B ≤ 1099511627775) (hnd2 : 0 ≤ nd ∧ nd ≤ 5) (hbx2 : 0 ≤ bx ∧ bx ≤ 19) (hsk2 : 0 ≤ sk ∧ sk ≤ 3) (hlen : B % 8 ≤ 3) (hlow : (B % 2147483648 - B % 8) % (bSh (B % 8) * 128) = 0) : qC yX3_goneOn (.code yX3_goneOn cX3_goneOn 10 (some .long)) 1 0 (fun ad => [.long (lI B), .int (iI nd), .int (iI bx), .int (iI sk)]) g (qPl (fun (r : Int) (g' : qHp) => (r = nd * 2147483648 + (B % 2147483648 - B % 8) + (bx * 4 + sk) * bSh (B % 8) + (B % 8 + 1)) ∧ g' = g)) qNo := by
  refine q_meth (by decide +kernel) rfl (fun _ => (Nat.le_of_ble_eq_true rfl)) (fun X ω C => ?_)
  refine q_loc [(0, .long (lI B)), (2, .int (iI nd)), (3, .int (iI bx)), (4, .int (iI sk))] ⟨rfl, rfl, rfl, rfl, trivial⟩ ?_
  refine q_lload_n C 0 dX3_goneOn_0 rfl rfl ?_
  refine q_Sf0 C (KX3_lengthOf _ _ (by omega) (by omega)) mX3_lengthOf ml_X3_54 dX3_goneOn_1 (by decide) (by decide) rfl rfl rfl (Nat.le_of_ble_eq_true rfl) (fun v1 l1 u1 h1 => ?_)
  refine q_istoreV C dX3_goneOn_4 (by decide) (fun v4 e4 => ?_)
  refine q_iload_n C 3 dX3_goneOn_6 rfl rfl ?_
  refine q_i2l C dX3_goneOn_7 (by omega) ?_
  refine q_iconst C dX3_goneOn_8 ?_
  refine q_lshl C dX3_goneOn_9 _ (qb_shl (k := 2) (c := 4) (by omega) (by decide) (by decide)) ?_
  refine q_iload C dX3_goneOn_10 rfl ?_
  refine q_i2l C dX3_goneOn_12 (by omega) ?_
  refine q_lor C dX3_goneOn_13 _ (qb_or 2 4 (by decide) (by omega) (by omega) (by omega) (by omega) (by omega) (by decide)) ?_
  refine q_lstore C dX3_goneOn_14 (by decide) ?_
  refine q_lload_n C 0 dX3_goneOn_16 rfl rfl ?_
  refine q_lload_n C 0 dX3_goneOn_17 rfl rfl ?_
  refine q_Sf0 C (KX3_needOf _ _ (by omega) (by omega)) mX3_needOf ml_X3_50 dX3_goneOn_18 (by decide) (by decide) rfl rfl rfl (Nat.le_of_ble_eq_true rfl) (fun v18 l18 u18 h18 => ?_)
  refine q_Sl0 C (KX3_begunWith _ _ (by omega) (by omega)) mX3_begunWith ml_X3_34 dX3_goneOn_21 (by decide) (by decide) rfl rfl rfl (Nat.le_of_ble_eq_true rfl) (fun v21 l21 u21 h21 => ?_)
  refine q_lsub C dX3_goneOn_24 ?_
  refine q_iload C dX3_goneOn_25 rfl ?_
  refine q_i2l C dX3_goneOn_27 (by omega) ?_
  refine q_lsub C dX3_goneOn_28 ?_
  refine q_lstore C dX3_goneOn_29 (by decide) ?_
  refine q_iload_n C 2 dX3_goneOn_31 rfl rfl ?_
  refine q_Sl0 C (KX3_begunWith _ _ (by omega) (by omega)) mX3_begunWith ml_X3_34 dX3_goneOn_32 (by decide) (by decide) rfl rfl rfl (Nat.le_of_ble_eq_true rfl) (fun v32 l32 u32 h32 => ?_)
  refine q_lload C dX3_goneOn_35 rfl ?_
  have q8 : v21 = B / 2147483648 * 2147483648 := by rw [h21, h18]
  have hd : B = 2147483648 * (B / 2147483648) + B % 2147483648 := (Int.mul_ediv_add_emod B 2147483648).symm
  have hml : 0 ≤ B % 2147483648 := Int.emod_nonneg _ (by decide)
  have hm2 : B % 2147483648 < 2147483648 := Int.emod_lt_of_pos _ (by decide)
  have hm8 : (B % 2147483648) % 8 = B % 8 := Int.emod_emod_of_dvd B (by decide)
  have el : B - v21 - v4 = B % 2147483648 - B % 8 := by omega
  rw [el]
  subst e4
  generalize hL : B % 2147483648 - B % 8 = L at *
  have hL0 : 0 ≤ L ∧ L < 2147483648 := by omega
  refine q_lor C dX3_goneOn_37 _ (qb_or 31 2147483648 (by decide) (by omega) (by omega) (by omega) (by omega) (by omega) (by decide)) ?_
  refine q_lload C dX3_goneOn_38 rfl ?_
  refine q_iload C dX3_goneOn_40 rfl ?_
  refine q_Sf0 C (KX3_shiftOf _ _ (by omega) (by omega)) mX3_shiftOf ml_X3_106 dX3_goneOn_42 (by decide) (by decide) rfl rfl rfl (Nat.le_of_ble_eq_true rfl) (fun v42 l42 u42 h42 => ?_)
  generalize hK : B % 8 = K at *
  rcases (show K = 0 ∨ K = 1 ∨ K = 2 ∨ K = 3 by omega) with rfl | rfl | rfl | rfl
  · have hv1 : v4 = 0 := by omega
    have hv42 : v42 = 24 := by omega
    subst hv1
    subst hv42
    have hl3 : L % 2147483648 = 0 := hlow
    refine q_lshl C dX3_goneOn_45 _ (qb_shl (k := 24) (c := 16777216) (by omega) (by decide) (by decide)) ?_
    refine q_lor C dX3_goneOn_46 _ (qb_or 31 2147483648 (by decide) (by omega) (by omega) (by omega) (by omega) (by omega) (by decide)) ?_
    refine q_iload C dX3_goneOn_47 rfl ?_
    refine q_iconst C dX3_goneOn_49 ?_
    refine q_iadd C dX3_goneOn_50 ?_
    refine q_i2l C dX3_goneOn_51 (by omega) ?_
    refine q_lor C dX3_goneOn_52 _ (qb_or 3 8 (by decide) (by omega) (by omega) (by omega) (by omega) (by omega) (by decide)) ?_
    exact q_lretL C dX3_goneOn_53 (by omega) (by decide) ⟨by show _ = nd * 2147483648 + L + (bx * 4 + sk) * 16777216 + (0 + 1); omega, rfl⟩
  · have hv1 : v4 = 1 := by omega
    have hv42 : v42 = 17 := by omega
    subst hv1
    subst hv42
    have hl3 : L % 16777216 = 0 := hlow
    refine q_lshl C dX3_goneOn_45 _ (qb_shl (k := 17) (c := 131072) (by omega) (by decide) (by decide)) ?_
    refine q_lor C dX3_goneOn_46 _ (qb_or 24 16777216 (by decide) (by omega) (by omega) (by omega) (by omega) (by omega) (by decide)) ?_
    refine q_iload C dX3_goneOn_47 rfl ?_
    refine q_iconst C dX3_goneOn_49 ?_
    refine q_iadd C dX3_goneOn_50 ?_
    refine q_i2l C dX3_goneOn_51 (by omega) ?_
    refine q_lor C dX3_goneOn_52 _ (qb_or 3 8 (by decide) (by omega) (by omega) (by omega) (by omega) (by omega) (by decide)) ?_
    exact q_lretL C dX3_goneOn_53 (by omega) (by decide) ⟨by show _ = nd * 2147483648 + L + (bx * 4 + sk) * 131072 + (1 + 1); omega, rfl⟩
  · have hv1 : v4 = 2 := by omega
    have hv42 : v42 = 10 := by omega
    subst hv1
    subst hv42
    have hl3 : L % 131072 = 0 := hlow
    refine q_lshl C dX3_goneOn_45 _ (qb_shl (k := 10) (c := 1024) (by omega) (by decide) (by decide)) ?_
    refine q_lor C dX3_goneOn_46 _ (qb_or 17 131072 (by decide) (by omega) (by omega) (by omega) (by omega) (by omega) (by decide)) ?_
    refine q_iload C dX3_goneOn_47 rfl ?_
    refine q_iconst C dX3_goneOn_49 ?_
    refine q_iadd C dX3_goneOn_50 ?_
    refine q_i2l C dX3_goneOn_51 (by omega) ?_
    refine q_lor C dX3_goneOn_52 _ (qb_or 3 8 (by decide) (by omega) (by omega) (by omega) (by omega) (by omega) (by decide)) ?_
    exact q_lretL C dX3_goneOn_53 (by omega) (by decide) ⟨by show _ = nd * 2147483648 + L + (bx * 4 + sk) * 1024 + (2 + 1); omega, rfl⟩
  · have hv1 : v4 = 3 := by omega
    have hv42 : v42 = 3 := by omega
    subst hv1
    subst hv42
    have hl3 : L % 1024 = 0 := hlow
    refine q_lshl C dX3_goneOn_45 _ (qb_shl (k := 3) (c := 8) (by omega) (by decide) (by decide)) ?_
    refine q_lor C dX3_goneOn_46 _ (qb_or 10 1024 (by decide) (by omega) (by omega) (by omega) (by omega) (by omega) (by decide)) ?_
    refine q_iload C dX3_goneOn_47 rfl ?_
    refine q_iconst C dX3_goneOn_49 ?_
    refine q_iadd C dX3_goneOn_50 ?_
    refine q_i2l C dX3_goneOn_51 (by omega) ?_
    refine q_lor C dX3_goneOn_52 _ (qb_or 3 8 (by decide) (by omega) (by omega) (by omega) (by omega) (by omega) (by decide)) ?_
    exact q_lretL C dX3_goneOn_53 (by omega) (by decide) ⟨by show _ = nd * 2147483648 + L + (bx * 4 + sk) * 8 + (3 + 1); omega, rfl⟩
set_option maxRecDepth 20000 in
theorem KX3_length (g : qHp)  : qC yX3_length (.code yX3_length cX3_length 1 (some .int)) 1 0 (fun ad => [.ref (ad 15)]) g (qPi (fun (r : Int) (g' : qHp) => (r = g 15 3 % 8) ∧ g' = g)) qNo := by
  refine q_meth (by decide +kernel) rfl (fun _ => (Nat.le_of_ble_eq_true rfl)) (fun X ω C => ?_)
  refine q_loc [(0, .ref (ω.1 15))] ⟨rfl, trivial⟩ ?_
  refine q_aload_n C 0 dX3_length_0 rfl rfl ?_
  refine q_getl C (b := 15) 3 3 0 1099511627775 rfl (by decide) rfl in_X3 (by decide) fl_X3_57 rfl rfl rfl dX3_length_1 (fun v1 e1 l1 u1 => ?_)
  refine q_Sf0 C (KX3_lengthOf _ _ (by omega) (by omega)) mX3_lengthOf ml_X3_54 dX3_length_4 (by decide) (by decide) rfl rfl rfl (Nat.le_of_ble_eq_true rfl) (fun v4 l4 u4 h4 => ?_)
  subst e1
  exact q_iretI C dX3_length_7 (by omega) (by decide) (⟨by omega, rfl⟩)
set_option maxRecDepth 20000 in
theorem KX3_boxMoved (g : qHp) (i : Int) (hi : -2147483648 ≤ i ∧ i < 2147483648) (hi2 : 0 ≤ i ∧ i ≤ 3) : qC yX3_boxMoved (.code yX3_boxMoved cX3_boxMoved 2 (some .int)) 2 0 (fun ad => [.ref (ad 15), .int (iI i)]) g (qPi (fun (r : Int) (g' : qHp) => (r = bMv (g 15 3) i / 4 ∧ 0 ≤ r ∧ r < 32) ∧ g' = g)) qNo := by
  refine q_meth (by decide +kernel) rfl (fun _ => (Nat.le_of_ble_eq_true rfl)) (fun X ω C => ?_)
  refine q_loc [(0, .ref (ω.1 15)), (1, .int (iI i))] ⟨rfl, rfl, trivial⟩ ?_
  refine q_aload_n C 0 dX3_boxMoved_0 rfl rfl ?_
  refine q_getl C (b := 15) 3 3 0 1099511627775 rfl (by decide) rfl in_X3 (by decide) fl_X3_57 rfl rfl rfl dX3_boxMoved_1 (fun v1 e1 l1 u1 => ?_)
  refine q_iload_n C 1 dX3_boxMoved_4 rfl rfl ?_
  refine q_Sf0 C (KX3_moveOf _ _ (by omega) _ (by omega) (by omega) (by omega)) mX3_moveOf ml_X3_68 dX3_boxMoved_5 (by decide) (by decide) rfl rfl rfl (Nat.le_of_ble_eq_true rfl) (fun v5 l5 u5 h5 => ?_)
  refine q_iconst C dX3_boxMoved_8 ?_
  have q5 : 0 ≤ v5 ∧ v5 < 128 := by
    rw [h5]
    unfold bMv
    omega
  refine q_ishr C dX3_boxMoved_9 _ (qb_ishr 2 4 (by decide) (by decide +kernel) (by omega) (by omega)) ?_
  subst e1
  exact q_iretI C dX3_boxMoved_10 (by omega) (by decide) ⟨⟨by rw [h5], by omega, by omega⟩, rfl⟩
set_option maxRecDepth 20000 in
theorem KX3_stackReached (g : qHp) (i : Int) (hi : -2147483648 ≤ i ∧ i < 2147483648) (hi2 : 0 ≤ i ∧ i ≤ 3) : qC yX3_stackReached (.code yX3_stackReached cX3_stackReached 2 (some .int)) 2 0 (fun ad => [.ref (ad 15), .int (iI i)]) g (qPi (fun (r : Int) (g' : qHp) => (r = bMv (g 15 3) i % 4 ∧ 0 ≤ r ∧ r < 4) ∧ g' = g)) qNo := by
  refine q_meth (by decide +kernel) rfl (fun _ => (Nat.le_of_ble_eq_true rfl)) (fun X ω C => ?_)
  refine q_loc [(0, .ref (ω.1 15)), (1, .int (iI i))] ⟨rfl, rfl, trivial⟩ ?_
  refine q_aload_n C 0 dX3_stackReached_0 rfl rfl ?_
  refine q_getl C (b := 15) 3 3 0 1099511627775 rfl (by decide) rfl in_X3 (by decide) fl_X3_57 rfl rfl rfl dX3_stackReached_1 (fun v1 e1 l1 u1 => ?_)
  refine q_iload_n C 1 dX3_stackReached_4 rfl rfl ?_
  refine q_Sf0 C (KX3_moveOf _ _ (by omega) _ (by omega) (by omega) (by omega)) mX3_moveOf ml_X3_68 dX3_stackReached_5 (by decide) (by decide) rfl rfl rfl (Nat.le_of_ble_eq_true rfl) (fun v5 l5 u5 h5 => ?_)
  refine q_iconst C dX3_stackReached_8 ?_
  have q5 : 0 ≤ v5 ∧ v5 < 128 := by
    rw [h5]
    unfold bMv
    omega
  refine q_iand C dX3_stackReached_9 _ (qb_and 2 4 (by decide) (by decide) (by decide +kernel) (by omega)) ?_
  subst e1
  exact q_iretI C dX3_stackReached_10 (by omega) (by decide) ⟨⟨by rw [h5], by omega, by omega⟩, rfl⟩
