/-! Quaylock: holds, moves, appointments -/
theorem bkB_K {g g' : qHp} {x : Int} (h1 : g' 22 = g 22) (h2 : g' 19 = g 19) : bkB g' x = bkB g x := by
  unfold bkB
  rw [h1, h2]
theorem bkL_K {g g' : qHp} {l h : Int} (h1 : g' 22 = g 22) (h2 : g' 21 = g 21) (h3 : g' 20 = g 20) : bkL g' l h = bkL g l h := by
  unfold bkL
  rw [h1, h2, h3]
def sh5 (g : qHp) (f t : Int) : qHp := (qUp (qUp (qUp (qUp (qUp (qUp (qUp g 7 f ((g 7) f - 1)) 9 ((g 8) (f * 4 + (g 7) f - 1)) (-1)) 5 6 (w32 (g 5 6 - 1))) 8 (t * 4 + (g 7) t) ((g 8) (f * 4 + (g 7) f - 1))) 7 t ((g 7) t + 1)) 9 ((g 8) (f * 4 + (g 7) f - 1)) t) 5 6 (w32 (w32 (g 5 6 - 1) + 1)))
def mv5 (g : qHp) (f t : Int) : qHp := qUp (sh5 g f t) 0 5 (w32 (g 0 5 + 1))
theorem w32_pm {v : Int} (h : -2147483648 ≤ v ∧ v ≤ 2147483647) : w32 (w32 (v - 1) + 1) = v := by
  unfold w32
  omega
theorem mv5_rows (g : qHp) (f t : Int) : mv5 g f t 5 5 = g 5 5 ∧ mv5 g f t 5 6 = w32 (w32 (g 5 6 - 1) + 1) ∧ mv5 g f t 6 = g 6 ∧ mv5 g f t 7 = uI (uI (g 7) f (g 7 f - 1)) t (g 7 t + 1) ∧ mv5 g f t 8 = uI (g 8) (t * 4 + g 7 t) (g 8 (f * 4 + g 7 f - 1)) ∧ mv5 g f t 9 = uI (uI (g 9) (g 8 (f * 4 + g 7 f - 1)) (-1)) (g 8 (f * 4 + g 7 f - 1)) t ∧ (∀ k, k ≠ 0 → k ≠ 5 → k ≠ 7 → k ≠ 8 → k ≠ 9 → mv5 g f t k = g k) ∧ mv5 g f t 0 5 = w32 (g 0 5 + 1) ∧ ∀ j, j ≠ 5 → mv5 g f t 0 j = g 0 j := by
  unfold mv5 sh5
  refine ⟨?_, ?_, ?_, ?_, ?_, ?_, fun k h0 h5 h7 h8 h9 => ?_, ?_, fun j hj => ?_⟩
  · rw [qUp_k (by decide), qUp_j (by decide), qUp_k (by decide), qUp_k (by decide), qUp_k (by decide), qUp_j (by decide), qUp_k (by decide), qUp_k (by decide)]
  · rw [qUp_k (by decide), qUp_s]
  · rw [qUp_row (by decide), qUp_row (by decide), qUp_row (by decide), qUp_row (by decide), qUp_row (by decide), qUp_row (by decide), qUp_row (by decide), qUp_row (by decide)]
  · rw [qUp_row (by decide), qUp_row (by decide), qUp_row (by decide), qUp_u, qUp_row (by decide), qUp_row (by decide), qUp_row (by decide), qUp_u]
  · rw [qUp_row (by decide), qUp_row (by decide), qUp_row (by decide), qUp_row (by decide), qUp_u, qUp_row (by decide), qUp_row (by decide), qUp_row (by decide)]
  · rw [qUp_row (by decide), qUp_row (by decide), qUp_u, qUp_row (by decide), qUp_row (by decide), qUp_row (by decide), qUp_u, qUp_row (by decide)]
  · rw [qUp_row h0, qUp_row h5, qUp_row h9, qUp_row h7, qUp_row h8, qUp_row h5, qUp_row h9, qUp_row h7]
  · rw [qUp_s]
  · rw [qUp_j hj, qUp_k (by decide), qUp_k (by decide), qUp_k (by decide), qUp_k (by decide), qUp_k (by decide), qUp_k (by decide), qUp_k (by decide)]
abbrev okY (g : qHp) (s t x : Int) : Prop := okM (g 5 5) (cut4 (g 6)) (cGet (g 1 3) (g 2) 0) (pinB g) (stOf (g 7) (g 8)) s t x
/-- what a move does to the yard -/
theorem mv5_ok {g : qHp} {w : Int → Int} {pn : Int → Bool} {s t x : Int} (o : yOK (g 5 5) (g 6) (g 7) (g 8) (g 9)) (k : okM (g 5 5) (cut4 (g 6)) w pn (stOf (g 7) (g 8)) s t x) : (0 ≤ s ∧ s < g 5 5 ∧ g 7 s ≠ 0 ∧ s ≠ t) ∧ (0 ≤ t ∧ t < g 5 5 ∧ g 7 t < g 6 t) ∧ g 9 x = s ∧ (0 ≤ x ∧ x < 20) ∧ yOK (mv5 g s t 5 5) (mv5 g s t 6) (mv5 g s t 7) (mv5 g s t 8) (mv5 g s t 9) ∧ stOf (mv5 g s t 7) (mv5 g s t 8) = doM (stOf (g 7) (g 8)) s t x ∧ mv5 g s t 7 = uI (uI (g 7) s (g 7 s - 1)) t (g 7 t + 1) ∧ mv5 g s t 8 = uI (g 8) (t * 4 + g 7 t) x ∧ mv5 g s t 9 = uI (uI (g 9) x (-1)) x t := by
  obtain ⟨q1, q2, q3, q4, q5, q6, q7, q8, q9⟩ := okM_in o k
  have m := yOK_mv o k
  obtain ⟨k1, k2, k3, k4, -⟩ := k
  obtain ⟨r1, -, r2, r3, r4, r5, -⟩ := mv5_rows g s t
  rw [← q5] at r4 r5
  exact ⟨⟨k1, k2, by omega, q3⟩, ⟨k3, k4, q6⟩, q8, q9, by rw [r1, r2, r3, r4, r5]; exact m.1, by rw [r3, r4]; exact m.2, r3, r4, r5⟩
theorem cGet_in {n : Int} {f : Int → Int} {d x : Int} (h : 0 ≤ x ∧ x < n) : cGet n f d x = f x := by
  unfold cGet
  rw [if_pos h]
def flOk (a b : Nat) : Bool := decide (FP.fdiv (FP.i2f (iI (a : Int))) (FP.i2f (iI (b : Int))) &&& 0x7fffffff ≤ 0x7f800000)
theorem fl_A : (List.range 31).all (fun a => (List.range 90).all (fun b => flOk a (b + 1))) = true := by decide +kernel
theorem fl_ok {a b : Int} (ha : 0 ≤ a ∧ a ≤ 30) (hb : 1 ≤ b ∧ b ≤ 90) : vf_n32 (FP.fdiv (FP.i2f (iI a)) (FP.i2f (iI b))) := by
  have h := List.all_eq_true.mp (List.all_eq_true.mp fl_A a.toNat (List.mem_range.mpr (by omega))) (b - 1).toNat (List.mem_range.mpr (by omega))
  unfold flOk at h
  have h2 := of_decide_eq_true h
  rw [show ((a.toNat : Nat) : Int) = a by omega, show (((b - 1).toNat + 1 : Nat) : Int) = b by omega] at h2
  exact h2
set_option maxRecDepth 20000 in
theorem KX5_hold (g : qHp) (x : Int) (hx : -2147483648 ≤ x ∧ x < 2147483648) (kd : Int) (hkd : -2147483648 ≤ kd ∧ kd < 2147483648) (ut : Int) (hut : -2147483648 ≤ ut ∧ ut < 2147483648) (hk2 : 0 ≤ kd ∧ kd < 65536) (hco : inY g x → 0 ≤ x ∧ x < g 1 3) : qC yX5_hold (.code yX5_hold cX5_hold 4 (some .int)) 7 3 (fun ad => [.ref (ad 0), .int (iI x), .int (iI kd), .int (iI ut)]) g (qPi (fun (r : Int) (g' : qHp) => inY g x ∧ ((kd = 112 ∨ kd = 108) ∧ (g 0 4 < ut ∧ ut ≤ 1000)) ∧ (((fstB (bkB g x) (g 18 4) = -1 ∨ ut ≤ g 20 (fstB (bkB g x) (g 18 4))) ∧ r = 0 ∧ g' = (qUp (qUp g 3 x kd) 4 x ut)) ∨ (fstB (bkB g x) (g 18 4) ≠ -1 ∧ g 20 (fstB (bkB g x) (g 18 4)) < ut ∧ r = 1 ∧ g' = qUp (qUp (qUp g 3 x kd) 4 x ut) 22 (fstB (bkB g x) (g 18 4)) 103)))) (fun (E : String) (g' : qHp) => ((E = xIO ∧ ¬ inY g x) ∨ (E = xIA ∧ inY g x ∧ ¬ ((kd = 112 ∨ kd = 108) ∧ (g 0 4 < ut ∧ ut ≤ 1000)))) ∧ g' = g) := by
  refine q_meth (by decide +kernel) rfl (fun _ => (Nat.le_of_ble_eq_true rfl)) (fun X ω C => ?_)
  refine q_nm (fun hn => ?_)
  have r0_4 : 0 ≤ g 0 4 ∧ g 0 4 ≤ 999 := hn 0 4
  refine q_loc [(0, .ref (ω.1 0)), (1, .int (iI x)), (2, .int (iI kd)), (3, .int (iI ut))] ⟨rfl, rfl, rfl, rfl, trivial⟩ ?_
  refine q_aload_n C 0 dX5_hold_0 rfl rfl ?_
  refine q_iload_n C 1 dX5_hold_1 rfl rfl ?_
  refine q_VvX C (KX5_requireBox _ _ (by omega)) mX5_requireBox ml_X5_98 dX5_hold_2 (by decide) (by decide) rfl rfl rfl (Nat.le_of_ble_eq_true rfl) rfl (by decide) rfl rfl (fun E g' h => ⟨Or.inl (⟨h.1.1, h.1.2⟩), h.2⟩) (fun h2 => ?_)
  refine q_iload_n C 2 dX5_hold_5 rfl rfl ?_
  refine q_bipush C dX5_hold_6 (by decide +kernel) ?_
  refine q_icmp_eq C 27 dX5_hold_8 (by decide) (by omega) (by omega) (fun c8 => ?_) (fun c8 => ?_)
  · refine q_iload_n C 3 dX5_hold_27 rfl rfl ?_
    refine q_aload_n C 0 dX5_hold_28 rfl rfl ?_
    refine q_geti C (b := 0) 4 4 0 999 rfl (by decide) rfl in_X5 (by decide) fl_X5_124 rfl rfl rfl dX5_hold_29 (fun v29 e29 l29 u29 => ?_)
    refine q_icmp_le C 42 dX5_hold_32 (by decide) (by omega) (by omega) (fun c32 => ?_) (fun c32 => ?_)
    · exact q_throw C "java/lang/IllegalArgumentException" "the hour is not behind this one and at most 1000" rfl (by decide +kernel) tk_IllegalArgumentException ti_IllegalArgumentException (by decide +kernel) ta_IllegalArgumentException tg_IllegalArgumentException dX5_hold_42 dX5_hold_45 dX5_hold_46 dX5_hold_48 dX5_hold_51 (by decide) (Nat.le_of_ble_eq_true rfl) (by decide) ⟨Or.inr (⟨rfl, ⟨h2, by omega⟩⟩), rfl⟩
    · refine q_iload_n C 3 dX5_hold_35 rfl rfl ?_
      refine q_sipush C dX5_hold_36 (by decide +kernel) ?_
      refine q_icmp_le C 52 dX5_hold_39 (by decide) (by omega) (by omega) (fun c39 => ?_) (fun c39 => ?_)
      · refine q_aload_n C 0 dX5_hold_52 rfl rfl ?_
        refine q_getr C (b := 0) 0 rfl (by decide) rfl in_X5 (by decide) fl_X5_15 rfl dX5_hold_53 ?_
        refine q_iload_n C 1 dX5_hold_56 rfl rfl ?_
        refine q_iload_n C 2 dX5_hold_57 rfl rfl ?_
        refine q_iload_n C 3 dX5_hold_58 rfl rfl ?_
        refine q_Vv0 C (KX0_putHold _ _ (by omega) _ (by omega) _ (by omega) (by omega) (by omega)) mX0_putHold ml_X5_130 dX5_hold_59 (by decide) (by decide) rfl rfl rfl (Nat.le_of_ble_eq_true rfl) rfl (by decide) rfl rfl ?_
        rw [if_pos (hco h2)]
        have b1 : fstB (bkB (qUp (qUp g 3 x kd) 4 x ut) x) ((qUp (qUp g 3 x kd) 4 x ut) 18 4) = fstB (bkB g x) (g 18 4) := by rw [bkB_K (by rw [qUp_row (by decide), qUp_row (by decide)]) (by rw [qUp_row (by decide), qUp_row (by decide)]), qUp_k (by decide), qUp_k (by decide)]
        have b2 : ∀ a, (qUp (qUp g 3 x kd) 4 x ut) 20 a = g 20 a := fun a => by rw [qUp_k (by decide), qUp_k (by decide)]
        have b3 : ∀ h, hlI (qUp (qUp g 3 x kd) 4 x ut) x h ↔ (kd ≠ 45 ∧ h < ut) := by
          intro h
          unfold hlI
          rw [show (qUp (qUp g 3 x kd) 4 x ut) 1 3 = g 1 3 by rw [qUp_k (by decide), qUp_k (by decide)], cGet_in (hco h2), cGet_in (hco h2), qUp_k (by decide), qUp_s, qUp_s]
        refine q_aload_n C 0 dX5_hold_62 rfl rfl ?_
        refine q_iload_n C 1 dX5_hold_63 rfl rfl ?_
        refine q_Vi0 C (KX5_giveBackIfHeld _ _ (by omega)) mX5_giveBackIfHeld ml_X5_134 dX5_hold_64 (by decide) (by decide) rfl rfl rfl (Nat.le_of_ble_eq_true rfl) rfl (by decide) rfl rfl (fun v64 g64 l64 u64 h64 => ?_)
        rw [b1, b2, b3] at h64
        refine q_ifeq C 74 dX5_hold_67 (by decide) (by omega) (fun c67 => ?_) (fun c67 => ?_)
        · refine q_iconst C dX5_hold_74 ?_
          exact q_iretI C dX5_hold_75 (by omega) (by decide) ⟨h2, by omega, by first | (refine Or.inl ?_; rcases h64 with ⟨z1, z2, z3⟩ | ⟨z1, z2, z3, z4⟩; (· exact ⟨by omega, rfl, z3⟩); (· omega)) | (refine Or.inr ?_; rcases h64 with ⟨z1, z2, z3⟩ | ⟨z1, z2, z3, z4⟩; (· omega); (· exact ⟨z1, by omega, rfl, z4⟩))⟩
        · refine q_iconst C dX5_hold_70 ?_
          refine q_goto C 75 dX5_hold_71 (by decide) ?_
          exact q_iretI C dX5_hold_75 (by omega) (by decide) ⟨h2, by omega, by first | (refine Or.inl ?_; rcases h64 with ⟨z1, z2, z3⟩ | ⟨z1, z2, z3, z4⟩; (· exact ⟨by omega, rfl, z3⟩); (· omega)) | (refine Or.inr ?_; rcases h64 with ⟨z1, z2, z3⟩ | ⟨z1, z2, z3, z4⟩; (· omega); (· exact ⟨z1, by omega, rfl, z4⟩))⟩
      · exact q_throw C "java/lang/IllegalArgumentException" "the hour is not behind this one and at most 1000" rfl (by decide +kernel) tk_IllegalArgumentException ti_IllegalArgumentException (by decide +kernel) ta_IllegalArgumentException tg_IllegalArgumentException dX5_hold_42 dX5_hold_45 dX5_hold_46 dX5_hold_48 dX5_hold_51 (by decide) (Nat.le_of_ble_eq_true rfl) (by decide) ⟨Or.inr (⟨rfl, ⟨h2, by omega⟩⟩), rfl⟩
  · refine q_iload_n C 2 dX5_hold_11 rfl rfl ?_
    refine q_bipush C dX5_hold_12 (by decide +kernel) ?_
    refine q_icmp_eq C 27 dX5_hold_14 (by decide) (by omega) (by omega) (fun c14 => ?_) (fun c14 => ?_)
    · refine q_iload_n C 3 dX5_hold_27 rfl rfl ?_
      refine q_aload_n C 0 dX5_hold_28 rfl rfl ?_
      refine q_geti C (b := 0) 4 4 0 999 rfl (by decide) rfl in_X5 (by decide) fl_X5_124 rfl rfl rfl dX5_hold_29 (fun v29 e29 l29 u29 => ?_)
      refine q_icmp_le C 42 dX5_hold_32 (by decide) (by omega) (by omega) (fun c32 => ?_) (fun c32 => ?_)
      · exact q_throw C "java/lang/IllegalArgumentException" "the hour is not behind this one and at most 1000" rfl (by decide +kernel) tk_IllegalArgumentException ti_IllegalArgumentException (by decide +kernel) ta_IllegalArgumentException tg_IllegalArgumentException dX5_hold_42 dX5_hold_45 dX5_hold_46 dX5_hold_48 dX5_hold_51 (by decide) (Nat.le_of_ble_eq_true rfl) (by decide) ⟨Or.inr (⟨rfl, ⟨h2, by omega⟩⟩), rfl⟩
      · refine q_iload_n C 3 dX5_hold_35 rfl rfl ?_
        refine q_sipush C dX5_hold_36 (by decide +kernel) ?_
        refine q_icmp_le C 52 dX5_hold_39 (by decide) (by omega) (by omega) (fun c39 => ?_) (fun c39 => ?_)
        · refine q_aload_n C 0 dX5_hold_52 rfl rfl ?_
          refine q_getr C (b := 0) 0 rfl (by decide) rfl in_X5 (by decide) fl_X5_15 rfl dX5_hold_53 ?_
          refine q_iload_n C 1 dX5_hold_56 rfl rfl ?_
          refine q_iload_n C 2 dX5_hold_57 rfl rfl ?_
          refine q_iload_n C 3 dX5_hold_58 rfl rfl ?_
          refine q_Vv0 C (KX0_putHold _ _ (by omega) _ (by omega) _ (by omega) (by omega) (by omega)) mX0_putHold ml_X5_130 dX5_hold_59 (by decide) (by decide) rfl rfl rfl (Nat.le_of_ble_eq_true rfl) rfl (by decide) rfl rfl ?_
          rw [if_pos (hco h2)]
          have b1 : fstB (bkB (qUp (qUp g 3 x kd) 4 x ut) x) ((qUp (qUp g 3 x kd) 4 x ut) 18 4) = fstB (bkB g x) (g 18 4) := by rw [bkB_K (by rw [qUp_row (by decide), qUp_row (by decide)]) (by rw [qUp_row (by decide), qUp_row (by decide)]), qUp_k (by decide), qUp_k (by decide)]
          have b2 : ∀ a, (qUp (qUp g 3 x kd) 4 x ut) 20 a = g 20 a := fun a => by rw [qUp_k (by decide), qUp_k (by decide)]
          have b3 : ∀ h, hlI (qUp (qUp g 3 x kd) 4 x ut) x h ↔ (kd ≠ 45 ∧ h < ut) := by
            intro h
            unfold hlI
            rw [show (qUp (qUp g 3 x kd) 4 x ut) 1 3 = g 1 3 by rw [qUp_k (by decide), qUp_k (by decide)], cGet_in (hco h2), cGet_in (hco h2), qUp_k (by decide), qUp_s, qUp_s]
          refine q_aload_n C 0 dX5_hold_62 rfl rfl ?_
          refine q_iload_n C 1 dX5_hold_63 rfl rfl ?_
          refine q_Vi0 C (KX5_giveBackIfHeld _ _ (by omega)) mX5_giveBackIfHeld ml_X5_134 dX5_hold_64 (by decide) (by decide) rfl rfl rfl (Nat.le_of_ble_eq_true rfl) rfl (by decide) rfl rfl (fun v64 g64 l64 u64 h64 => ?_)
          rw [b1, b2, b3] at h64
          refine q_ifeq C 74 dX5_hold_67 (by decide) (by omega) (fun c67 => ?_) (fun c67 => ?_)
          · refine q_iconst C dX5_hold_74 ?_
            exact q_iretI C dX5_hold_75 (by omega) (by decide) ⟨h2, by omega, by first | (refine Or.inl ?_; rcases h64 with ⟨z1, z2, z3⟩ | ⟨z1, z2, z3, z4⟩; (· exact ⟨by omega, rfl, z3⟩); (· omega)) | (refine Or.inr ?_; rcases h64 with ⟨z1, z2, z3⟩ | ⟨z1, z2, z3, z4⟩; (· omega); (· exact ⟨z1, by omega, rfl, z4⟩))⟩
          · refine q_iconst C dX5_hold_70 ?_
            refine q_goto C 75 dX5_hold_71 (by decide) ?_
            exact q_iretI C dX5_hold_75 (by omega) (by decide) ⟨h2, by omega, by first | (refine Or.inl ?_; rcases h64 with ⟨z1, z2, z3⟩ | ⟨z1, z2, z3, z4⟩; (· exact ⟨by omega, rfl, z3⟩); (· omega)) | (refine Or.inr ?_; rcases h64 with ⟨z1, z2, z3⟩ | ⟨z1, z2, z3, z4⟩; (· omega); (· exact ⟨z1, by omega, rfl, z4⟩))⟩
        · exact q_throw C "java/lang/IllegalArgumentException" "the hour is not behind this one and at most 1000" rfl (by decide +kernel) tk_IllegalArgumentException ti_IllegalArgumentException (by decide +kernel) ta_IllegalArgumentException tg_IllegalArgumentException dX5_hold_42 dX5_hold_45 dX5_hold_46 dX5_hold_48 dX5_hold_51 (by decide) (Nat.le_of_ble_eq_true rfl) (by decide) ⟨Or.inr (⟨rfl, ⟨h2, by omega⟩⟩), rfl⟩
    · exact q_throw C "java/lang/IllegalArgumentException" "there is no such kind of hold" rfl (by decide +kernel) tk_IllegalArgumentException ti_IllegalArgumentException (by decide +kernel) ta_IllegalArgumentException tg_IllegalArgumentException dX5_hold_17 dX5_hold_20 dX5_hold_21 dX5_hold_23 dX5_hold_26 (by decide) (Nat.le_of_ble_eq_true rfl) (by decide) ⟨Or.inr (⟨rfl, ⟨h2, by omega⟩⟩), rfl⟩
set_option maxRecDepth 20000 in
theorem KX5_release (g : qHp) (x : Int) (hx : -2147483648 ≤ x ∧ x < 2147483648) (hco : inY g x → 0 ≤ x ∧ x < g 1 3) : qC yX5_release (.code yX5_release cX5_release 3 (some .int)) 7 2 (fun ad => [.ref (ad 0), .int (iI x)]) g (qPi (fun (r : Int) (g' : qHp) => inY g x ∧ cGet (g 1 3) (g 3) 45 x ≠ 45 ∧ r = cGet (g 1 3) (g 4) 0 x ∧ g' = qUp (qUp g 3 x 45) 4 x 0)) (fun (E : String) (g' : qHp) => ((E = xIO ∧ ¬ inY g x) ∨ (E = xIS ∧ inY g x ∧ cGet (g 1 3) (g 3) 45 x = 45)) ∧ g' = g) := by
  refine q_meth (by decide +kernel) rfl (fun _ => (Nat.le_of_ble_eq_true rfl)) (fun X ω C => ?_)
  refine q_loc [(0, .ref (ω.1 0)), (1, .int (iI x))] ⟨rfl, rfl, trivial⟩ ?_
  refine q_aload_n C 0 dX5_release_0 rfl rfl ?_
  refine q_iload_n C 1 dX5_release_1 rfl rfl ?_
  refine q_VvX C (KX5_requireBox _ _ (by omega)) mX5_requireBox ml_X5_98 dX5_release_2 (by decide) (by decide) rfl rfl rfl (Nat.le_of_ble_eq_true rfl) rfl (by decide) rfl rfl (fun E g' h => ⟨Or.inl (⟨h.1.1, h.1.2⟩), h.2⟩) (fun h2 => ?_)
  refine q_aload_n C 0 dX5_release_5 rfl rfl ?_
  refine q_getr C (b := 0) 0 rfl (by decide) rfl in_X5 (by decide) fl_X5_15 rfl dX5_release_6 ?_
  refine q_iload_n C 1 dX5_release_9 rfl rfl ?_
  refine q_Vf0 C (KX0_isHeld _ _ (by omega)) mX0_isHeld ml_X5_137 dX5_release_10 (by decide) (by decide) rfl rfl rfl (Nat.le_of_ble_eq_true rfl) rfl (by decide) rfl rfl (fun v10 l10 u10 h10 => ?_)
  refine q_ifne C 26 dX5_release_13 (by decide) (by omega) (fun c13 => ?_) (fun c13 => ?_)
  · refine q_aload_n C 0 dX5_release_26 rfl rfl ?_
    refine q_getr C (b := 0) 0 rfl (by decide) rfl in_X5 (by decide) fl_X5_15 rfl dX5_release_27 ?_
    refine q_iload_n C 1 dX5_release_30 rfl rfl ?_
    refine q_Vf0 C (KX0_holdEnd _ _ (by omega)) mX0_holdEnd ml_X5_142 dX5_release_31 (by decide) (by decide) rfl rfl rfl (Nat.le_of_ble_eq_true rfl) rfl (by decide) rfl rfl (fun v31 l31 u31 h31 => ?_)
    refine q_istoreV_n C 2 dX5_release_34 rfl (by decide) (fun v34 e34 => ?_)
    refine q_aload_n C 0 dX5_release_35 rfl rfl ?_
    refine q_getr C (b := 0) 0 rfl (by decide) rfl in_X5 (by decide) fl_X5_15 rfl dX5_release_36 ?_
    refine q_iload_n C 1 dX5_release_39 rfl rfl ?_
    refine q_Vv0 C (KX0_endHold _ _ (by omega)) mX0_endHold ml_X5_145 dX5_release_40 (by decide) (by decide) rfl rfl rfl (Nat.le_of_ble_eq_true rfl) rfl (by decide) rfl rfl ?_
    refine q_iload_n C 2 dX5_release_43 rfl rfl ?_
    exact q_iretI C dX5_release_44 (by omega) (by decide) ⟨h2, by omega, by omega, by rw [if_pos (hco h2)]⟩
  · exact q_throw C "java/lang/IllegalStateException" "the box has no hold" rfl (by decide +kernel) tk_IllegalStateException ti_IllegalStateException (by decide +kernel) ta_IllegalStateException tg_IllegalStateException dX5_release_16 dX5_release_19 dX5_release_20 dX5_release_22 dX5_release_25 (by decide) (Nat.le_of_ble_eq_true rfl) (by decide) ⟨Or.inr (⟨rfl, ⟨h2, by omega⟩⟩), rfl⟩
set_option maxRecDepth 20000 in
theorem KX5_holdOf (g : qHp) (x : Int) (hx : -2147483648 ≤ x ∧ x < 2147483648)  : qC yX5_holdOf (.code yX5_holdOf cX5_holdOf 2 (some .char)) 7 1 (fun ad => [.ref (ad 0), .int (iI x)]) g (qPi (fun (r : Int) (g' : qHp) => (inY g x ∧ r = cGet (g 1 3) (g 3) 45 x) ∧ g' = g)) (fun (E : String) (g' : qHp) => ((E = xIO ∧ ¬ inY g x)) ∧ g' = g) := by
  refine q_meth (by decide +kernel) rfl (fun _ => (Nat.le_of_ble_eq_true rfl)) (fun X ω C => ?_)
  refine q_nm (fun hn => ?_)
  refine q_loc [(0, .ref (ω.1 0)), (1, .int (iI x))] ⟨rfl, rfl, trivial⟩ ?_
  refine q_aload_n C 0 dX5_holdOf_0 rfl rfl ?_
  refine q_iload_n C 1 dX5_holdOf_1 rfl rfl ?_
  refine q_VvX C (KX5_requireBox _ _ (by omega)) mX5_requireBox ml_X5_98 dX5_holdOf_2 (by decide) (by decide) rfl rfl rfl (Nat.le_of_ble_eq_true rfl) rfl (by decide) rfl rfl (fun E g' h => ⟨⟨h.1.1, h.1.2⟩, h.2⟩) (fun h2 => ?_)
  refine q_aload_n C 0 dX5_holdOf_5 rfl rfl ?_
  refine q_getr C (b := 0) 0 rfl (by decide) rfl in_X5 (by decide) fl_X5_15 rfl dX5_holdOf_6 ?_
  refine q_iload_n C 1 dX5_holdOf_9 rfl rfl ?_
  refine q_Vf0 C (KX0_holdKind _ _ (by omega)) mX0_holdKind ml_X5_148 dX5_holdOf_10 (by decide) (by decide) rfl rfl rfl (Nat.le_of_ble_eq_true rfl) rfl (by decide) rfl rfl (fun v10 l10 u10 h10 => ?_)
  have q : 0 ≤ v10 ∧ v10 < 65536 := by
    rw [h10]
    unfold cGet
    split
    · have z := hn 3 x
      have z1 : 0 ≤ g 3 x := z.1
      have z2 : g 3 x ≤ 65535 := z.2
      omega
    · omega
  exact q_iretC C dX5_holdOf_13 (by omega) (by decide) ⟨⟨h2, by omega⟩, rfl⟩
set_option maxRecDepth 20000 in
theorem KX5_heldUntil (g : qHp) (x : Int) (hx : -2147483648 ≤ x ∧ x < 2147483648)  : qC yX5_heldUntil (.code yX5_heldUntil cX5_heldUntil 2 (some .int)) 7 2 (fun ad => [.ref (ad 0), .int (iI x)]) g (qPi (fun (r : Int) (g' : qHp) => (inY g x ∧ cGet (g 1 3) (g 3) 45 x ≠ 45 ∧ r = cGet (g 1 3) (g 4) 0 x) ∧ g' = g)) (fun (E : String) (g' : qHp) => ((E = xIO ∧ ¬ inY g x) ∨ (E = xNS ∧ inY g x ∧ cGet (g 1 3) (g 3) 45 x = 45)) ∧ g' = g) := by
  refine q_meth (by decide +kernel) rfl (fun _ => (Nat.le_of_ble_eq_true rfl)) (fun X ω C => ?_)
  refine q_loc [(0, .ref (ω.1 0)), (1, .int (iI x))] ⟨rfl, rfl, trivial⟩ ?_
  refine q_aload_n C 0 dX5_heldUntil_0 rfl rfl ?_
  refine q_iload_n C 1 dX5_heldUntil_1 rfl rfl ?_
  refine q_VvX C (KX5_requireBox _ _ (by omega)) mX5_requireBox ml_X5_98 dX5_heldUntil_2 (by decide) (by decide) rfl rfl rfl (Nat.le_of_ble_eq_true rfl) rfl (by decide) rfl rfl (fun E g' h => ⟨Or.inl (⟨h.1.1, h.1.2⟩), h.2⟩) (fun h2 => ?_)
  refine q_aload_n C 0 dX5_heldUntil_5 rfl rfl ?_
  refine q_getr C (b := 0) 0 rfl (by decide) rfl in_X5 (by decide) fl_X5_15 rfl dX5_heldUntil_6 ?_
  refine q_iload_n C 1 dX5_heldUntil_9 rfl rfl ?_
  refine q_Vf0 C (KX0_isHeld _ _ (by omega)) mX0_isHeld ml_X5_137 dX5_heldUntil_10 (by decide) (by decide) rfl rfl rfl (Nat.le_of_ble_eq_true rfl) rfl (by decide) rfl rfl (fun v10 l10 u10 h10 => ?_)
  refine q_ifne C 26 dX5_heldUntil_13 (by decide) (by omega) (fun c13 => ?_) (fun c13 => ?_)
  · refine q_aload_n C 0 dX5_heldUntil_26 rfl rfl ?_
    refine q_getr C (b := 0) 0 rfl (by decide) rfl in_X5 (by decide) fl_X5_15 rfl dX5_heldUntil_27 ?_
    refine q_iload_n C 1 dX5_heldUntil_30 rfl rfl ?_
    refine q_Vf0 C (KX0_holdEnd _ _ (by omega)) mX0_holdEnd ml_X5_142 dX5_heldUntil_31 (by decide) (by decide) rfl rfl rfl (Nat.le_of_ble_eq_true rfl) rfl (by decide) rfl rfl (fun v31 l31 u31 h31 => ?_)
    exact q_iretI C dX5_heldUntil_34 (by omega) (by decide) (⟨⟨h2, by omega, by omega⟩, rfl⟩)
  · exact q_throwN C "the box has no hold" rfl (by decide +kernel) dX5_heldUntil_16 dX5_heldUntil_19 dX5_heldUntil_20 dX5_heldUntil_22 dX5_heldUntil_25 (by decide) (Nat.le_of_ble_eq_true rfl) (by decide) ⟨Or.inr (⟨rfl, ⟨h2, by omega⟩⟩), rfl⟩
set_option maxRecDepth 20000 in
theorem KX5_pinnedAbove (g : qHp) (x : Int) (hx : -2147483648 ≤ x ∧ x < 2147483648)  : qC yX5_pinnedAbove (.code yX5_pinnedAbove cX5_pinnedAbove 2 (some .int)) 7 1 (fun ad => [.ref (ad 0), .int (iI x)]) g (qPi (fun (r : Int) (g' : qHp) => (inY g x ∧ r = yPin g (g 5 5) (g 7) (g 8) (g 9) x) ∧ g' = g)) (fun (E : String) (g' : qHp) => ((E = xIO ∧ ¬ inY g x)) ∧ g' = g) := by
  refine q_meth (by decide +kernel) rfl (fun _ => (Nat.le_of_ble_eq_true rfl)) (fun X ω C => ?_)
  refine q_loc [(0, .ref (ω.1 0)), (1, .int (iI x))] ⟨rfl, rfl, trivial⟩ ?_
  refine q_aload_n C 0 dX5_pinnedAbove_0 rfl rfl ?_
  refine q_iload_n C 1 dX5_pinnedAbove_1 rfl rfl ?_
  refine q_VvX C (KX5_requireBox _ _ (by omega)) mX5_requireBox ml_X5_98 dX5_pinnedAbove_2 (by decide) (by decide) rfl rfl rfl (Nat.le_of_ble_eq_true rfl) rfl (by decide) rfl rfl (fun E g' h => ⟨⟨h.1.1, h.1.2⟩, h.2⟩) (fun h2 => ?_)
  refine q_aload_n C 0 dX5_pinnedAbove_5 rfl rfl ?_
  refine q_getr C (b := 0) 1 rfl (by decide) rfl in_X5 (by decide) fl_X5_21 rfl dX5_pinnedAbove_6 ?_
  refine q_iload_n C 1 dX5_pinnedAbove_9 rfl rfl ?_
  refine q_Vf0 C (KX4_pinnedOver_5 _ _ (by omega)) mX4_pinnedOver ml_X5_152 dX5_pinnedAbove_10 (by decide) (by decide) rfl rfl rfl (Nat.le_of_ble_eq_true rfl) rfl (by decide) rfl rfl (fun v10 l10 u10 h10 => ?_)
  exact q_iretI C dX5_pinnedAbove_13 (by omega) (by decide) (⟨⟨h2, by omega⟩, rfl⟩)
set_option maxRecDepth 20000 in
theorem KX5_why (g : qHp) (x : Int) (hx : -2147483648 ≤ x ∧ x < 2147483648) (s : Int) (hs : -2147483648 ≤ s ∧ s < 2147483648)  : qC yX5_why (.code yX5_why cX5_why 3 (some .char)) 7 2 (fun ad => [.ref (ad 0), .int (iI x), .int (iI s)]) g (qPi (fun (r : Int) (g' : qHp) => ((inY g x ∧ isS g s) ∧ yWhyR g (g 5 5) (g 6) (g 7) (g 8) (g 9) x s r ∧ (0 ≤ r ∧ r < 128)) ∧ g' = g)) (fun (E : String) (g' : qHp) => ((E = xIO ∧ ¬ (inY g x ∧ isS g s))) ∧ g' = g) := by
  refine q_meth (by decide +kernel) rfl (fun _ => (Nat.le_of_ble_eq_true rfl)) (fun X ω C => ?_)
  refine q_loc [(0, .ref (ω.1 0)), (1, .int (iI x)), (2, .int (iI s))] ⟨rfl, rfl, rfl, trivial⟩ ?_
  refine q_aload_n C 0 dX5_why_0 rfl rfl ?_
  refine q_iload_n C 1 dX5_why_1 rfl rfl ?_
  refine q_VvX C (KX5_requireBox _ _ (by omega)) mX5_requireBox ml_X5_98 dX5_why_2 (by decide) (by decide) rfl rfl rfl (Nat.le_of_ble_eq_true rfl) rfl (by decide) rfl rfl (fun E g' h => ⟨⟨h.1.1, fun q => h.1.2 q.1⟩, h.2⟩) (fun h2 => ?_)
  refine q_aload_n C 0 dX5_why_5 rfl rfl ?_
  refine q_iload_n C 2 dX5_why_6 rfl rfl ?_
  refine q_VvX C (KX5_requireStack _ _ (by omega)) mX5_requireStack ml_X5_61 dX5_why_7 (by decide) (by decide) rfl rfl rfl (Nat.le_of_ble_eq_true rfl) rfl (by decide) rfl rfl (fun E g' h => ⟨⟨h.1.1, fun q => h.1.2 q.2⟩, h.2⟩) (fun h7 => ?_)
  refine q_aload_n C 0 dX5_why_10 rfl rfl ?_
  refine q_getr C (b := 0) 1 rfl (by decide) rfl in_X5 (by decide) fl_X5_21 rfl dX5_why_11 ?_
  refine q_iload_n C 1 dX5_why_14 rfl rfl ?_
  refine q_iload_n C 2 dX5_why_15 rfl rfl ?_
  refine q_Vf0 C (KX4_reasonAgainst_5 _ _ (by omega) _ (by omega)) mX4_reasonAgainst ml_X5_155 dX5_why_16 (by decide) (by decide) rfl rfl rfl (Nat.le_of_ble_eq_true rfl) rfl (by decide) rfl rfl (fun v16 l16 u16 h16 => ?_)
  exact q_iretC C dX5_why_19 (by omega) (by decide) ⟨⟨⟨h2, h7⟩, h16⟩, rfl⟩
set_option maxRecDepth 20000 in
theorem KX5_makeMove (g : qHp) (x : Int) (hx : -2147483648 ≤ x ∧ x < 2147483648) (t : Int) (ht : -2147483648 ≤ t ∧ t < 2147483648) (hx2 : 0 ≤ x ∧ x < 20) (hs2 : 0 ≤ g 9 x ∧ g 9 x < g 5 5 ∧ g 7 (g 9 x) ≠ 0 ∧ g 9 x ≠ t) (ht2 : 0 ≤ t ∧ t < g 5 5 ∧ g 7 t < g 6 t) : qC yX5_makeMove (.code yX5_makeMove cX5_makeMove 3 none) 3 0 (fun ad => [.ref (ad 0), .int (iI x), .int (iI t)]) g (qPv (fun g' : qHp => g' = (mv5 g (g 9 x) t))) qNo := by
  refine q_meth (by decide +kernel) rfl (fun _ => (Nat.le_of_ble_eq_true rfl)) (fun X ω C => ?_)
  refine q_loc [(0, .ref (ω.1 0)), (1, .int (iI x)), (2, .int (iI t))] ⟨rfl, rfl, rfl, trivial⟩ ?_
  refine q_aload_n C 0 dX5_makeMove_0 rfl rfl ?_
  refine q_getr C (b := 0) 1 rfl (by decide) rfl in_X5 (by decide) fl_X5_21 rfl dX5_makeMove_1 ?_
  refine q_aload_n C 0 dX5_makeMove_4 rfl rfl ?_
  refine q_getr C (b := 0) 1 rfl (by decide) rfl in_X5 (by decide) fl_X5_21 rfl dX5_makeMove_5 ?_
  refine q_iload_n C 1 dX5_makeMove_8 rfl rfl ?_
  refine q_Vf0 C (KX4_stackWith_5 _ _ (by omega)) mX4_stackWith ml_X5_95 dX5_makeMove_9 (by decide) (by decide) rfl rfl rfl (Nat.le_of_ble_eq_true rfl) rfl (by decide) rfl rfl (fun v9 l9 u9 h9 => ?_)
  refine q_iload_n C 2 dX5_makeMove_12 rfl rfl ?_
  have q9 : v9 = g 9 x := by
    rw [h9]
    unfold ySt
    rw [if_pos hx2]
  subst q9
  refine q_Vv0 C (KX4_shift_5 _ _ (by omega) _ (by omega) hs2 ht2) mX4_shift ml_X5_274 dX5_makeMove_13 (by decide) (by decide) rfl rfl rfl (Nat.le_of_ble_eq_true rfl) rfl (by decide) rfl rfl ?_
  refine q_aload_n C 0 dX5_makeMove_16 rfl rfl ?_
  refine q_dup C dX5_makeMove_17 rfl ?_
  refine q_geti C (b := 0) 5 5 (-2147483648) 2147483647 rfl (by decide) rfl in_X5 (by decide) fl_X5_164 rfl rfl rfl dX5_makeMove_18 (fun v18 e18 l18 u18 => ?_)
  refine q_iconst C dX5_makeMove_21 ?_
  refine q_iadd C dX5_makeMove_22 ?_
  have q18 : v18 = g 0 5 := by rw [e18, qUp_k (by decide), qUp_k (by decide), qUp_k (by decide), qUp_k (by decide), qUp_k (by decide), qUp_k (by decide), qUp_k (by decide)]
  refine q_puti C (b := 0) 5 5 (-2147483648) 2147483647 (w32 _) rfl (by decide) rfl in_X5 tyX5_ok nmX5 (by decide) fl_X5_164 rfl (by decide +kernel) rfl rfl rfl (w32_iI _) (by have := w32_rng (v18 + 1); omega) dX5_makeMove_23 ?_
  exact q_retV C dX5_makeMove_26 (by decide) (by rw [q18]; rfl)
set_option maxRecDepth 20000 in
theorem KX5_move (g : qHp) (x : Int) (hx : -2147483648 ≤ x ∧ x < 2147483648) (s : Int) (hs : -2147483648 ≤ s ∧ s < 2147483648) (hyo : yOK (g 5 5) (g 6) (g 7) (g 8) (g 9)) : qC yX5_move (.code yX5_move cX5_move 3 (some .int)) 7 3 (fun ad => [.ref (ad 0), .int (iI x), .int (iI s)]) g (qPi (fun (r : Int) (g' : qHp) => (inY g x ∧ isS g s) ∧ okY g (g 9 x) s x ∧ r = w32 (g 0 5 + 1) ∧ g' = mv5 g (g 9 x) s)) (fun (E : String) (g' : qHp) => ((E = xIO ∧ ¬ (inY g x ∧ isS g s)) ∨ (E = xUO ∧ (inY g x ∧ isS g s) ∧ ∀ f, ¬ okY g f s x)) ∧ g' = g) := by
  refine q_meth (by decide +kernel) rfl (fun _ => (Nat.le_of_ble_eq_true rfl)) (fun X ω C => ?_)
  refine q_loc [(0, .ref (ω.1 0)), (1, .int (iI x)), (2, .int (iI s))] ⟨rfl, rfl, rfl, trivial⟩ ?_
  refine q_aload_n C 0 dX5_move_0 rfl rfl ?_
  refine q_iload_n C 1 dX5_move_1 rfl rfl ?_
  refine q_VvX C (KX5_requireBox _ _ (by omega)) mX5_requireBox ml_X5_98 dX5_move_2 (by decide) (by decide) rfl rfl rfl (Nat.le_of_ble_eq_true rfl) rfl (by decide) rfl rfl (fun E g' h => ⟨Or.inl ⟨h.1.1, fun q => h.1.2 q.1⟩, h.2⟩) (fun h2 => ?_)
  refine q_aload_n C 0 dX5_move_5 rfl rfl ?_
  refine q_iload_n C 2 dX5_move_6 rfl rfl ?_
  refine q_VvX C (KX5_requireStack _ _ (by omega)) mX5_requireStack ml_X5_61 dX5_move_7 (by decide) (by decide) rfl rfl rfl (Nat.le_of_ble_eq_true rfl) rfl (by decide) rfl rfl (fun E g' h => ⟨Or.inl ⟨h.1.1, fun q => h.1.2 q.2⟩, h.2⟩) (fun h7 => ?_)
  refine q_aload_n C 0 dX5_move_10 rfl rfl ?_
  refine q_getr C (b := 0) 1 rfl (by decide) rfl in_X5 (by decide) fl_X5_21 rfl dX5_move_11 ?_
  refine q_iload_n C 1 dX5_move_14 rfl rfl ?_
  refine q_iload_n C 2 dX5_move_15 rfl rfl ?_
  refine q_Vf0 C (KX4_reasonAgainst_5 _ _ (by omega) _ (by omega)) mX4_reasonAgainst ml_X5_155 dX5_move_16 (by decide) (by decide) rfl rfl rfl (Nat.le_of_ble_eq_true rfl) rfl (by decide) rfl rfl (fun v16 l16 u16 h16 => ?_)
  refine q_bipush C dX5_move_19 (by decide +kernel) ?_
  refine q_icmp_eq C 34 dX5_move_21 (by decide) (by omega) (by omega) (fun c21 => ?_) (fun c21 => ?_)
  · have hin := ySt_in h2
    have ok := (why_ok hyo h16.1).1 (by omega)
    have K := mv5_ok hyo ok.1
    refine q_aload_n C 0 dX5_move_34 rfl rfl ?_
    refine q_iload_n C 1 dX5_move_35 rfl rfl ?_
    refine q_iload_n C 2 dX5_move_36 rfl rfl ?_
    refine q_Vv0 C (KX5_makeMove _ _ (by omega) _ (by omega) hin.1 (by rw [K.2.2.1]; exact K.1) K.2.1) mX5_makeMove ml_X5_161 dX5_move_37 (by decide) (by decide) rfl rfl rfl (Nat.le_of_ble_eq_true rfl) rfl (by decide) rfl rfl ?_
    refine q_aload_n C 0 dX5_move_40 rfl rfl ?_
    refine q_geti C (b := 0) 5 5 (-2147483648) 2147483647 rfl (by decide) rfl in_X5 (by decide) fl_X5_164 rfl rfl rfl dX5_move_41 (fun v41 e41 l41 u41 => ?_)
    have q41 : v41 = w32 (g 0 5 + 1) := by rw [e41, (mv5_rows g (g 9 x) s).2.2.2.2.2.2.2.1]
    exact q_iretI C dX5_move_44 (by omega) (by decide) ⟨⟨h2, h7⟩, ok.1, q41, rfl⟩
  · exact q_throw C "java/lang/UnsupportedOperationException" "the box cannot be moved there" rfl (by decide +kernel) tk_UnsupportedOperationException ti_UnsupportedOperationException (by decide +kernel) ta_UnsupportedOperationException tg_UnsupportedOperationException dX5_move_24 dX5_move_27 dX5_move_28 dX5_move_30 dX5_move_33 (by decide) (Nat.le_of_ble_eq_true rfl) (by decide) ⟨Or.inr (⟨rfl, ⟨⟨h2, h7⟩, fun f q => absurd ((why_ok hyo h16.1).2 f q) (by omega)⟩⟩), rfl⟩
set_option maxRecDepth 20000 in
theorem KX5_moves (g : qHp)  : qC yX5_moves (.code yX5_moves cX5_moves 1 (some .int)) 0 0 (fun ad => [.ref (ad 0)]) g (qPi (fun (r : Int) (g' : qHp) => (r = g 0 5) ∧ g' = g)) qNo := by
  refine q_meth (by decide +kernel) rfl (fun _ => (Nat.le_of_ble_eq_true rfl)) (fun X ω C => ?_)
  refine q_loc [(0, .ref (ω.1 0))] ⟨rfl, trivial⟩ ?_
  refine q_aload_n C 0 dX5_moves_0 rfl rfl ?_
  refine q_geti C (b := 0) 5 5 (-2147483648) 2147483647 rfl (by decide) rfl in_X5 (by decide) fl_X5_164 rfl rfl rfl dX5_moves_1 (fun v1 e1 l1 u1 => ?_)
  subst e1
  exact q_iretI C dX5_moves_4 (by omega) (by decide) (⟨by omega, rfl⟩)
set_option maxRecDepth 20000 in
theorem KX5_book (g : qHp) (x : Int) (hx : -2147483648 ≤ x ∧ x < 2147483648) (h : Int) (hh : -2147483648 ≤ h ∧ h < 2147483648) (l : Int) (hl : -2147483648 ≤ l ∧ l < 2147483648)  : qC yX5_book (.code yX5_book cX5_book 4 (some .int)) 7 3 (fun ad => [.ref (ad 0), .int (iI x), .int (iI h), .int (iI l)]) g (qPi (fun (r : Int) (g' : qHp) => (inY g x ∧ (0 ≤ l ∧ l < 3)) ∧ (g 0 4 < h ∧ h ≤ 999) ∧ ¬ hlI g x h ∧ (fstB (bkB g x) (g 18 4) = -1 ∧ fstB (bkL g l h) (g 18 4) = -1 ∧ g 18 4 < 30) ∧ r = g 18 4 ∧ g' = (qUp (qUp (qUp (qUp (qUp g 18 4 (g 18 4 + 1)) 19 (g 18 4) x) 20 (g 18 4) h) 21 (g 18 4) l) 22 (g 18 4) 98))) (fun (E : String) (g' : qHp) => ((E = xIO ∧ ¬ (inY g x ∧ (0 ≤ l ∧ l < 3))) ∨ (E = xIA ∧ (inY g x ∧ (0 ≤ l ∧ l < 3)) ∧ ¬ (g 0 4 < h ∧ h ≤ 999)) ∨ (E = xUO ∧ (inY g x ∧ (0 ≤ l ∧ l < 3)) ∧ (g 0 4 < h ∧ h ≤ 999) ∧ hlI g x h) ∨ (E = xIS ∧ (inY g x ∧ (0 ≤ l ∧ l < 3)) ∧ (g 0 4 < h ∧ h ≤ 999) ∧ ¬ hlI g x h ∧ ¬ (fstB (bkB g x) (g 18 4) = -1 ∧ fstB (bkL g l h) (g 18 4) = -1 ∧ g 18 4 < 30))) ∧ g' = g) := by
  refine q_meth (by decide +kernel) rfl (fun _ => (Nat.le_of_ble_eq_true rfl)) (fun X ω C => ?_)
  refine q_nm (fun hn => ?_)
  have r0_4 : 0 ≤ g 0 4 ∧ g 0 4 ≤ 999 := hn 0 4
  refine q_loc [(0, .ref (ω.1 0)), (1, .int (iI x)), (2, .int (iI h)), (3, .int (iI l))] ⟨rfl, rfl, rfl, rfl, trivial⟩ ?_
  refine q_aload_n C 0 dX5_book_0 rfl rfl ?_
  refine q_iload_n C 1 dX5_book_1 rfl rfl ?_
  refine q_VvX C (KX5_requireBox _ _ (by omega)) mX5_requireBox ml_X5_98 dX5_book_2 (by decide) (by decide) rfl rfl rfl (Nat.le_of_ble_eq_true rfl) rfl (by decide) rfl rfl (fun E g' h => ⟨Or.inl ⟨h.1.1, fun q => h.1.2 q.1⟩, h.2⟩) (fun h2 => ?_)
  refine q_aload_n C 0 dX5_book_5 rfl rfl ?_
  refine q_iload_n C 3 dX5_book_6 rfl rfl ?_
  refine q_VvX C (KX5_requireLane _ _ (by omega)) mX5_requireLane ml_X5_190 dX5_book_7 (by decide) (by decide) rfl rfl rfl (Nat.le_of_ble_eq_true rfl) rfl (by decide) rfl rfl (fun E g' h => ⟨Or.inl ⟨h.1.1, fun q => h.1.2 q.2⟩, h.2⟩) (fun h7 => ?_)
  refine q_iload_n C 2 dX5_book_10 rfl rfl ?_
  refine q_aload_n C 0 dX5_book_11 rfl rfl ?_
  refine q_geti C (b := 0) 4 4 0 999 rfl (by decide) rfl in_X5 (by decide) fl_X5_124 rfl rfl rfl dX5_book_12 (fun v12 e12 l12 u12 => ?_)
  refine q_icmp_le C 25 dX5_book_15 (by decide) (by omega) (by omega) (fun c15 => ?_) (fun c15 => ?_)
  · exact q_throw C "java/lang/IllegalArgumentException" "the hour is not behind this one, or greater than 999" rfl (by decide +kernel) tk_IllegalArgumentException ti_IllegalArgumentException (by decide +kernel) ta_IllegalArgumentException tg_IllegalArgumentException dX5_book_25 dX5_book_28 dX5_book_29 dX5_book_31 dX5_book_34 (by decide) (Nat.le_of_ble_eq_true rfl) (by decide) ⟨Or.inr (Or.inl (⟨rfl, ⟨⟨h2, h7⟩, by omega⟩⟩)), rfl⟩
  · refine q_iload_n C 2 dX5_book_18 rfl rfl ?_
    refine q_sipush C dX5_book_19 (by decide +kernel) ?_
    refine q_icmp_le C 35 dX5_book_22 (by decide) (by omega) (by omega) (fun c22 => ?_) (fun c22 => ?_)
    · refine q_aload_n C 0 dX5_book_35 rfl rfl ?_
      refine q_getr C (b := 0) 0 rfl (by decide) rfl in_X5 (by decide) fl_X5_15 rfl dX5_book_36 ?_
      refine q_iload_n C 1 dX5_book_39 rfl rfl ?_
      refine q_iload_n C 2 dX5_book_40 rfl rfl ?_
      refine q_Vf0 C (KX0_isHeldIn _ _ (by omega) _ (by omega)) mX0_isHeldIn ml_X5_195 dX5_book_41 (by decide) (by decide) rfl rfl rfl (Nat.le_of_ble_eq_true rfl) rfl (by decide) rfl rfl (fun v41 l41 u41 h41 => ?_)
      refine q_ifeq C 57 dX5_book_44 (by decide) (by omega) (fun c44 => ?_) (fun c44 => ?_)
      · refine q_aload_n C 0 dX5_book_57 rfl rfl ?_
        have hnh : ¬ hlI g x h := by rcases h41 with ⟨z, z2⟩ | ⟨z, z2⟩; (· omega); (· exact z)
        refine q_getr C (b := 0) 3 rfl (by decide) rfl in_X5 (by decide) fl_X5_37 rfl dX5_book_58 ?_
        refine q_iload_n C 1 dX5_book_61 rfl rfl ?_
        refine q_Vf0 C (KX1_bookedFor _ _ (by omega)) mX1_bookedFor ml_X5_200 dX5_book_62 (by decide) (by decide) rfl rfl rfl (Nat.le_of_ble_eq_true rfl) rfl (by decide) rfl rfl (fun v62 l62 u62 h62 => ?_)
        refine q_iconst C dX5_book_65 ?_
        refine q_icmp_ne C 82 dX5_book_66 (by decide) (by omega) (by omega) (fun c66 => ?_) (fun c66 => ?_)
        · exact q_throw C "java/lang/IllegalStateException" "the box has an appointment, or the lane has one for the hour" rfl (by decide +kernel) tk_IllegalStateException ti_IllegalStateException (by decide +kernel) ta_IllegalStateException tg_IllegalStateException dX5_book_82 dX5_book_85 dX5_book_86 dX5_book_88 dX5_book_91 (by decide) (Nat.le_of_ble_eq_true rfl) (by decide) ⟨Or.inr (Or.inr (Or.inr (⟨rfl, ⟨⟨h2, h7⟩, by omega, hnh, by omega⟩⟩))), rfl⟩
        · refine q_aload_n C 0 dX5_book_69 rfl rfl ?_
          refine q_getr C (b := 0) 3 rfl (by decide) rfl in_X5 (by decide) fl_X5_37 rfl dX5_book_70 ?_
          refine q_iload_n C 3 dX5_book_73 rfl rfl ?_
          refine q_iload_n C 2 dX5_book_74 rfl rfl ?_
          refine q_Vf0 C (KX1_bookedAt _ _ (by omega) _ (by omega)) mX1_bookedAt ml_X5_203 dX5_book_75 (by decide) (by decide) rfl rfl rfl (Nat.le_of_ble_eq_true rfl) rfl (by decide) rfl rfl (fun v75 l75 u75 h75 => ?_)
          refine q_iconst C dX5_book_78 ?_
          refine q_icmp_eq C 92 dX5_book_79 (by decide) (by omega) (by omega) (fun c79 => ?_) (fun c79 => ?_)
          · refine q_aload_n C 0 dX5_book_92 rfl rfl ?_
            refine q_getr C (b := 0) 3 rfl (by decide) rfl in_X5 (by decide) fl_X5_37 rfl dX5_book_93 ?_
            refine q_Vf0 C (KX1_count _) mX1_count ml_X5_208 dX5_book_96 (by decide) (by decide) rfl rfl rfl (Nat.le_of_ble_eq_true rfl) rfl (by decide) rfl rfl (fun v96 l96 u96 h96 => ?_)
            refine q_bipush C dX5_book_99 (by decide +kernel) ?_
            refine q_icmp_lt C 114 dX5_book_101 (by decide) (by omega) (by omega) (fun c101 => ?_) (fun c101 => ?_)
            · refine q_aload_n C 0 dX5_book_114 rfl rfl ?_
              refine q_getr C (b := 0) 3 rfl (by decide) rfl in_X5 (by decide) fl_X5_37 rfl dX5_book_115 ?_
              refine q_iload_n C 1 dX5_book_118 rfl rfl ?_
              refine q_iload_n C 2 dX5_book_119 rfl rfl ?_
              refine q_iload_n C 3 dX5_book_120 rfl rfl ?_
              refine q_Vi0 C (KX1_register _ _ (by omega) _ (by omega) _ (by omega) (by have q := (ySt_in h2).1; omega) (by omega) (by omega)) mX1_register ml_X5_213 dX5_book_121 (by decide) (by decide) rfl rfl rfl (Nat.le_of_ble_eq_true rfl) rfl (by decide) rfl rfl (fun v121 g121 l121 u121 h121 => ?_)
              obtain ⟨z1, z2⟩ := h121
              rw [if_pos (by omega)] at z2
              exact q_iretI C dX5_book_124 (by omega) (by decide) ⟨⟨h2, h7⟩, by omega, hnh, by omega, by omega, z2⟩
            · exact q_throw C "java/lang/IllegalStateException" "30 appointments have been booked" rfl (by decide +kernel) tk_IllegalStateException ti_IllegalStateException (by decide +kernel) ta_IllegalStateException tg_IllegalStateException dX5_book_104 dX5_book_107 dX5_book_108 dX5_book_110 dX5_book_113 (by decide) (Nat.le_of_ble_eq_true rfl) (by decide) ⟨Or.inr (Or.inr (Or.inr (⟨rfl, ⟨⟨h2, h7⟩, by omega, hnh, by omega⟩⟩))), rfl⟩
          · exact q_throw C "java/lang/IllegalStateException" "the box has an appointment, or the lane has one for the hour" rfl (by decide +kernel) tk_IllegalStateException ti_IllegalStateException (by decide +kernel) ta_IllegalStateException tg_IllegalStateException dX5_book_82 dX5_book_85 dX5_book_86 dX5_book_88 dX5_book_91 (by decide) (Nat.le_of_ble_eq_true rfl) (by decide) ⟨Or.inr (Or.inr (Or.inr (⟨rfl, ⟨⟨h2, h7⟩, by omega, hnh, by omega⟩⟩))), rfl⟩
      · exact q_throw C "java/lang/UnsupportedOperationException" "the box has a hold that lasts in this hour" rfl (by decide +kernel) tk_UnsupportedOperationException ti_UnsupportedOperationException (by decide +kernel) ta_UnsupportedOperationException tg_UnsupportedOperationException dX5_book_47 dX5_book_50 dX5_book_51 dX5_book_53 dX5_book_56 (by decide) (Nat.le_of_ble_eq_true rfl) (by decide) ⟨Or.inr (Or.inr (Or.inl (⟨rfl, ⟨⟨h2, h7⟩, by omega, by rcases h41 with ⟨z, z2⟩ | ⟨z, z2⟩; (· exact z); (· omega)⟩⟩))), rfl⟩
    · exact q_throw C "java/lang/IllegalArgumentException" "the hour is not behind this one, or greater than 999" rfl (by decide +kernel) tk_IllegalArgumentException ti_IllegalArgumentException (by decide +kernel) ta_IllegalArgumentException tg_IllegalArgumentException dX5_book_25 dX5_book_28 dX5_book_29 dX5_book_31 dX5_book_34 (by decide) (Nat.le_of_ble_eq_true rfl) (by decide) ⟨Or.inr (Or.inl (⟨rfl, ⟨⟨h2, h7⟩, by omega⟩⟩)), rfl⟩
set_option maxRecDepth 20000 in
theorem KX5_cancel (g : qHp) (a : Int) (ha : -2147483648 ≤ a ∧ a < 2147483648)  : qC yX5_cancel (.code yX5_cancel cX5_cancel 2 (some .int)) 7 2 (fun ad => [.ref (ad 0), .int (iI a)]) g (qPi (fun (r : Int) (g' : qHp) => (0 ≤ a ∧ a < g 18 4) ∧ g 22 a = 98 ∧ g' = qUp g 22 a 99 ∧ r = cntI (stN (qUp g 22 a 99) 98) (g 18 4).toNat)) (fun (E : String) (g' : qHp) => ((E = xIO ∧ ¬ (0 ≤ a ∧ a < g 18 4)) ∨ (E = xIS ∧ (0 ≤ a ∧ a < g 18 4) ∧ g 22 a ≠ 98)) ∧ g' = g) := by
  refine q_meth (by decide +kernel) rfl (fun _ => (Nat.le_of_ble_eq_true rfl)) (fun X ω C => ?_)
  refine q_loc [(0, .ref (ω.1 0)), (1, .int (iI a))] ⟨rfl, rfl, trivial⟩ ?_
  refine q_aload_n C 0 dX5_cancel_0 rfl rfl ?_
  refine q_iload_n C 1 dX5_cancel_1 rfl rfl ?_
  refine q_VvX C (KX5_requireAppointment _ _ (by omega)) mX5_requireAppointment ml_X5_216 dX5_cancel_2 (by decide) (by decide) rfl rfl rfl (Nat.le_of_ble_eq_true rfl) rfl (by decide) rfl rfl (fun E g' h => ⟨Or.inl (⟨h.1.1, h.1.2⟩), h.2⟩) (fun h2 => ?_)
  refine q_aload_n C 0 dX5_cancel_5 rfl rfl ?_
  refine q_getr C (b := 0) 3 rfl (by decide) rfl in_X5 (by decide) fl_X5_37 rfl dX5_cancel_6 ?_
  refine q_iload_n C 1 dX5_cancel_9 rfl rfl ?_
  refine q_Vf0 C (KX1_state _ _ (by omega)) mX1_state ml_X5_219 dX5_cancel_10 (by decide) (by decide) rfl rfl rfl (Nat.le_of_ble_eq_true rfl) rfl (by decide) rfl rfl (fun v10 l10 u10 h10 => ?_)
  refine q_bipush C dX5_cancel_13 (by decide +kernel) ?_
  refine q_icmp_eq C 28 dX5_cancel_15 (by decide) (by omega) (by omega) (fun c15 => ?_) (fun c15 => ?_)
  · refine q_aload_n C 0 dX5_cancel_28 rfl rfl ?_
    refine q_getr C (b := 0) 3 rfl (by decide) rfl in_X5 (by decide) fl_X5_37 rfl dX5_cancel_29 ?_
    refine q_iload_n C 1 dX5_cancel_32 rfl rfl ?_
    refine q_bipush C dX5_cancel_33 (by decide +kernel) ?_
    refine q_Vv0 C (KX1_turn _ _ (by omega) _ (by omega) (by omega)) mX1_turn ml_X5_224 dX5_cancel_35 (by decide) (by decide) rfl rfl rfl (Nat.le_of_ble_eq_true rfl) rfl (by decide) rfl rfl ?_
    rw [if_pos h2]
    refine q_aload_n C 0 dX5_cancel_38 rfl rfl ?_
    refine q_getr C (b := 0) 3 rfl (by decide) rfl in_X5 (by decide) fl_X5_37 rfl dX5_cancel_39 ?_
    refine q_bipush C dX5_cancel_42 (by decide +kernel) ?_
    refine q_Vf0 C (KX1_countIn _ _ (by omega)) mX1_countIn ml_X5_228 dX5_cancel_44 (by decide) (by decide) rfl rfl rfl (Nat.le_of_ble_eq_true rfl) rfl (by decide) rfl rfl (fun v44 l44 u44 h44 => ?_)
    exact q_iretI C dX5_cancel_47 (by omega) (by decide) ⟨h2, by omega, rfl, by rw [h44, qUp_k (by decide)]⟩
  · exact q_throw C "java/lang/IllegalStateException" "the appointment is not booked" rfl (by decide +kernel) tk_IllegalStateException ti_IllegalStateException (by decide +kernel) ta_IllegalStateException tg_IllegalStateException dX5_cancel_18 dX5_cancel_21 dX5_cancel_22 dX5_cancel_24 dX5_cancel_27 (by decide) (Nat.le_of_ble_eq_true rfl) (by decide) ⟨Or.inr (⟨rfl, ⟨h2, by omega⟩⟩), rfl⟩
set_option maxRecDepth 20000 in
theorem KX5_stateOf (g : qHp) (a : Int) (ha : -2147483648 ≤ a ∧ a < 2147483648)  : qC yX5_stateOf (.code yX5_stateOf cX5_stateOf 2 (some .char)) 7 1 (fun ad => [.ref (ad 0), .int (iI a)]) g (qPi (fun (r : Int) (g' : qHp) => ((0 ≤ a ∧ a < g 18 4) ∧ r = g 22 a) ∧ g' = g)) (fun (E : String) (g' : qHp) => ((E = xIO ∧ ¬ (0 ≤ a ∧ a < g 18 4))) ∧ g' = g) := by
  refine q_meth (by decide +kernel) rfl (fun _ => (Nat.le_of_ble_eq_true rfl)) (fun X ω C => ?_)
  refine q_nm (fun hn => ?_)
  have hr22 : 0 ≤ g 22 a ∧ g 22 a ≤ 65535 := hn 22 a
  refine q_loc [(0, .ref (ω.1 0)), (1, .int (iI a))] ⟨rfl, rfl, trivial⟩ ?_
  refine q_aload_n C 0 dX5_stateOf_0 rfl rfl ?_
  refine q_iload_n C 1 dX5_stateOf_1 rfl rfl ?_
  refine q_VvX C (KX5_requireAppointment _ _ (by omega)) mX5_requireAppointment ml_X5_216 dX5_stateOf_2 (by decide) (by decide) rfl rfl rfl (Nat.le_of_ble_eq_true rfl) rfl (by decide) rfl rfl (fun E g' h => ⟨⟨h.1.1, h.1.2⟩, h.2⟩) (fun h2 => ?_)
  refine q_aload_n C 0 dX5_stateOf_5 rfl rfl ?_
  refine q_getr C (b := 0) 3 rfl (by decide) rfl in_X5 (by decide) fl_X5_37 rfl dX5_stateOf_6 ?_
  refine q_iload_n C 1 dX5_stateOf_9 rfl rfl ?_
  refine q_Vf0 C (KX1_state _ _ (by omega)) mX1_state ml_X5_219 dX5_stateOf_10 (by decide) (by decide) rfl rfl rfl (Nat.le_of_ble_eq_true rfl) rfl (by decide) rfl rfl (fun v10 l10 u10 h10 => ?_)
  exact q_iretC C dX5_stateOf_13 (by omega) (by decide) ⟨⟨h2, by omega⟩, rfl⟩
set_option maxRecDepth 20000 in
theorem KX5_appointmentOf (g : qHp) (x : Int) (hx : -2147483648 ≤ x ∧ x < 2147483648)  : qC yX5_appointmentOf (.code yX5_appointmentOf cX5_appointmentOf 3 (some .int)) 7 2 (fun ad => [.ref (ad 0), .int (iI x)]) g (qPi (fun (r : Int) (g' : qHp) => (inY g x ∧ fstB (bkB g x) (g 18 4) ≠ -1 ∧ r = fstB (bkB g x) (g 18 4)) ∧ g' = g)) (fun (E : String) (g' : qHp) => ((E = xIO ∧ ¬ inY g x) ∨ (E = xNS ∧ inY g x ∧ fstB (bkB g x) (g 18 4) = -1)) ∧ g' = g) := by
  refine q_meth (by decide +kernel) rfl (fun _ => (Nat.le_of_ble_eq_true rfl)) (fun X ω C => ?_)
  refine q_loc [(0, .ref (ω.1 0)), (1, .int (iI x))] ⟨rfl, rfl, trivial⟩ ?_
  refine q_aload_n C 0 dX5_appointmentOf_0 rfl rfl ?_
  refine q_iload_n C 1 dX5_appointmentOf_1 rfl rfl ?_
  refine q_VvX C (KX5_requireBox _ _ (by omega)) mX5_requireBox ml_X5_98 dX5_appointmentOf_2 (by decide) (by decide) rfl rfl rfl (Nat.le_of_ble_eq_true rfl) rfl (by decide) rfl rfl (fun E g' h => ⟨Or.inl (⟨h.1.1, h.1.2⟩), h.2⟩) (fun h2 => ?_)
  refine q_aload_n C 0 dX5_appointmentOf_5 rfl rfl ?_
  refine q_getr C (b := 0) 3 rfl (by decide) rfl in_X5 (by decide) fl_X5_37 rfl dX5_appointmentOf_6 ?_
  refine q_iload_n C 1 dX5_appointmentOf_9 rfl rfl ?_
  refine q_Vf0 C (KX1_bookedFor _ _ (by omega)) mX1_bookedFor ml_X5_200 dX5_appointmentOf_10 (by decide) (by decide) rfl rfl rfl (Nat.le_of_ble_eq_true rfl) rfl (by decide) rfl rfl (fun v10 l10 u10 h10 => ?_)
  refine q_istoreV_n C 2 dX5_appointmentOf_13 rfl (by decide) (fun v13 e13 => ?_)
  refine q_iload_n C 2 dX5_appointmentOf_14 rfl rfl ?_
  refine q_iconst C dX5_appointmentOf_15 ?_
  refine q_icmp_ne C 29 dX5_appointmentOf_16 (by decide) (by omega) (by omega) (fun c16 => ?_) (fun c16 => ?_)
  · refine q_iload_n C 2 dX5_appointmentOf_29 rfl rfl ?_
    exact q_iretI C dX5_appointmentOf_30 (by omega) (by decide) ⟨⟨h2, by omega, by omega⟩, rfl⟩
  · exact q_throwN C "the box has no booked appointment" rfl (by decide +kernel) dX5_appointmentOf_19 dX5_appointmentOf_22 dX5_appointmentOf_23 dX5_appointmentOf_25 dX5_appointmentOf_28 (by decide) (Nat.le_of_ble_eq_true rfl) (by decide) ⟨Or.inr (⟨rfl, ⟨h2, by omega⟩⟩), rfl⟩
set_option maxRecDepth 20000 in
theorem KX5_inLane (g : qHp) (l : Int) (hl : -2147483648 ≤ l ∧ l < 2147483648) (h : Int) (hh : -2147483648 ≤ h ∧ h < 2147483648)  : qC yX5_inLane (.code yX5_inLane cX5_inLane 3 (some .int)) 7 2 (fun ad => [.ref (ad 0), .int (iI l), .int (iI h)]) g (qPi (fun (r : Int) (g' : qHp) => ((0 ≤ l ∧ l < 3) ∧ (0 ≤ h ∧ h ≤ 999) ∧ r = fstB (bkL g l h) (g 18 4)) ∧ g' = g)) (fun (E : String) (g' : qHp) => ((E = xIO ∧ ¬ (0 ≤ l ∧ l < 3)) ∨ (E = xIA ∧ (0 ≤ l ∧ l < 3) ∧ ¬ (0 ≤ h ∧ h ≤ 999))) ∧ g' = g) := by
  refine q_meth (by decide +kernel) rfl (fun _ => (Nat.le_of_ble_eq_true rfl)) (fun X ω C => ?_)
  refine q_loc [(0, .ref (ω.1 0)), (1, .int (iI l)), (2, .int (iI h))] ⟨rfl, rfl, rfl, trivial⟩ ?_
  refine q_aload_n C 0 dX5_inLane_0 rfl rfl ?_
  refine q_iload_n C 1 dX5_inLane_1 rfl rfl ?_
  refine q_VvX C (KX5_requireLane _ _ (by omega)) mX5_requireLane ml_X5_190 dX5_inLane_2 (by decide) (by decide) rfl rfl rfl (Nat.le_of_ble_eq_true rfl) rfl (by decide) rfl rfl (fun E g' h => ⟨Or.inl (⟨h.1.1, h.1.2⟩), h.2⟩) (fun h2 => ?_)
  refine q_iload_n C 2 dX5_inLane_5 rfl rfl ?_
  refine q_iflt C 16 dX5_inLane_6 (by decide) (by omega) (fun c6 => ?_) (fun c6 => ?_)
  · exact q_throw C "java/lang/IllegalArgumentException" "the hour is not between 0 and 999" rfl (by decide +kernel) tk_IllegalArgumentException ti_IllegalArgumentException (by decide +kernel) ta_IllegalArgumentException tg_IllegalArgumentException dX5_inLane_16 dX5_inLane_19 dX5_inLane_20 dX5_inLane_22 dX5_inLane_25 (by decide) (Nat.le_of_ble_eq_true rfl) (by decide) ⟨Or.inr (⟨rfl, ⟨h2, by omega⟩⟩), rfl⟩
  · refine q_iload_n C 2 dX5_inLane_9 rfl rfl ?_
    refine q_sipush C dX5_inLane_10 (by decide +kernel) ?_
    refine q_icmp_le C 26 dX5_inLane_13 (by decide) (by omega) (by omega) (fun c13 => ?_) (fun c13 => ?_)
    · refine q_aload_n C 0 dX5_inLane_26 rfl rfl ?_
      refine q_getr C (b := 0) 3 rfl (by decide) rfl in_X5 (by decide) fl_X5_37 rfl dX5_inLane_27 ?_
      refine q_iload_n C 1 dX5_inLane_30 rfl rfl ?_
      refine q_iload_n C 2 dX5_inLane_31 rfl rfl ?_
      refine q_Vf0 C (KX1_bookedAt _ _ (by omega) _ (by omega)) mX1_bookedAt ml_X5_203 dX5_inLane_32 (by decide) (by decide) rfl rfl rfl (Nat.le_of_ble_eq_true rfl) rfl (by decide) rfl rfl (fun v32 l32 u32 h32 => ?_)
      exact q_iretI C dX5_inLane_35 (by omega) (by decide) ⟨⟨h2, by omega, by omega⟩, rfl⟩
    · exact q_throw C "java/lang/IllegalArgumentException" "the hour is not between 0 and 999" rfl (by decide +kernel) tk_IllegalArgumentException ti_IllegalArgumentException (by decide +kernel) ta_IllegalArgumentException tg_IllegalArgumentException dX5_inLane_16 dX5_inLane_19 dX5_inLane_20 dX5_inLane_22 dX5_inLane_25 (by decide) (Nat.le_of_ble_eq_true rfl) (by decide) ⟨Or.inr (⟨rfl, ⟨h2, by omega⟩⟩), rfl⟩
set_option maxRecDepth 20000 in
theorem KX5_firstHour (g : qHp) (x : Int) (hx : -2147483648 ≤ x ∧ x < 2147483648)  : qC yX5_firstHour (.code yX5_firstHour cX5_firstHour 3 (some .int)) 7 2 (fun ad => [.ref (ad 0), .int (iI x)]) g (qPi (fun (r : Int) (g' : qHp) => (inY g x ∧ (g 0 4 < r ∧ r ≤ 999) ∧ (¬ hlI g x r ∧ frL g r) ∧ ∀ j, g 0 4 < j → j < r → ¬ (¬ hlI g x j ∧ frL g j)) ∧ g' = g)) (fun (E : String) (g' : qHp) => ((E = xIO ∧ ¬ inY g x) ∨ (E = xNS ∧ inY g x ∧ ∀ j, g 0 4 < j → j ≤ 999 → ¬ (¬ hlI g x j ∧ frL g j))) ∧ g' = g) := by
  refine q_meth (by decide +kernel) rfl (fun _ => (Nat.le_of_ble_eq_true rfl)) (fun X ω C => ?_)
  refine q_nm (fun hn => ?_)
  have r0_4 : 0 ≤ g 0 4 ∧ g 0 4 ≤ 999 := hn 0 4
  refine q_loc [(0, .ref (ω.1 0)), (1, .int (iI x))] ⟨rfl, rfl, trivial⟩ ?_
  refine q_aload_n C 0 dX5_firstHour_0 rfl rfl ?_
  refine q_iload_n C 1 dX5_firstHour_1 rfl rfl ?_
  refine q_VvX C (KX5_requireBox _ _ (by omega)) mX5_requireBox ml_X5_98 dX5_firstHour_2 (by decide) (by decide) rfl rfl rfl (Nat.le_of_ble_eq_true rfl) rfl (by decide) rfl rfl (fun E g' h => ⟨Or.inl (⟨h.1.1, h.1.2⟩), h.2⟩) (fun h2 => ?_)
  refine q_aload_n C 0 dX5_firstHour_5 rfl rfl ?_
  refine q_geti C (b := 0) 4 4 0 999 rfl (by decide) rfl in_X5 (by decide) fl_X5_124 rfl rfl rfl dX5_firstHour_6 (fun v6 e6 l6 u6 => ?_)
  refine q_iconst C dX5_firstHour_9 ?_
  refine q_iadd C dX5_firstHour_10 ?_
  refine q_istoreV_n C 2 dX5_firstHour_11 rfl (by decide) (fun v11 e11 => ?_)
  have loop : ∀ (n : Nat) (i : Int), ((1000 - i) < (n : Int)) → (g 0 4 < i ∧ i ≤ 1000) → (∀ j, g 0 4 < j → j < i → ¬ (¬ hlI g x j ∧ frL g j)) → qT X ω 3 (0 + 1) (qEnd X ω (qPi (fun (r : Int) (g' : qHp) => (inY g x ∧ (g 0 4 < r ∧ r ≤ 999) ∧ (¬ hlI g x r ∧ frL g r) ∧ ∀ j, g 0 4 < j → j < r → ¬ (¬ hlI g x j ∧ frL g j)) ∧ g' = g)) (fun (E : String) (g' : qHp) => ((E = xIO ∧ ¬ inY g x) ∨ (E = xNS ∧ inY g x ∧ ∀ j, g 0 4 < j → j ≤ 999 → ¬ (¬ hlI g x j ∧ frL g j))) ∧ g' = g) 2) g 12 [(0, .ref (ω.1 0)), (1, .int (iI x)), (2, .int (iI i))] [] := by
    intro n
    induction n with
    | zero => intro i hm hi hI; exfalso; omega
    | succ n ih =>
      intro i hm hi hI
      refine q_iload_n C 2 dX5_firstHour_12 rfl rfl ?_
      refine q_sipush C dX5_firstHour_13 (by decide +kernel) ?_
      refine q_icmp_gt C 50 dX5_firstHour_16 (by decide) (by omega) (by omega) (fun c16 => ?_) (fun c16 => ?_)
      · exact q_throwN C "there is no such hour up to 999" rfl (by decide +kernel) dX5_firstHour_50 dX5_firstHour_53 dX5_firstHour_54 dX5_firstHour_56 dX5_firstHour_59 (by decide) (Nat.le_of_ble_eq_true rfl) (by decide) ⟨Or.inr (⟨rfl, ⟨h2, fun j a b => hI j a (by omega)⟩⟩), rfl⟩
      · refine q_aload_n C 0 dX5_firstHour_19 rfl rfl ?_
        refine q_getr C (b := 0) 0 rfl (by decide) rfl in_X5 (by decide) fl_X5_15 rfl dX5_firstHour_20 ?_
        refine q_iload_n C 1 dX5_firstHour_23 rfl rfl ?_
        refine q_iload_n C 2 dX5_firstHour_24 rfl rfl ?_
        refine q_Vf0 C (KX0_isHeldIn _ _ (by omega) _ (by omega)) mX0_isHeldIn ml_X5_195 dX5_firstHour_25 (by decide) (by decide) rfl rfl rfl (Nat.le_of_ble_eq_true rfl) rfl (by decide) rfl rfl (fun v25 l25 u25 h25 => ?_)
        refine q_ifne C 44 dX5_firstHour_28 (by decide) (by omega) (fun c28 => ?_) (fun c28 => ?_)
        · refine q_iinc C dX5_firstHour_44 rfl (by decide) (fun v44 e44 => ?_)
          refine q_goto C 12 dX5_firstHour_47 (by decide) ?_
          refine q_loc [(0, .ref (ω.1 0)), (1, .int (iI x)), (2, .int (iI v44))] ⟨rfl, rfl, rfl, trivial⟩ ?_
          exact ih v44 (by omega) (by omega) (fun j a b q => by by_cases e : j = i; (· subst e; first | (rcases h25 with ⟨z, z2⟩ | ⟨z, z2⟩; (· exact q.1 z); (· omega)) | (rcases h36 with ⟨z, z2⟩ | ⟨z, z2, z3, z4⟩; (· omega); (· rcases q.2 with w | w | w; (· exact z2 w); (· exact z3 w); (· exact z4 w)))); (· exact hI j a (by omega) q))
        · refine q_aload_n C 0 dX5_firstHour_31 rfl rfl ?_
          refine q_getr C (b := 0) 3 rfl (by decide) rfl in_X5 (by decide) fl_X5_37 rfl dX5_firstHour_32 ?_
          refine q_iload_n C 2 dX5_firstHour_35 rfl rfl ?_
          refine q_Vf0 C (KX1_hasFreeLane _ _ (by omega)) mX1_hasFreeLane ml_X5_236 dX5_firstHour_36 (by decide) (by decide) rfl rfl rfl (Nat.le_of_ble_eq_true rfl) rfl (by decide) rfl rfl (fun v36 l36 u36 h36 => ?_)
          refine q_ifeq C 44 dX5_firstHour_39 (by decide) (by omega) (fun c39 => ?_) (fun c39 => ?_)
          · refine q_iinc C dX5_firstHour_44 rfl (by decide) (fun v44 e44 => ?_)
            refine q_goto C 12 dX5_firstHour_47 (by decide) ?_
            refine q_loc [(0, .ref (ω.1 0)), (1, .int (iI x)), (2, .int (iI v44))] ⟨rfl, rfl, rfl, trivial⟩ ?_
            exact ih v44 (by omega) (by omega) (fun j a b q => by by_cases e : j = i; (· subst e; first | (rcases h25 with ⟨z, z2⟩ | ⟨z, z2⟩; (· exact q.1 z); (· omega)) | (rcases h36 with ⟨z, z2⟩ | ⟨z, z2, z3, z4⟩; (· omega); (· rcases q.2 with w | w | w; (· exact z2 w); (· exact z3 w); (· exact z4 w)))); (· exact hI j a (by omega) q))
          · refine q_iload_n C 2 dX5_firstHour_42 rfl rfl ?_
            exact q_iretI C dX5_firstHour_43 (by omega) (by decide) ⟨⟨h2, by omega, ⟨by rcases h25 with ⟨z, z2⟩ | ⟨z, z2⟩; (· omega); (· exact z), by rcases h36 with ⟨z, z2⟩ | ⟨z, z2⟩; (· exact z2); (· omega)⟩, hI⟩, rfl⟩
  refine q_loc [(0, .ref (ω.1 0)), (1, .int (iI x)), (2, .int (iI v11))] ⟨rfl, rfl, rfl, trivial⟩ ?_
  exact loop ((1000 - v11).toNat + 1) v11 (by omega) (by omega) (fun j a b => by exfalso; omega)
set_option maxRecDepth 20000 in
theorem KX5_now (g : qHp)  : qC yX5_now (.code yX5_now cX5_now 1 (some .int)) 0 0 (fun ad => [.ref (ad 0)]) g (qPi (fun (r : Int) (g' : qHp) => (r = g 0 4) ∧ g' = g)) qNo := by
  refine q_meth (by decide +kernel) rfl (fun _ => (Nat.le_of_ble_eq_true rfl)) (fun X ω C => ?_)
  refine q_loc [(0, .ref (ω.1 0))] ⟨rfl, trivial⟩ ?_
  refine q_aload_n C 0 dX5_now_0 rfl rfl ?_
  refine q_geti C (b := 0) 4 4 0 999 rfl (by decide) rfl in_X5 (by decide) fl_X5_124 rfl rfl rfl dX5_now_1 (fun v1 e1 l1 u1 => ?_)
  subst e1
  exact q_iretI C dX5_now_4 (by omega) (by decide) (⟨by omega, rfl⟩)
set_option maxRecDepth 20000 in
theorem KX5_weightLeft (g : qHp)  : qC yX5_weightLeft (.code yX5_weightLeft cX5_weightLeft 1 (some .long)) 0 0 (fun ad => [.ref (ad 0)]) g (qPl (fun (r : Int) (g' : qHp) => (r = g 0 6) ∧ g' = g)) qNo := by
  refine q_meth (by decide +kernel) rfl (fun _ => (Nat.le_of_ble_eq_true rfl)) (fun X ω C => ?_)
  refine q_loc [(0, .ref (ω.1 0))] ⟨rfl, trivial⟩ ?_
  refine q_aload_n C 0 dX5_weightLeft_0 rfl rfl ?_
  refine q_getl C (b := 0) 6 6 (-9223372036854775808) 9223372036854775807 rfl (by decide) rfl in_X5 (by decide) fl_X5_249 rfl rfl rfl dX5_weightLeft_1 (fun v1 e1 l1 u1 => ?_)
  subst e1
  exact q_lretL C dX5_weightLeft_4 (by omega) (by decide) (⟨by omega, rfl⟩)
