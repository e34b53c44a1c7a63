/-! Planner: the search -/
abbrev leaG (g : qHp) (b lim : Int) (L : List Int) : Prop := leastP (g 5 5) (cut4 (g 6)) (cGet (g 1 3) (g 2) 0) (pinB g) b (stOf (g 7) (g 8)) lim L
abbrev plnG (g : qHp) (b : Int) (L : List Int) : Prop := plnR (g 5 5) (cut4 (g 6)) (cGet (g 1 3) (g 2) 0) (pinB g) b (stOf (g 7) (g 8)) L
abbrev nodG (g : qHp) (b lim : Int) (L : List Int) (z : St) (n : Nat) : Prop := nodeB (g 5 5) (cut4 (g 6)) (cGet (g 1 3) (g 2) 0) (pinB g) b (stOf (g 7) (g 8)) lim L z n
abbrev seaG (g : qHp) (b lim : Int) (H : List Int) : Prop := seaI (g 5 5) (cut4 (g 6)) (cGet (g 1 3) (g 2) 0) (pinB g) b (stOf (g 7) (g 8)) lim H
def fndQ (g g' : qHp) (b lim r : Int) : Prop := (∀ k, k < 10 ∨ 18 ≤ k → g' k = g k) ∧ ((r = 1 ∧ ∃ L, leaG g b lim L ∧ g' 15 3 = keyN L.length L) ∨ (r = 0 ∧ ∀ L, plnG g b L → ¬ (L.length : Int) ≤ lim))
def fndP (g : qHp) (b lim : Int) : Prop := yOK (g 5 5) (g 6) (g 7) (g 8) (g 9) ∧ (0 ≤ b ∧ b < 20) ∧ ∃ o : Nat, ovR (stOf (g 7) (g 8)) b o ∧ lim = o + 1 ∧ o ≤ 3
def fndI (g g1 : qHp) (b lim k : Int) : Prop := hpO (g1 17) (g1 16 1) ∧ 0 ≤ g1 16 1 ∧ (∀ k, k < 10 ∨ 18 ≤ k → g1 k = g k) ∧ seaG g b lim (hpL (g1 17) (g1 16 1).toNat) ∧ k + sumW lim (hpL (g1 17) (g1 16 1).toNat) ≤ 730
theorem ix_lt {b : Int} : ∀ {l : List Int}, b ∈ l → ixO b l < l.length
  | [], h => (nomatch h)
  | x :: l, h => by
    unfold ixO
    by_cases e : x = b
    · rw [if_pos e]
      simp
    · rw [if_neg e]
      rcases List.mem_cons.mp h with q | q
      · exact absurd q.symm e
      · have := ix_lt q
        simp only [List.length_cons]
        omega
theorem fndP_of {g : qHp} {b : Int} (hyo : yOK (g 5 5) (g 6) (g 7) (g 8) (g 9)) (hb : 0 ≤ b ∧ b < 20) (hs : g 9 b ≠ -1) : fndP g b (yOvr (g 5 5) (g 7) (g 8) (g 9) b + 1) := by
  obtain ⟨h1, h2, h3, h4⟩ := yOvr_ix hyo hb hs
  exact ⟨hyo, hb, _, ⟨_, h2, rfl⟩, by rw [h1], by omega⟩
theorem fndI_0 {g g1 : qHp} {b lim x : Int} (P : fndP g b lim) (hx : x = (lim - 1) * 2147483648) (a1 : hpO (g1 17) 1) (a2 : (hpL (g1 17) (1 : Int).toNat).Perm [x]) (a3 : g1 16 1 = 1) (a4 : ∀ k, k < 10 ∨ 18 ≤ k → g1 k = g k) : fndI g g1 b lim 0 := by
  obtain ⟨hyo, hb, o, h1, h2, h3⟩ := P
  have ek : x = keyN o [] := by
    rw [hx, h2]
    unfold keyN
    rw [mC_0]
    simp only [List.length_nil]
    omega
  unfold fndI
  rw [a3]
  refine ⟨a1, by decide, a4, seaI_perm a2 (by rw [ek]; exact seaI_0 h1 (by omega)), ?_⟩
  rw [sumW_perm a2]
  have := wN_pos (lim - x / 2147483648) (x / 2147483648 - x % 8)
  simp only [sumW, wB]
  omega
theorem fnd_pop {g g1 g2 : qHp} {b lim k B : Int} (P : fndP g b lim) (I : fndI g g1 b lim k) (h0 : 0 < g1 16 1) (t1 : B = g1 17 0) (t3 : (B :: hpL (g2 17) (g1 16 1 - 1).toNat).Perm (hpL (g1 17) (g1 16 1).toNat)) : ∃ L z n, nodG g b lim L z n ∧ B = keyN ((L.length : Int) + (n : Nat)) L ∧ digs L ∧ L.length + n ≤ 4 ∧ n ≤ 3 ∧ (0 ≤ lim - (L.length + n) ∧ lim - (L.length + n) ≤ 1) ∧ (∀ D ∈ hpL (g1 17) (g1 16 1).toNat, B ≤ D) ∧ (0 ≤ B ∧ B ≤ 1099511627775) ∧ B / 2147483648 = L.length + n ∧ B % 8 = L.length := by
  obtain ⟨hyo, hb, o, p1, p2, p3⟩ := P
  obtain ⟨i1, i2, i3, i4, i5⟩ := I
  obtain ⟨L, z, n, N, e⟩ := i4.1 B (t3.mem_iff.mp List.mem_cons_self)
  have hc := hyo.1
  have hd := run_dig hc.2 (yOK_cut hyo) hyo.2.2.2.2.1 N.1
  have hz := wf_run (yOK_cut hyo) hyo.2.2.2.2.1 N.1
  have hn : n ≤ 3 := by
    obtain ⟨s, q1, q2⟩ := N.2.1
    have := ix_lt q1
    have := hz.2.2.2.1 s
    omega
  obtain ⟨n', u1, u2⟩ := ov_run N.1 p1
  have eu := ov_u hz N.2.1 u1
  have hle := N.2.2
  have k := key_need (nd := (L.length : Int) + n) hd (by omega)
  rw [← e] at k
  refine ⟨L, z, n, N, e, hd, by omega, hn, by omega, fun D hD => ?_, by rw [e]; exact key_big hd (by omega) (by omega), k.1, k.2⟩
  obtain ⟨i, j1, j2, j3⟩ := hpL_mem.mp hD
  rw [t1, ← j3]
  exact hpO_min i1 i.toNat i (by omega) j1 (by omega)
theorem fnd_addP {g g1 g2 g3 : qHp} {b lim k B : Int} {L : List Int} {z : St} {n : Nat} (P : fndP g b lim) (I : fndI g g1 b lim k) (hk : 0 ≤ k) (h0 : 0 < g1 16 1) (t2 : hpO (g2 17) (g1 16 1 - 1)) (t3 : (B :: hpL (g2 17) (g1 16 1 - 1).toNat).Perm (hpL (g1 17) (g1 16 1).toNat)) (t4 : g2 16 1 = g1 16 1 - 1) (N : nodG g b lim L z n) (e : B = keyN ((L.length : Int) + (n : Nat)) L) (hd : digs L) (hn : n ≤ 3) (hn0 : n ≠ 0) (he : 0 ≤ lim - (L.length + n) ∧ lim - (L.length + n) ≤ 1) (T : triA g2 g3 z) : addP g3 b lim B L n := by
  obtain ⟨hyo, hb, o, p1, p2, p3⟩ := P
  obtain ⟨i1, i2, i3, i4, i5⟩ := I
  obtain ⟨s1, s2, s3, s4, s5⟩ := T
  have e16 := s5 16 (Or.inr (by decide))
  have e17 := s5 17 (Or.inr (by decide))
  refine ⟨s3, hb, e, hd, by rw [s4]; exact N.2.1, ⟨by omega, hn⟩, he, by omega, by rw [e16, e17, t4]; exact t2, by rw [e16, t4]; omega, ?_⟩
  rw [e16, t4]
  rw [← sumW_perm t3] at i5
  have hl := sumW_len (lim := lim) (H := hpL (g2 17) (g1 16 1 - 1).toNat)
  rw [hpL_len] at hl
  simp only [sumW] at i5
  omega
theorem fnd_go {g g1 g2 g3 g4 : qHp} {b lim k B : Int} {L : List Int} {z : St} {n : Nat} (P : fndP g b lim) (I : fndI g g1 b lim k) (h0 : 0 < g1 16 1) (t3 : (B :: hpL (g2 17) (g1 16 1 - 1).toNat).Perm (hpL (g1 17) (g1 16 1).toNat)) (t4 : g2 16 1 = g1 16 1 - 1) (t5 : hpK g1 g2) (N : nodG g b lim L z n) (e : B = keyN ((L.length : Int) + (n : Nat)) L) (hn0 : n ≠ 0) (T : triA g2 g3 z) (A : addQ g3 g4 b lim B L) : fndI g g4 b lim (k + 1) := by
  obtain ⟨hyo, hb, o, p1, p2, p3⟩ := P
  obtain ⟨i1, i2, i3, i4, i5⟩ := I
  obtain ⟨s1, s2, s3, s4, s5⟩ := T
  obtain ⟨CH, a1, a2, a3, a4, a5, a6, a7⟩ := A
  have e16 := s5 16 (Or.inr (by decide))
  have e17 := s5 17 (Or.inr (by decide))
  have E2 : ∀ k, k < 10 ∨ 18 ≤ k → g2 k = g k := fun k hk => by rw [t5.1 k (by omega) (by omega), i3 k hk]
  have E3 : ∀ k, k < 10 ∨ 18 ≤ k → g3 k = g k := fun k hk => by rw [s5 k (by omega), E2 k hk]
  have kk : ∀ s t x D, kidG g3 b lim L s t x D ↔ isKid (g 5 5) (cut4 (g 6)) (cGet (g 1 3) (g 2) 0) (pinB g) b lim L z s t x D := by
    intro s t x D
    unfold kidG
    rw [s1, s2, s4, E2 5 (by omega), E2 6 (by omega), E3 1 (by omega), E3 2 (by omega), pin_K (fun k hk => E3 k (Or.inl hk))]
  have hp := a2
  rw [e16, e17, t4] at hp
  refine ⟨a1, by rw [a3, e16, t4]; omega, fun k hk => by rw [a4.1 k (by omega) (by omega), E3 k hk], ?_, ?_⟩
  · refine seaI_step (yOK_cut hyo) hyo.1.2 (by omega) hyo.2.2.2.2.1 (by rw [← e]; exact seaI_perm t3 i4) N hn0 hp (fun D hD => ?_) (fun s t x D hD => a6 s t x D ((kk s t x D).mpr hD))
    obtain ⟨s, t, x, q⟩ := a5 D hD
    exact ⟨s, t, x, (kk s t x D).mp q⟩
  · rw [sumW_perm hp, sumW_app]
    rw [← sumW_perm t3] at i5
    simp only [sumW] at i5
    omega
set_option maxRecDepth 20000 in
theorem KX3_find (g : qHp) (b : Int) (hb : -2147483648 ≤ b ∧ b < 2147483648) (hyo : yOK (g 5 5) (g 6) (g 7) (g 8) (g 9)) (hb2 : 0 ≤ b ∧ b < 20) (hs : g 9 b ≠ -1) (lim : Int) (hlm : lim = yOvr (g 5 5) (g 7) (g 8) (g 9) b + 1) : qC yX3_find (.code yX3_find cX3_find 6 (some .boolean)) 4 0 (fun ad => [.ref (ad 15), .int (iI b)]) g (qPi (fun (r : Int) (g' : qHp) => fndQ g g' b lim r)) qNo := by
  refine q_meth (by decide +kernel) rfl (fun _ => (Nat.le_of_ble_eq_true rfl)) (fun X ω C => ?_)
  refine q_nm (fun hn => ?_)
  have r16_1 : 0 ≤ g 16 1 ∧ g 16 1 ≤ 1024 := hn 16 1
  have P : fndP g b lim := by rw [hlm]; exact fndP_of hyo hb2 hs
  have hl1 : 1 ≤ lim ∧ lim ≤ 4 := by obtain ⟨-, -, o, -, q, q2⟩ := P; omega
  refine q_loc [(0, .ref (ω.1 15)), (1, .int (iI b))] ⟨rfl, rfl, trivial⟩ ?_
  refine q_aload_n C 0 dX3_find_0 rfl rfl ?_
  refine q_getr C (b := 15) 0 rfl (by decide) rfl in_X3 (by decide) fl_X3_18 rfl dX3_find_1 ?_
  refine q_iload_n C 1 dX3_find_4 rfl rfl ?_
  refine q_Vf0 C (KX4_boxesOver_5 _ _ (by omega)) mX4_boxesOver ml_X3_25 dX3_find_5 (by decide) (by decide) rfl rfl rfl (Nat.le_of_ble_eq_true rfl) rfl (by decide) rfl rfl (fun v5 l5 u5 h5 => ?_)
  refine q_istoreV_n C 2 dX3_find_8 rfl (by decide) (fun v8 e8 => ?_)
  refine q_aload_n C 0 dX3_find_9 rfl rfl ?_
  refine q_getr C (b := 15) 2 rfl (by decide) rfl in_X3 (by decide) fl_X3_14 rfl dX3_find_10 ?_
  refine q_Vv0 C (KX2_clear _) mX2_clear ml_X3_31 dX3_find_13 (by decide) (by decide) rfl rfl rfl (Nat.le_of_ble_eq_true rfl) rfl (by decide) rfl rfl ?_
  refine q_aload_n C 0 dX3_find_16 rfl rfl ?_
  refine q_getr C (b := 15) 2 rfl (by decide) rfl in_X3 (by decide) fl_X3_14 rfl dX3_find_17 ?_
  have q8 : lim = v8 + 1 := by rw [hlm, e8, h5.1]
  refine q_iload_n C 2 dX3_find_20 rfl rfl ?_
  refine q_Sl0 C (KX3_begunWith _ _ (by omega) (by omega)) mX3_begunWith ml_X3_34 dX3_find_21 (by decide) (by decide) rfl rfl rfl (Nat.le_of_ble_eq_true rfl) (fun v21 l21 u21 h21 => ?_)
  refine q_Vw0 C (KX2_add _ _ (by omega) (by omega) (by rw [qUp_s]; decide) (by rw [qUp_s]; intro i p q; omega)) mX2_add ml_X3_38 dX3_find_24 (by decide) (by decide) rfl rfl rfl (Nat.le_of_ble_eq_true rfl) rfl (by decide) rfl rfl (fun g24 h24 => ?_)
  refine q_iconst C dX3_find_27 ?_
  refine q_istoreV_n C 3 dX3_find_28 rfl (by decide) (fun v28 e28 => ?_)
  rw [qUp_s] at h24
  have loop : ∀ (n : Nat) (k : Int) (g1 : qHp), ((1024 - k) < (n : Int)) → (0 ≤ k ∧ k ≤ 730) → (fndI g g1 b lim k) → qT X ω 6 0 (qEnd X ω (qPi (fun (r : Int) (g' : qHp) => fndQ g g' b lim r)) qNo 0) g1 29 [(0, .ref (ω.1 15)), (1, .int (iI b)), (2, .int (iI v8)), (3, .int (iI k))] [] := by
    intro n
    induction n with
    | zero => intro k g1 hm hk hI; exfalso; omega
    | succ n ih =>
      intro k g1 hm hk hI
      have hsz : 0 ≤ g1 16 1 := hI.2.1
      refine q_iload_n C 3 dX3_find_29 rfl rfl ?_
      refine q_sipush C dX3_find_30 (by decide +kernel) ?_
      refine q_icmp_ge C 98 dX3_find_33 (by decide) (by omega) (by omega) (fun c33 => ?_) (fun c33 => ?_)
      · refine q_iconst C dX3_find_98 ?_
        first
          | (exfalso; omega)
          | (refine q_iretZ C dX3_find_99 (by omega) (by decide) ⟨hI.2.2.1, Or.inr ⟨rfl, fun L hL hl => ?_⟩⟩
             have q := hI.2.2.2.1
             rw [show (g1 16 1).toNat = 0 by omega] at q
             exact seaI_no q hL hl)
      · refine q_aload_n C 0 dX3_find_36 rfl rfl ?_
        refine q_getr C (b := 15) 2 rfl (by decide) rfl in_X3 (by decide) fl_X3_14 rfl dX3_find_37 ?_
        refine q_Vf0 C (KX2_isEmpty _) mX2_isEmpty ml_X3_42 dX3_find_40 (by decide) (by decide) rfl rfl rfl (Nat.le_of_ble_eq_true rfl) rfl (by decide) rfl rfl (fun v40 l40 u40 h40 => ?_)
        refine q_ifne C 98 dX3_find_43 (by decide) (by omega) (fun c43 => ?_) (fun c43 => ?_)
        · refine q_iconst C dX3_find_98 ?_
          first
            | (exfalso; omega)
            | (refine q_iretZ C dX3_find_99 (by omega) (by decide) ⟨hI.2.2.1, Or.inr ⟨rfl, fun L hL hl => ?_⟩⟩
               have q := hI.2.2.2.1
               rw [show (g1 16 1).toNat = 0 by omega] at q
               exact seaI_no q hL hl)
        · refine q_aload_n C 0 dX3_find_46 rfl rfl ?_
          refine q_getr C (b := 15) 2 rfl (by decide) rfl in_X3 (by decide) fl_X3_14 rfl dX3_find_47 ?_
          refine q_Vli0 C (KX2_takeFirst _ (by omega) hI.1) mX2_takeFirst ml_X3_46 dX3_find_50 (by decide) (by decide) rfl rfl rfl (Nat.le_of_ble_eq_true rfl) rfl (by decide) rfl rfl (fun v50 g50 l50 u50 h50 => ?_)
          obtain ⟨t1, t2, t3, t4, t5⟩ := h50
          obtain ⟨L, z, n, N, eB, hd, hln, hn3, he, hmin, hBr, hnd, hlen⟩ := fnd_pop P hI (by omega) t1 t3
          refine q_lstore C dX3_find_53 (by decide) ?_
          refine q_lload C dX3_find_55 rfl ?_
          refine q_Sf0 C (KX3_needOf _ _ (by omega) (by omega)) mX3_needOf ml_X3_50 dX3_find_57 (by decide) (by decide) rfl rfl rfl (Nat.le_of_ble_eq_true rfl) (fun v57 l57 u57 h57 => ?_)
          refine q_lload C dX3_find_60 rfl ?_
          refine q_Sf0 C (KX3_lengthOf _ _ (by omega) (by omega)) mX3_lengthOf ml_X3_54 dX3_find_62 (by decide) (by decide) rfl rfl rfl (Nat.le_of_ble_eq_true rfl) (fun v62 l62 u62 h62 => ?_)
          refine q_icmp_ne C 76 dX3_find_65 (by decide) (by omega) (by omega) (fun c65 => ?_) (fun c65 => ?_)
          · have E : ∀ k, k < 10 ∨ 18 ≤ k → g50 k = g k := fun k hk => by rw [t5.1 k (by omega) (by omega), hI.2.2.1 k hk]
            have e1 := E 1 (by omega)
            have e2 := E 2 (by omega)
            have e5 := E 5 (by omega)
            have e6 := E 6 (by omega)
            have e7 := E 7 (by omega)
            have e8' := E 8 (by omega)
            have e9 := E 9 (by omega)
            have hyo2 : yOK (g50 5 5) (g50 6) (g50 7) (g50 8) (g50 9) := by
              rw [e5, e6, e7, e8', e9]
              exact hyo
            have hrun2 : runR (g50 5 5) (cut4 (g50 6)) (cGet (g50 1 3) (g50 2) 0) (pinB g50) b L (stOf (g50 7) (g50 8)) z := by
              rw [e5, e6, e7, e8', e1, e2, pin_K (fun k hk => E k (Or.inl hk))]
              exact N.1
            refine q_aload_n C 0 dX3_find_76 rfl rfl ?_
            refine q_lload C dX3_find_77 rfl ?_
            refine q_Vw0 C (KX3_layOut _ _ (by omega) hyo2 b _ L z eB hd (by omega) (by omega) hrun2) mX3_layOut ml_X3_61 dX3_find_79 (by decide) (by decide) rfl rfl rfl (Nat.le_of_ble_eq_true rfl) rfl (by decide) rfl rfl (fun g79 h79 => ?_)
            have AP := fnd_addP P hI hk.1 (by omega) t2 t3 t4 N eB hd hn3 (by omega) he h79
            rw [q8] at AP
            refine q_aload_n C 0 dX3_find_82 rfl rfl ?_
            refine q_lload C dX3_find_83 rfl ?_
            refine q_iload_n C 1 dX3_find_85 rfl rfl ?_
            refine q_iload_n C 2 dX3_find_86 rfl rfl ?_
            refine q_iconst C dX3_find_87 ?_
            refine q_iadd C dX3_find_88 ?_
            refine q_Vw0 C (KX3_addNextMoves _ _ (by omega) _ (by omega) _ (by omega) L n AP) mX3_addNextMoves ml_X3_64 dX3_find_89 (by decide) (by decide) rfl rfl rfl (Nat.le_of_ble_eq_true rfl) rfl (by decide) rfl rfl (fun g89 h89 => ?_)
            rw [← q8] at h89
            have FI := fnd_go P hI (by omega) t3 t4 t5 N eB (by omega) h79 h89
            refine q_iinc C dX3_find_92 rfl (by decide) (fun v92 e92 => ?_)
            refine q_goto C 29 dX3_find_95 (by decide) ?_
            refine q_loc [(0, .ref (ω.1 15)), (1, .int (iI b)), (2, .int (iI v8)), (3, .int (iI v92))] ⟨rfl, rfl, rfl, rfl, trivial⟩ ?_
            exact ih v92 _ (by omega) (by have q := FI.2.2.2.2; have q2 := sumW_nn (lim := lim) (H := hpL (g89 17) (g89 16 1).toNat); omega) (by subst e92; exact FI)
          · refine q_aload_n C 0 dX3_find_68 rfl rfl ?_
            refine q_lload C dX3_find_69 rfl ?_
            refine q_putl C (b := 15) 3 3 0 1099511627775 _ rfl (by decide) rfl in_X3 tyX3_ok nmX3 (by decide) fl_X3_57 rfl (by decide +kernel) rfl rfl rfl rfl (by omega) dX3_find_71 ?_
            refine q_iconst C dX3_find_74 ?_
            have hn0 : n = 0 := by omega
            subst hn0
            refine q_iretZ C dX3_find_75 (by omega) (by decide) ⟨fun k hk => by rw [qUp_row (by omega), t5.1 k (by omega) (by omega), hI.2.2.1 k hk], Or.inl ⟨rfl, L, ?_, by rw [qUp_s, eB]; simp⟩⟩
            exact seaI_goal (yOK_cut hyo) hyo.1.2 (by omega) hyo.2.2.2.2.1 hI.2.2.2.1 N (fun D hD => by have q := hmin D hD; rw [eB] at q; simpa using q)
  refine q_loc [(0, .ref (ω.1 15)), (1, .int (iI b)), (2, .int (iI v8)), (3, .int (iI v28))] ⟨rfl, rfl, rfl, rfl, trivial⟩ ?_
  exact loop ((1024 - v28).toNat + 1) v28 _ (by omega) (by omega) (by subst e28; exact fndI_0 P (by omega) h24.1 h24.2.1 h24.2.2.1 (fun k hk => by rw [h24.2.2.2.1 k (by omega) (by omega), qUp_row (by omega)]))
