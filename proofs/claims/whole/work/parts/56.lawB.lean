/-! the law's loop -/
theorem q_lawret {p : Program} {l : Launch} {e : Env} {s : State} {m : MethodId} {below : List Frame} {meth : Method} {c : Code} {b : Nat} {ω : qOm} {T : List ExceptionTableEntry} {nL k fr mc pc : Nat} {g : qHp} {ls : List (Nat × Value)} (C : qCx (p, l, e, room_1, s, m, #[Value.ref b], below, meth, c) ω RL cL_law nL (some .boolean) T fr mc) (hω : ω.2.2.2 = s.heap.size) (hk : k ≤ 10000) (hd : decode code pc = .ok (.ireturn, 1)) : qT (p, l, e, room_1, s, m, #[Value.ref b], below, meth, c) ω nL k (lw_Z below #[Value.ref b] s) g pc ls [.int (iI 1)] := by
  obtain ⟨hx, hb, hr, hml, hown, hts, hlk, -⟩ := C
  intro H locs la hw hS hl
  refine va_forget (fun q hq => by
    have h : ω.2.2.2 ≤ q.base := hS.2.2 q hq
    rw [hω] at h
    exact h) ?_
  refine W.widen (k := 601024) (n := 7293034) (by omega) (by omega) ?_
  rw [show iI 1 = (1 : Int32) by decide +kernel]
  exact lw_ret (Drawn.sameBut.refl s.drawn lw_cs) hx hb hr hlk hd
set_option maxRecDepth 20000 in
theorem law_loop {p : Program} {l : Launch} {e : Env} {s : State} {m : MethodId} {below : List Frame} {meth : Method} {c : Code} {b L : Nat} {xs : Nat → Int32} {ω : qOm} {T : List ExceptionTableEntry} (C : qCx (p, l, e, room_1, s, m, #[Value.ref b], below, meth, c) ω RL cL_law 8 (some .boolean) T 20 10000) (S : qSc (p, l, e, room_1, s, m, #[Value.ref b], below, meth, c) ω b L xs) (hω : ω.2.2.2 = s.heap.size) (hL : L ≤ 2048) : ∀ (n j : Nat) (g : qHp), L + 4 < 4 * j + n → 4 * j ≤ L + 3 → LI g → qT (p, l, e, room_1, s, m, #[Value.ref b], below, meth, c) ω 8 (300 + 4 * j) (lw_Z below #[Value.ref b] s) g 28 (lwL ω b (4 * (j : Int))) [] := by
  intro n
  induction n with
  | zero =>
    intro j g h1 h2 I
    omega
  | succ n ih =>
    intro j g h1 h2 I
    refine q_iload C dL_law_28 rfl ?_
    refine q_aload_n C 0 dL_law_30 rfl rfl ?_
    refine q_slen C S dL_law_31 ?_
    refine q_iconst C dL_law_32 ?_
    refine q_isub C dL_law_33 ?_
    refine q_icmp_gt C 1988 dL_law_34 (by decide) (by omega) (by omega) (fun c34 => ?_) (fun c34 => ?_)
    · refine q_iconst C dL_law_1988 ?_
      exact q_lawret C hω (by omega) dL_law_1989
    · have hj : 4 * j + 3 < L := by omega
      have ih' : ∀ g', LI g' → qT (p, l, e, room_1, s, m, #[Value.ref b], below, meth, c) ω 8 (300 + 4 * (j + 1)) (lw_Z below #[Value.ref b] s) g' 28 (lwL ω b (4 * ((j + 1 : Nat) : Int))) [] := fun g' I' => ih (j + 1) g' (by omega) (by omega) I'
      refine q_aload_n C 0 dL_law_37 rfl rfl ?_
      refine q_iload C dL_law_38 rfl ?_
      refine q_sld C S (a := 4 * (j : Int)) (by omega) (by omega) dL_law_40 ?_
      refine q_bipush C dL_law_41 (by decide +kernel) ?_
      refine q_iand C dL_law_43 _ (iI_of _) ?_
      have hr := iI_rng (iI (sI xs (4 * (j : Int))) &&& iI 63)
      generalize (iI (sI xs (4 * (j : Int))) &&& iI 63).toInt = a at hr ⊢
      by_cases q : 0 ≤ a ∧ a ≤ 32
      · rcases (show a = 0 ∨ a = 1 ∨ a = 2 ∨ a = 3 ∨ a = 4 ∨ a = 5 ∨ a = 6 ∨ a = 7 ∨ a = 8 ∨ a = 9 ∨ a = 10 ∨ a = 11 ∨ a = 12 ∨ a = 13 ∨ a = 14 ∨ a = 15 ∨ a = 16 ∨ a = 17 ∨ a = 18 ∨ a = 19 ∨ a = 20 ∨ a = 21 ∨ a = 22 ∨ a = 23 ∨ a = 24 ∨ a = 25 ∨ a = 26 ∨ a = 27 ∨ a = 28 ∨ a = 29 ∨ a = 30 ∨ a = 31 ∨ a = 32 by omega) with rfl | rfl | rfl | rfl | rfl | rfl | rfl | rfl | rfl | rfl | rfl | rfl | rfl | rfl | rfl | rfl | rfl | rfl | rfl | rfl | rfl | rfl | rfl | rfl | rfl | rfl | rfl | rfl | rfl | rfl | rfl | rfl | rfl
        · refine q_tableIn C 192 dL_law_44 (by decide) (by decide) (by decide) rfl (by decide) ?_
          exact law_c0 C S hL hj I ih'
        · refine q_tableIn C 248 dL_law_44 (by decide) (by decide) (by decide) rfl (by decide) ?_
          exact law_c1 C S hL hj I ih'
        · refine q_tableIn C 316 dL_law_44 (by decide) (by decide) (by decide) rfl (by decide) ?_
          exact law_c2 C S hL hj I ih'
        · refine q_tableIn C 329 dL_law_44 (by decide) (by decide) (by decide) rfl (by decide) ?_
          exact law_c3 C S hL hj I ih'
        · refine q_tableIn C 354 dL_law_44 (by decide) (by decide) (by decide) rfl (by decide) ?_
          exact law_c4 C S hL hj I ih'
        · refine q_tableIn C 410 dL_law_44 (by decide) (by decide) (by decide) rfl (by decide) ?_
          exact law_c5 C S hL hj I ih'
        · refine q_tableIn C 466 dL_law_44 (by decide) (by decide) (by decide) rfl (by decide) ?_
          exact law_c6 C S hL hj I ih'
        · refine q_tableIn C 522 dL_law_44 (by decide) (by decide) (by decide) rfl (by decide) ?_
          exact law_c7 C S hL hj I ih'
        · refine q_tableIn C 578 dL_law_44 (by decide) (by decide) (by decide) rfl (by decide) ?_
          exact law_c8 C S hL hj I ih'
        · refine q_tableIn C 634 dL_law_44 (by decide) (by decide) (by decide) rfl (by decide) ?_
          exact law_c9 C S hL hj I ih'
        · refine q_tableIn C 702 dL_law_44 (by decide) (by decide) (by decide) rfl (by decide) ?_
          exact law_c10 C S hL hj I ih'
        · refine q_tableIn C 784 dL_law_44 (by decide) (by decide) (by decide) rfl (by decide) ?_
          exact law_c11 C S hL hj I ih'
        · refine q_tableIn C 840 dL_law_44 (by decide) (by decide) (by decide) rfl (by decide) ?_
          exact law_c12 C S hL hj I ih'
        · refine q_tableIn C 896 dL_law_44 (by decide) (by decide) (by decide) rfl (by decide) ?_
          exact law_c13 C S hL hj I ih'
        · refine q_tableIn C 952 dL_law_44 (by decide) (by decide) (by decide) rfl (by decide) ?_
          exact law_c14 C S hL hj I ih'
        · refine q_tableIn C 1008 dL_law_44 (by decide) (by decide) (by decide) rfl (by decide) ?_
          exact law_c15 C S hL hj I ih'
        · refine q_tableIn C 1076 dL_law_44 (by decide) (by decide) (by decide) rfl (by decide) ?_
          exact law_c16 C S hL hj I ih'
        · refine q_tableIn C 1144 dL_law_44 (by decide) (by decide) (by decide) rfl (by decide) ?_
          exact law_c17 C S hL hj I ih'
        · refine q_tableIn C 1200 dL_law_44 (by decide) (by decide) (by decide) rfl (by decide) ?_
          exact law_c18 C S hL hj I ih'
        · refine q_tableIn C 1256 dL_law_44 (by decide) (by decide) (by decide) rfl (by decide) ?_
          exact law_c19 C S hL hj I ih'
        · refine q_tableIn C 1324 dL_law_44 (by decide) (by decide) (by decide) rfl (by decide) ?_
          exact law_c20 C S hL hj I ih'
        · refine q_tableIn C 1392 dL_law_44 (by decide) (by decide) (by decide) rfl (by decide) ?_
          exact law_c21 C S hL hj I ih'
        · refine q_tableIn C 1448 dL_law_44 (by decide) (by decide) (by decide) rfl (by decide) ?_
          exact law_c22 C S hL hj I ih'
        · refine q_tableIn C 1461 dL_law_44 (by decide) (by decide) (by decide) rfl (by decide) ?_
          exact law_c23 C S hL hj I ih'
        · refine q_tableIn C 1541 dL_law_44 (by decide) (by decide) (by decide) rfl (by decide) ?_
          exact law_c24 C S hL hj I ih'
        · refine q_tableIn C 1597 dL_law_44 (by decide) (by decide) (by decide) rfl (by decide) ?_
          exact law_c25 C S hL hj I ih'
        · refine q_tableIn C 1653 dL_law_44 (by decide) (by decide) (by decide) rfl (by decide) ?_
          exact law_c26 C S hL hj I ih'
        · refine q_tableIn C 1709 dL_law_44 (by decide) (by decide) (by decide) rfl (by decide) ?_
          exact law_c27 C S hL hj I ih'
        · refine q_tableIn C 1777 dL_law_44 (by decide) (by decide) (by decide) rfl (by decide) ?_
          exact law_c28 C S hL hj I ih'
        · refine q_tableIn C 1833 dL_law_44 (by decide) (by decide) (by decide) rfl (by decide) ?_
          exact law_c29 C S hL hj I ih'
        · refine q_tableIn C 1889 dL_law_44 (by decide) (by decide) (by decide) rfl (by decide) ?_
          exact law_c30 C S hL hj I ih'
        · refine q_tableIn C 1902 dL_law_44 (by decide) (by decide) (by decide) rfl (by decide) ?_
          exact law_c31 C S hL hj I ih'
        · refine q_tableIn C 1916 dL_law_44 (by decide) (by decide) (by decide) rfl (by decide) ?_
          exact law_c32 C S hL hj I ih'
      · refine q_tableOut C 1982 dL_law_44 hr (by omega) (by decide) ?_
        exact law_nx C hL hj ih' (by omega) ⟨rfl, rfl, rfl, rfl, rfl, rfl, trivial⟩ I
