/-! the law's start -/
theorem vk_of {own tx : String} {k : Nat} {A : Array Value} {s : State} (h : (Cond.stringRef own k tx).before A s = true) : ∃ a, vk_R own k tx a s := by
  cases hc : s.vm.findClass own with
  | none => simp [Cond.before, Cond.holds, Cond.value, hc] at h
  | some cur =>
    obtain ⟨-, -, -, a, -, -, -, -, -, hev⟩ := Cond.stringRef_spec hc h
    exact ⟨a, vk_R.of h hev⟩
theorem sr_in : ∀ q ∈ qSr, Cond.stringRef "Quaylock" q.1 q.2 ∈ lw_tbl := by
  have h : qSr.map (fun q => Cond.stringRef "Quaylock" q.1 q.2) = [445, 456, 457, 500, 537, 625, 679, 680, 685, 690, 708, 721, 726, 736, 741, 324, 394, 678, 703, 649, 252, 292, 331, 357, 368].filterMap (fun i => lw_tbl[i]?) := by decide +kernel
  intro q hq
  have h1 : Cond.stringRef "Quaylock" q.1 q.2 ∈ qSr.map (fun q => Cond.stringRef "Quaylock" q.1 q.2) := List.mem_map.mpr ⟨q, hq, rfl⟩
  rw [h] at h1
  obtain ⟨i, -, hi⟩ := List.mem_filterMap.mp h1
  exact List.mem_of_getElem? hi
theorem lU_in : Cond.laysStatic Bundle.tN "UNASSIGNED_STACK" Bundle.steD ∈ lw_tbl := List.mem_of_getElem? (i := 236) (by decide +kernel)
theorem lS_in : Cond.laysStatic Bundle.tN "SUPPRESSED_SENTINEL" Bundle.listD ∈ lw_tbl := List.mem_of_getElem? (i := 238) (by decide +kernel)
theorem iT_in : Cond.initialized Bundle.tN ∈ lw_tbl := List.mem_of_getElem? (i := 22) (by decide +kernel)
theorem gU_in : Cond.isRef (.static Bundle.tN "UNASSIGNED_STACK" Bundle.steD) ∈ flatC (Cond.and given_1 narrow_1) := by decide +kernel
theorem gS_in : Cond.isRef (.static Bundle.tN "SUPPRESSED_SENTINEL" Bundle.listD) ∈ flatC (Cond.and given_1 narrow_1) := by decide +kernel
theorem nc_in : ∀ E ∈ qX5, ∀ F ∈ qX5, E ≠ F → Cond.not (.castable E F) ∈ flatC (Cond.and given_1 narrow_1) := by decide +kernel
theorem cy_of {s : State} {A : Array Value} (hts : ∀ w ∈ qAW, w.before A s = true) : ∃ cy, cyOK cy s := by
  have key : ∀ ty : FieldType, Cond.arrayClass ty ∈ qAW → ∃ c, s.vm.findClass ("[" ++ ty.toString) = some c ∧ ArrOfT s c ty := by
    intro ty h
    obtain ⟨c, k, comp, h1, h2, h3⟩ := Cond.arrayClass_spec (hts _ h)
    exact ⟨c, h1, fun n z => ⟨fun k h => (by cases h), k, h2, comp, h3⟩⟩
  obtain ⟨c0, a0, b0⟩ := key .int wA_int
  obtain ⟨c1, a1, b1⟩ := key .char wA_char
  obtain ⟨c3, a3, b3⟩ := key .long wA_long
  refine ⟨fun t => match t with | 0 => c0 | 1 => c1 | _ => c3, fun t ht => ?_⟩
  rcases ht with rfl | rfl | rfl
  · exact ⟨a0, b0⟩
  · exact ⟨a1, b1⟩
  · exact ⟨a3, b3⟩
theorem D_of {s : State} {A : Array Value} (hts : ∀ w ∈ qAW, w.before A s = true) : ∃ D : va_G, va_K D vwCl [] s := by
  obtain ⟨c0, f0, k0⟩ := u_known (C := RX0) (T := TX0) (N := 4) (n := 4) hts in_X0 (hts _ in_st_X0)
  obtain ⟨c1, f1, k1⟩ := u_known (C := RX1) (T := TX1) (N := 5) (n := 5) hts in_X1 (hts _ in_st_X1)
  obtain ⟨c2, f2, k2⟩ := u_known (C := RX2) (T := TX2) (N := 2) (n := 2) hts in_X2 (hts _ in_st_X2)
  obtain ⟨c3, f3, k3⟩ := u_known (C := RX3) (T := TX3) (N := 4) (n := 4) hts in_X3 (hts _ in_st_X3)
  obtain ⟨c4, f4, k4⟩ := u_known (C := RX4) (T := TX4) (N := 7) (n := 7) hts in_X4 (hts _ in_st_X4)
  obtain ⟨c5, f5, k5⟩ := u_known (C := RX5) (T := TX5) (N := 7) (n := 7) hts in_X5 (hts _ in_st_X5)
  refine ⟨(fun k => match k with | 0 => c0 | 1 => c1 | 2 => c2 | 3 => c3 | 4 => c4 | _ => c5, fun k => match k with | 0 => f0 | 1 => f1 | 2 => f2 | 3 => f3 | 4 => f4 | _ => f5), fun k q hq => ?_, fun k q h => by simp at h⟩
  match k, hq with
  | 0, hq => cases hq; exact k0
  | 1, hq => cases hq; exact k1
  | 2, hq => cases hq; exact k2
  | 3, hq => cases hq; exact k3
  | 4, hq => cases hq; exact k4
  | 5, hq => cases hq; exact k5
  | k + 6, hq => simp at hq
/-- all numbers as they are at the start -/
def gZ : qHp := fun k _ => if k = 9 ∨ k = 14 then -1 else 0
theorem gZ_0 {k : Nat} {j : Int} (h : k ≠ 9) (h2 : k ≠ 14) : gZ k j = 0 := by
  unfold gZ
  rw [if_neg (by omega)]
set_option maxHeartbeats 8000000 in
theorem gZ_nm : qNm gZ := by
  intro k j
  have h : (k = 9 ∨ k = 14 → gZ k j = -1) ∧ (¬ (k = 9 ∨ k = 14) → gZ k j = 0) := by
    constructor
    · intro q
      unfold gZ
      rw [if_pos q]
    · intro q
      unfold gZ
      rw [if_neg q]
  generalize gZ k j = v at h ⊢
  unfold qRng
  split
  all_goals first
    | (dsimp only; omega)
    | (have e : v = 0 := h.2 (fun q => q.elim ‹k = 9 → False› ‹k = 14 → False›); subst e; decide)
    | (have e : v = 0 := h.2 (by decide); subst e; clear h; cases (j == 0) <;> cases (j == 1) <;> cases (j == 2) <;> cases (j == 4) <;> cases (j == 5) <;> cases (j == 6) <;> cases (j == 12) <;> cases (j == 13) <;> decide)
theorem tl_0 (p : Int → Int) : stOf (fun _ => (0 : Int)) p = fun _ => [] := by
  funext s
  unfold stOf
  by_cases q : 0 ≤ s ∧ s < 4
  · rw [if_pos q]
    rfl
  · rw [if_neg q]
theorem yOK_0 {r p so : Int → Int} (hr : ∀ s, r s ≤ 4) (hs : ∀ x, so x = -1) : yOK 0 r (fun _ => 0) p so := by
  refine ⟨by omega, fun s _ _ => ⟨Int.le_refl _, show (0 : Int) ≤ 4 by decide, hr s⟩, fun _ _ _ => rfl, fun s h1 h2 => by omega, ?_, ?_, fun x _ _ h => absurd (hs x) h⟩
  · rw [tl_0]
    exact ⟨fun _ => List.nodup_nil, fun s s' x h => absurd h List.not_mem_nil, fun s x h => absurd h List.not_mem_nil, fun s => by simp, fun s x h => absurd h List.not_mem_nil⟩
  · rw [tl_0]
    exact fun s x h => absurd h List.not_mem_nil
theorem stA_Z : stA gZ = fun _ => [] := tl_0 _
theorem cI_Z : cInv gZ := by
  refine ⟨yOK_0 (fun s => by rw [gZ_0 (by decide) (by decide)]; decide) (fun x => rfl), rfl, by decide, ⟨fun i h1 h2 => ?_, fun i j h1 h2 => ?_⟩⟩
  · have e : vA gZ 0 5 = 0 := rfl
    omega
  · have e : vA gZ 0 5 = 0 := rfl
    omega
theorem aI_Z : aI (vA gZ) (stA gZ) := by
  rw [stA_Z]
  refine ⟨fun u => trivial, fun x hx => ?_, fun x hx => ?_⟩
  · obtain ⟨s, hs⟩ := hx
    exact absurd hs List.not_mem_nil
  · have e : vA gZ 3 x = 45 := by
      show cGet (gZ 1 3) (gZ 3) 45 x = 45
      unfold cGet
      rw [gZ_0 (by decide) (by decide), if_neg (by omega)]
    exact absurd e hx
/-- the end of the law -/
theorem q_lawret {p : Program} {l : Launch} {e : Env} {s : State} {m : MethodId} {below : List Frame} {meth : Method} {c : Code} {b : Nat} {ω : qOm} {T : List ExceptionTableEntry} {nL k fr mc pc : Nat} {g : qHp} {ls : List (Nat × Value)} (C : qCx (p, l, e, room_1, s, m, #[Value.ref b], below, meth, c) ω RL cL_law nL (some .boolean) T fr mc) (hω : ω.2.2.2 = s.heap.size) (hk : k ≤ 35000) (hd : decode code pc = .ok (.ireturn, 1)) : qT (p, l, e, room_1, s, m, #[Value.ref b], below, meth, c) ω nL k (lw_Z below #[Value.ref b] s) g pc ls [.int (iI 1)] := by
  obtain ⟨hx, hb, hr, hml, hown, hts, hlk, -⟩ := C
  intro H locs la hw hS hl
  refine va_forget (fun q hq => by
    have h : ω.2.2.2 ≤ q.base := hS.2.2 q hq
    rw [hω] at h
    exact h) ?_
  refine W.widen (k := 683914) (n := 7049727) (by omega) (by omega) ?_
  rw [show iI 1 = (1 : Int32) by decide +kernel]
  exact lw_ret hx hb hr hlk hd
set_option maxHeartbeats 8000000 in
set_option maxRecDepth 100000 in
/-- THE LAW, from its entry -/
theorem whole_start {p : Program} {e : Env} {s : State} {m : MethodId} {below : List Frame} {meth : Method} {c : Code} (l : Launch) (hflags : l.flags = flags0) {b L : Nat} {xs : Nat → Int32} (hL : L ≤ 260) (C0 : lw_At p s m meth c b L xs) : W p l e room_1 s m #[Value.ref b] below meth c s.heap [] 0 0 (lw_Z below #[Value.ref b] s) (entryFrame m ([Value.ref b] : List Value).toArray 20) := by
  obtain ⟨hx, hb, hr, hml, hown0, hts0, hX, hbl, hlocks, hgv⟩ := C0
  have hown : s.vm.findClass RL = some m.cls := hown0
  have hts : ∀ w ∈ qAW, w.before #[Value.ref b] s = true := fun w h => hts0 w (List.mem_filter.mp h).1
  have hfl := flat_of_before _ hgv
  have hng : ∀ w ∈ qNg, va_Nw w s := fun w h => va_Nw.of (qNg_tabs h) (hts0 w (List.mem_filter.mp h).1)
  have htr : l.stackTraces = false := by
    unfold Launch.stackTraces
    rw [hflags]
    decide
  obtain ⟨cy, hcy⟩ := cy_of hts
  obtain ⟨D, hK0⟩ := D_of hts
  have hK := hcy.K hK0
  obtain ⟨A, eA⟩ : ∃ A : Nat → Prop, A = fun q => s.heap.size ≤ q := ⟨_, rfl⟩
  have hA : ∀ q : Nat, s.heap.size ≤ q → A q := fun q h => by rw [eA]; exact h
  have hbA : ¬ A b := by rw [eA]; exact Nat.not_le.mpr hbl
  have hS : va_S A s.heap s.heap [] := va_S.rf
  have hP : va_P D vwCl [] s.heap := fun k q h => by simp at h
  have hD : va_D A [] := ⟨fun i j p q h => by simp at h, fun k q h => by simp at h⟩
  have hl := lv_entry ([.ref b]) (n := 20) (Nat.le_of_ble_eq_true rfl)
  rw [lg_entry_eq]
  generalize (lg_sl ([.ref b]) ++ List.replicate (20 - (lg_sl ([.ref b])).length) Slot.unset).toArray = ls at hl ⊢
  have hl : lv_has ls 20 [(0, .ref b)] := hl
  refine va_new (ci := 5) (fs := [.null, .null, .null, .null, .int (iI 0), .int (iI 0), .long (lI 0)]) (C := RX5) (T := TX5) (N := 7) hx hb hts in_X5 tyX5 tyX5_ok hown (hts _ kl_L_10) (hts _ in_st_X5) (hts _ in_it_X5) hK hP hD hS hA rfl (fun j hj => by rcases (show j = 0 ∨ j = 1 ∨ j = 2 ∨ j = 3 ∨ j = 4 ∨ j = 5 ∨ j = 6 by omega) with rfl | rfl | rfl | rfl | rfl | rfl | rfl <;> first | rfl | (show Value.int 0 = Value.int (iI 0); rw [iI_0]) | (show Value.long 0 = Value.long (lI 0); rw [lI_0])) (Nat.le_of_ble_eq_true rfl) (Nat.le_of_ble_eq_true rfl) dL_law_0 (fun q0 H hP hD hS => ?_)
  have hP : va_P D vwCl [(q0, .inr (5, [.null, .null, .null, .null, .int (iI 0), .int (iI 0), .long (lI 0)]))] H := hP
  have hD : va_D A [(q0, .inr (5, [.null, .null, .null, .null, .int (iI 0), .int (iI 0), .long (lI 0)]))] := hD
  refine W.widen (k := 1) (n := 7) (Nat.le_of_ble_eq_true rfl) (Nat.le_of_ble_eq_true rfl) ?_
  refine lv_dup hx hb dL_law_3 rfl ?_
  refine c_callI (As := []) (rest := [.ref q0]) (wc := [(q0, .inr (5, [.null, .null, .null, .null, .int (iI 0), .int (iI 0), .long (lI 0)]))]) (wr := []) (nL := 20) ⟨hx, hb, hml, hown, hts⟩ (c_X5_init l D cy q0) (co_X5 l) cl_L_134 (Nat.le_of_ble_eq_true rfl) (Nat.le_of_ble_eq_true rfl) rfl rfl hl.1 (Nat.le_of_ble_eq_true rfl) dL_law_4 (Nat.le_of_ble_eq_true rfl) (Nat.le_of_ble_eq_true rfl) hK hcy hng hP hD hS hA [0] [] rfl rfl rfl rfl rfl (by decide) (by decide) (fun u H locs hP hD hS => ?_)
  obtain ⟨u4_0, eu4_0⟩ : ∃ z, z = u 0 := ⟨_, rfl⟩
  obtain ⟨u4_1, eu4_1⟩ : ∃ z, z = u 1 := ⟨_, rfl⟩
  obtain ⟨u4_2, eu4_2⟩ : ∃ z, z = u 2 := ⟨_, rfl⟩
  obtain ⟨u4_3, eu4_3⟩ : ∃ z, z = u 3 := ⟨_, rfl⟩
  obtain ⟨u4_4, eu4_4⟩ : ∃ z, z = u 4 := ⟨_, rfl⟩
  obtain ⟨u4_5, eu4_5⟩ : ∃ z, z = u 5 := ⟨_, rfl⟩
  obtain ⟨u4_6, eu4_6⟩ : ∃ z, z = u 6 := ⟨_, rfl⟩
  obtain ⟨u4_7, eu4_7⟩ : ∃ z, z = u 7 := ⟨_, rfl⟩
  obtain ⟨u4_8, eu4_8⟩ : ∃ z, z = u 8 := ⟨_, rfl⟩
  obtain ⟨u4_9, eu4_9⟩ : ∃ z, z = u 9 := ⟨_, rfl⟩
  obtain ⟨u4_10, eu4_10⟩ : ∃ z, z = u 10 := ⟨_, rfl⟩
  obtain ⟨u4_11, eu4_11⟩ : ∃ z, z = u 11 := ⟨_, rfl⟩
  obtain ⟨u4_12, eu4_12⟩ : ∃ z, z = u 12 := ⟨_, rfl⟩
  obtain ⟨u4_13, eu4_13⟩ : ∃ z, z = u 13 := ⟨_, rfl⟩
  obtain ⟨u4_14, eu4_14⟩ : ∃ z, z = u 14 := ⟨_, rfl⟩
  obtain ⟨u4_15, eu4_15⟩ : ∃ z, z = u 15 := ⟨_, rfl⟩
  obtain ⟨u4_16, eu4_16⟩ : ∃ z, z = u 16 := ⟨_, rfl⟩
  obtain ⟨u4_17, eu4_17⟩ : ∃ z, z = u 17 := ⟨_, rfl⟩
  obtain ⟨u4_18, eu4_18⟩ : ∃ z, z = u 18 := ⟨_, rfl⟩
  obtain ⟨u4_19, eu4_19⟩ : ∃ z, z = u 19 := ⟨_, rfl⟩
  obtain ⟨u4_20, eu4_20⟩ : ∃ z, z = u 20 := ⟨_, rfl⟩
  obtain ⟨u4_21, eu4_21⟩ : ∃ z, z = u 21 := ⟨_, rfl⟩
  simp only [← eu4_0, ← eu4_1, ← eu4_2, ← eu4_3, ← eu4_4, ← eu4_5, ← eu4_6, ← eu4_7, ← eu4_8, ← eu4_9, ← eu4_10, ← eu4_11, ← eu4_12, ← eu4_13, ← eu4_14, ← eu4_15, ← eu4_16, ← eu4_17, ← eu4_18, ← eu4_19, ← eu4_20, ← eu4_21] at hP hD
  have hP : va_P D vwCl [(q0, .inr (5, [.ref u4_0, .ref u4_4, .ref u4_9, .ref u4_17, .int (iI 0), .int (iI 0), .long (lI 0)])), (u4_0, .inr (0, [.ref u4_1, .ref u4_2, .ref u4_3, .int (iI 0)])), (u4_1, .inl (cy 0, qAr 0 20 zR)), (u4_2, .inl (cy 1, qAr 1 20 zR)), (u4_3, .inl (cy 0, qAr 0 20 zR)), (u4_4, .inr (4, [.ref u4_0, .ref u4_5, .ref u4_6, .ref u4_7, .ref u4_8, .int (iI 0), .int (iI 0)])), (u4_5, .inl (cy 0, qAr 0 4 zR)), (u4_6, .inl (cy 0, qAr 0 4 zR)), (u4_7, .inl (cy 0, qAr 0 16 zR)), (u4_8, .inl (cy 0, qAr 0 20 (fun _ => -1))), (u4_10, .inr (4, [.ref u4_0, .ref u4_11, .ref u4_12, .ref u4_13, .ref u4_14, .int (iI 0), .int (iI 0)])), (u4_11, .inl (cy 0, qAr 0 4 zR)), (u4_12, .inl (cy 0, qAr 0 4 zR)), (u4_13, .inl (cy 0, qAr 0 16 zR)), (u4_14, .inl (cy 0, qAr 0 20 (fun _ => -1))), (u4_9, .inr (3, [.ref u4_4, .ref u4_10, .ref u4_15, .long (lI 0)])), (u4_15, .inr (2, [.ref u4_16, .int (iI 0)])), (u4_16, .inl (cy 3, qAr 3 1024 zR)), (u4_17, .inr (1, [.ref u4_18, .ref u4_19, .ref u4_20, .ref u4_21, .int (iI 0)])), (u4_18, .inl (cy 0, qAr 0 30 zR)), (u4_19, .inl (cy 0, qAr 0 30 zR)), (u4_20, .inl (cy 0, qAr 0 30 zR)), (u4_21, .inl (cy 1, qAr 1 30 zR))] H := hP
  have hD : va_D A [(q0, .inr (5, [.ref u4_0, .ref u4_4, .ref u4_9, .ref u4_17, .int (iI 0), .int (iI 0), .long (lI 0)])), (u4_0, .inr (0, [.ref u4_1, .ref u4_2, .ref u4_3, .int (iI 0)])), (u4_1, .inl (cy 0, qAr 0 20 zR)), (u4_2, .inl (cy 1, qAr 1 20 zR)), (u4_3, .inl (cy 0, qAr 0 20 zR)), (u4_4, .inr (4, [.ref u4_0, .ref u4_5, .ref u4_6, .ref u4_7, .ref u4_8, .int (iI 0), .int (iI 0)])), (u4_5, .inl (cy 0, qAr 0 4 zR)), (u4_6, .inl (cy 0, qAr 0 4 zR)), (u4_7, .inl (cy 0, qAr 0 16 zR)), (u4_8, .inl (cy 0, qAr 0 20 (fun _ => -1))), (u4_10, .inr (4, [.ref u4_0, .ref u4_11, .ref u4_12, .ref u4_13, .ref u4_14, .int (iI 0), .int (iI 0)])), (u4_11, .inl (cy 0, qAr 0 4 zR)), (u4_12, .inl (cy 0, qAr 0 4 zR)), (u4_13, .inl (cy 0, qAr 0 16 zR)), (u4_14, .inl (cy 0, qAr 0 20 (fun _ => -1))), (u4_9, .inr (3, [.ref u4_4, .ref u4_10, .ref u4_15, .long (lI 0)])), (u4_15, .inr (2, [.ref u4_16, .int (iI 0)])), (u4_16, .inl (cy 3, qAr 3 1024 zR)), (u4_17, .inr (1, [.ref u4_18, .ref u4_19, .ref u4_20, .ref u4_21, .int (iI 0)])), (u4_18, .inl (cy 0, qAr 0 30 zR)), (u4_19, .inl (cy 0, qAr 0 30 zR)), (u4_20, .inl (cy 0, qAr 0 30 zR)), (u4_21, .inl (cy 1, qAr 1 30 zR))] := hD
  refine W.widen (k := 23) (n := 1328) (Nat.le_of_ble_eq_true rfl) (Nat.le_of_ble_eq_true rfl) ?_
  refine lv_astore_n (lv' := [(1, .ref q0), (0, .ref b)]) hx hb dL_law_7 rfl hl (by decide) rfl (fun ls hl => ?_)
  refine lv_iconst (v := iI 2) hx hb dL_law_8 (by decide +kernel) ?_
  refine lv_aload_n hx hb dL_law_9 rfl (lv_at hl 1 rfl) ?_
  refine lv_iconst (v := iI 0) hx hb dL_law_10 (by decide +kernel) ?_
  refine c_cell (cc := cL_law) ⟨hx, hb, hml, hown, hts⟩ (by decide) (by omega) hX hbl hbA (Nat.le_of_ble_eq_true rfl) (Nat.le_of_ble_eq_true rfl) hl.1 (Nat.le_of_ble_eq_true rfl) dL_law_11 (Nat.le_of_ble_eq_true rfl) (Nat.le_of_ble_eq_true rfl) hS (fun z11 H locs hzr hsz hkp hS => ?_)
  have hP := va_P.kept hP (fun k x hx => hkp x.1 ((hP k x hx).lt))
  have hP : va_P D vwCl [(q0, .inr (5, [.ref u4_0, .ref u4_4, .ref u4_9, .ref u4_17, .int (iI 0), .int (iI 0), .long (lI 0)])), (u4_0, .inr (0, [.ref u4_1, .ref u4_2, .ref u4_3, .int (iI 0)])), (u4_1, .inl (cy 0, qAr 0 20 zR)), (u4_2, .inl (cy 1, qAr 1 20 zR)), (u4_3, .inl (cy 0, qAr 0 20 zR)), (u4_4, .inr (4, [.ref u4_0, .ref u4_5, .ref u4_6, .ref u4_7, .ref u4_8, .int (iI 0), .int (iI 0)])), (u4_5, .inl (cy 0, qAr 0 4 zR)), (u4_6, .inl (cy 0, qAr 0 4 zR)), (u4_7, .inl (cy 0, qAr 0 16 zR)), (u4_8, .inl (cy 0, qAr 0 20 (fun _ => -1))), (u4_10, .inr (4, [.ref u4_0, .ref u4_11, .ref u4_12, .ref u4_13, .ref u4_14, .int (iI 0), .int (iI 0)])), (u4_11, .inl (cy 0, qAr 0 4 zR)), (u4_12, .inl (cy 0, qAr 0 4 zR)), (u4_13, .inl (cy 0, qAr 0 16 zR)), (u4_14, .inl (cy 0, qAr 0 20 (fun _ => -1))), (u4_9, .inr (3, [.ref u4_4, .ref u4_10, .ref u4_15, .long (lI 0)])), (u4_15, .inr (2, [.ref u4_16, .int (iI 0)])), (u4_16, .inl (cy 3, qAr 3 1024 zR)), (u4_17, .inr (1, [.ref u4_18, .ref u4_19, .ref u4_20, .ref u4_21, .int (iI 0)])), (u4_18, .inl (cy 0, qAr 0 30 zR)), (u4_19, .inl (cy 0, qAr 0 30 zR)), (u4_20, .inl (cy 0, qAr 0 30 zR)), (u4_21, .inl (cy 1, qAr 1 30 zR))] H := hP
  have hD : va_D A [(q0, .inr (5, [.ref u4_0, .ref u4_4, .ref u4_9, .ref u4_17, .int (iI 0), .int (iI 0), .long (lI 0)])), (u4_0, .inr (0, [.ref u4_1, .ref u4_2, .ref u4_3, .int (iI 0)])), (u4_1, .inl (cy 0, qAr 0 20 zR)), (u4_2, .inl (cy 1, qAr 1 20 zR)), (u4_3, .inl (cy 0, qAr 0 20 zR)), (u4_4, .inr (4, [.ref u4_0, .ref u4_5, .ref u4_6, .ref u4_7, .ref u4_8, .int (iI 0), .int (iI 0)])), (u4_5, .inl (cy 0, qAr 0 4 zR)), (u4_6, .inl (cy 0, qAr 0 4 zR)), (u4_7, .inl (cy 0, qAr 0 16 zR)), (u4_8, .inl (cy 0, qAr 0 20 (fun _ => -1))), (u4_10, .inr (4, [.ref u4_0, .ref u4_11, .ref u4_12, .ref u4_13, .ref u4_14, .int (iI 0), .int (iI 0)])), (u4_11, .inl (cy 0, qAr 0 4 zR)), (u4_12, .inl (cy 0, qAr 0 4 zR)), (u4_13, .inl (cy 0, qAr 0 16 zR)), (u4_14, .inl (cy 0, qAr 0 20 (fun _ => -1))), (u4_9, .inr (3, [.ref u4_4, .ref u4_10, .ref u4_15, .long (lI 0)])), (u4_15, .inr (2, [.ref u4_16, .int (iI 0)])), (u4_16, .inl (cy 3, qAr 3 1024 zR)), (u4_17, .inr (1, [.ref u4_18, .ref u4_19, .ref u4_20, .ref u4_21, .int (iI 0)])), (u4_18, .inl (cy 0, qAr 0 30 zR)), (u4_19, .inl (cy 0, qAr 0 30 zR)), (u4_20, .inl (cy 0, qAr 0 30 zR)), (u4_21, .inl (cy 1, qAr 1 30 zR))] := hD
  refine lv_iconst (v := iI 3) hx hb dL_law_14 (by decide +kernel) ?_
  refine c_low (cc := cL_law) ⟨hx, hb, hml, hown, hts⟩ (by decide) (Nat.le_of_ble_eq_true rfl) (Nat.le_of_ble_eq_true rfl) hl.1 (Nat.le_of_ble_eq_true rfl) dL_law_15 (Nat.le_of_ble_eq_true rfl) (Nat.le_of_ble_eq_true rfl) hS (fun H locs hsz hkp hS => ?_)
  have hP := va_P.kept hP (fun k x hx => hkp x.1 ((hP k x hx).lt))
  have hP : va_P D vwCl [(q0, .inr (5, [.ref u4_0, .ref u4_4, .ref u4_9, .ref u4_17, .int (iI 0), .int (iI 0), .long (lI 0)])), (u4_0, .inr (0, [.ref u4_1, .ref u4_2, .ref u4_3, .int (iI 0)])), (u4_1, .inl (cy 0, qAr 0 20 zR)), (u4_2, .inl (cy 1, qAr 1 20 zR)), (u4_3, .inl (cy 0, qAr 0 20 zR)), (u4_4, .inr (4, [.ref u4_0, .ref u4_5, .ref u4_6, .ref u4_7, .ref u4_8, .int (iI 0), .int (iI 0)])), (u4_5, .inl (cy 0, qAr 0 4 zR)), (u4_6, .inl (cy 0, qAr 0 4 zR)), (u4_7, .inl (cy 0, qAr 0 16 zR)), (u4_8, .inl (cy 0, qAr 0 20 (fun _ => -1))), (u4_10, .inr (4, [.ref u4_0, .ref u4_11, .ref u4_12, .ref u4_13, .ref u4_14, .int (iI 0), .int (iI 0)])), (u4_11, .inl (cy 0, qAr 0 4 zR)), (u4_12, .inl (cy 0, qAr 0 4 zR)), (u4_13, .inl (cy 0, qAr 0 16 zR)), (u4_14, .inl (cy 0, qAr 0 20 (fun _ => -1))), (u4_9, .inr (3, [.ref u4_4, .ref u4_10, .ref u4_15, .long (lI 0)])), (u4_15, .inr (2, [.ref u4_16, .int (iI 0)])), (u4_16, .inl (cy 3, qAr 3 1024 zR)), (u4_17, .inr (1, [.ref u4_18, .ref u4_19, .ref u4_20, .ref u4_21, .int (iI 0)])), (u4_18, .inl (cy 0, qAr 0 30 zR)), (u4_19, .inl (cy 0, qAr 0 30 zR)), (u4_20, .inl (cy 0, qAr 0 30 zR)), (u4_21, .inl (cy 1, qAr 1 30 zR))] H := hP
  have hD : va_D A [(q0, .inr (5, [.ref u4_0, .ref u4_4, .ref u4_9, .ref u4_17, .int (iI 0), .int (iI 0), .long (lI 0)])), (u4_0, .inr (0, [.ref u4_1, .ref u4_2, .ref u4_3, .int (iI 0)])), (u4_1, .inl (cy 0, qAr 0 20 zR)), (u4_2, .inl (cy 1, qAr 1 20 zR)), (u4_3, .inl (cy 0, qAr 0 20 zR)), (u4_4, .inr (4, [.ref u4_0, .ref u4_5, .ref u4_6, .ref u4_7, .ref u4_8, .int (iI 0), .int (iI 0)])), (u4_5, .inl (cy 0, qAr 0 4 zR)), (u4_6, .inl (cy 0, qAr 0 4 zR)), (u4_7, .inl (cy 0, qAr 0 16 zR)), (u4_8, .inl (cy 0, qAr 0 20 (fun _ => -1))), (u4_10, .inr (4, [.ref u4_0, .ref u4_11, .ref u4_12, .ref u4_13, .ref u4_14, .int (iI 0), .int (iI 0)])), (u4_11, .inl (cy 0, qAr 0 4 zR)), (u4_12, .inl (cy 0, qAr 0 4 zR)), (u4_13, .inl (cy 0, qAr 0 16 zR)), (u4_14, .inl (cy 0, qAr 0 20 (fun _ => -1))), (u4_9, .inr (3, [.ref u4_4, .ref u4_10, .ref u4_15, .long (lI 0)])), (u4_15, .inr (2, [.ref u4_16, .int (iI 0)])), (u4_16, .inl (cy 3, qAr 3 1024 zR)), (u4_17, .inr (1, [.ref u4_18, .ref u4_19, .ref u4_20, .ref u4_21, .int (iI 0)])), (u4_18, .inl (cy 0, qAr 0 30 zR)), (u4_19, .inl (cy 0, qAr 0 30 zR)), (u4_20, .inl (cy 0, qAr 0 30 zR)), (u4_21, .inl (cy 1, qAr 1 30 zR))] := hD
  refine lv_iadd hx hb dL_law_18 ?_
  rw [iI_add]
  refine lv_istore_n (lv' := [(2, .int (iI (2 + lowI z11 3))), (1, .ref q0), (0, .ref b)]) hx hb dL_law_19 rfl hl (by decide) rfl (fun ls hl => ?_)
  refine lv_iconst (v := 4) hx hb dL_law_20 (by decide) ?_
  refine c_newa (t := 0) (N' := 4) hx hb (by decide) rfl (hts _ wA_int) hcy hP hD hS hA (by decide) (by decide) (Nat.le_of_ble_eq_true rfl) (Nat.le_of_ble_eq_true rfl) (Nat.le_of_ble_eq_true rfl) dL_law_21 (fun q21 H hP hD hS => ?_)
  have hP : va_P D vwCl [(q0, .inr (5, [.ref u4_0, .ref u4_4, .ref u4_9, .ref u4_17, .int (iI 0), .int (iI 0), .long (lI 0)])), (u4_0, .inr (0, [.ref u4_1, .ref u4_2, .ref u4_3, .int (iI 0)])), (u4_1, .inl (cy 0, qAr 0 20 zR)), (u4_2, .inl (cy 1, qAr 1 20 zR)), (u4_3, .inl (cy 0, qAr 0 20 zR)), (u4_4, .inr (4, [.ref u4_0, .ref u4_5, .ref u4_6, .ref u4_7, .ref u4_8, .int (iI 0), .int (iI 0)])), (u4_5, .inl (cy 0, qAr 0 4 zR)), (u4_6, .inl (cy 0, qAr 0 4 zR)), (u4_7, .inl (cy 0, qAr 0 16 zR)), (u4_8, .inl (cy 0, qAr 0 20 (fun _ => -1))), (u4_10, .inr (4, [.ref u4_0, .ref u4_11, .ref u4_12, .ref u4_13, .ref u4_14, .int (iI 0), .int (iI 0)])), (u4_11, .inl (cy 0, qAr 0 4 zR)), (u4_12, .inl (cy 0, qAr 0 4 zR)), (u4_13, .inl (cy 0, qAr 0 16 zR)), (u4_14, .inl (cy 0, qAr 0 20 (fun _ => -1))), (u4_9, .inr (3, [.ref u4_4, .ref u4_10, .ref u4_15, .long (lI 0)])), (u4_15, .inr (2, [.ref u4_16, .int (iI 0)])), (u4_16, .inl (cy 3, qAr 3 1024 zR)), (u4_17, .inr (1, [.ref u4_18, .ref u4_19, .ref u4_20, .ref u4_21, .int (iI 0)])), (u4_18, .inl (cy 0, qAr 0 30 zR)), (u4_19, .inl (cy 0, qAr 0 30 zR)), (u4_20, .inl (cy 0, qAr 0 30 zR)), (u4_21, .inl (cy 1, qAr 1 30 zR)), (q21, .inl (cy 0, qAr 0 4 zR))] H := hP
  have hD : va_D A [(q0, .inr (5, [.ref u4_0, .ref u4_4, .ref u4_9, .ref u4_17, .int (iI 0), .int (iI 0), .long (lI 0)])), (u4_0, .inr (0, [.ref u4_1, .ref u4_2, .ref u4_3, .int (iI 0)])), (u4_1, .inl (cy 0, qAr 0 20 zR)), (u4_2, .inl (cy 1, qAr 1 20 zR)), (u4_3, .inl (cy 0, qAr 0 20 zR)), (u4_4, .inr (4, [.ref u4_0, .ref u4_5, .ref u4_6, .ref u4_7, .ref u4_8, .int (iI 0), .int (iI 0)])), (u4_5, .inl (cy 0, qAr 0 4 zR)), (u4_6, .inl (cy 0, qAr 0 4 zR)), (u4_7, .inl (cy 0, qAr 0 16 zR)), (u4_8, .inl (cy 0, qAr 0 20 (fun _ => -1))), (u4_10, .inr (4, [.ref u4_0, .ref u4_11, .ref u4_12, .ref u4_13, .ref u4_14, .int (iI 0), .int (iI 0)])), (u4_11, .inl (cy 0, qAr 0 4 zR)), (u4_12, .inl (cy 0, qAr 0 4 zR)), (u4_13, .inl (cy 0, qAr 0 16 zR)), (u4_14, .inl (cy 0, qAr 0 20 (fun _ => -1))), (u4_9, .inr (3, [.ref u4_4, .ref u4_10, .ref u4_15, .long (lI 0)])), (u4_15, .inr (2, [.ref u4_16, .int (iI 0)])), (u4_16, .inl (cy 3, qAr 3 1024 zR)), (u4_17, .inr (1, [.ref u4_18, .ref u4_19, .ref u4_20, .ref u4_21, .int (iI 0)])), (u4_18, .inl (cy 0, qAr 0 30 zR)), (u4_19, .inl (cy 0, qAr 0 30 zR)), (u4_20, .inl (cy 0, qAr 0 30 zR)), (u4_21, .inl (cy 1, qAr 1 30 zR)), (q21, .inl (cy 0, qAr 0 4 zR))] := hD
  refine W.widen (k := 24) (n := 1332) (Nat.le_of_ble_eq_true rfl) (Nat.le_of_ble_eq_true rfl) ?_
  refine lv_astore_n (lv' := [(3, .ref q21), (2, .int (iI (2 + lowI z11 3))), (1, .ref q0), (0, .ref b)]) hx hb dL_law_23 rfl hl (by decide) rfl (fun ls hl => ?_)
  refine lv_iconst (v := iI 0) hx hb dL_law_24 (by decide +kernel) ?_
  refine lv_istore (lv' := [(4, .int (iI 0)), (3, .ref q21), (2, .int (iI (2 + lowI z11 3))), (1, .ref q0), (0, .ref b)]) hx hb dL_law_25 hl (by decide) rfl (fun ls hl => ?_)
  refine lv_iconst (v := iI 0) hx hb dL_law_27 (by decide +kernel) ?_
  refine lv_istore (lv' := [(5, .int (iI 0)), (4, .int (iI 0)), (3, .ref q21), (2, .int (iI (2 + lowI z11 3))), (1, .ref q0), (0, .ref b)]) hx hb dL_law_28 hl (by decide) rfl (fun ls hl => ?_)
  refine lv_iconst (v := iI 0) hx hb dL_law_30 (by decide +kernel) ?_
  refine lv_istore (lv' := [(6, .int (iI 0)), (5, .int (iI 0)), (4, .int (iI 0)), (3, .ref q21), (2, .int (iI (2 + lowI z11 3))), (1, .ref q0), (0, .ref b)]) hx hb dL_law_31 hl (by decide) rfl (fun ls hl => ?_)
  obtain ⟨ad, ead⟩ : ∃ ad : Nat → Nat, ad = (fun k => ([q0, u4_0, u4_1, u4_2, u4_3, u4_4, u4_5, u4_6, u4_7, u4_8, u4_10, u4_11, u4_12, u4_13, u4_14, u4_9, u4_15, u4_16, u4_17, u4_18, u4_19, u4_20, u4_21, q21] : List Nat).getD k 0) := ⟨_, rfl⟩
  have hP9 : va_P D vwCl (qWs ad cy gZ) H := by
    rw [ead]
    exact hP.sub [0, 1, 2, 3, 4, 5, 6, 7, 8, 9, 10, 11, 12, 13, 14, 15, 16, 17, 18, 19, 20, 21, 22, 23] rfl
  have hD9 : va_D A (qWs ad cy gZ) := by
    rw [ead]
    exact hD.sub [0, 1, 2, 3, 4, 5, 6, 7, 8, 9, 10, 11, 12, 13, 14, 15, 16, 17, 18, 19, 20, 21, 22, 23] (by decide) rfl
  have hl9 : lv_has ls 20 [(0, .ref b), (1, .ref (ad 0)), (2, .int (iI (2 + lowI z11 3))), (3, .ref (ad 23)), (4, .int (iI 0)), (5, .int (iI 0)), (6, .int (iI 0))] := by
    rw [ead]
    exact lv_sub hl [6, 5, 4, 3, 2, 1, 0] rfl
  clear hP hD hl
  subst eA
  have C : qCx (p, l, e, room_1, s, m, #[Value.ref b], below, meth, c) (ad, cy, D, s.heap.size) RL cL_law 20 (some .boolean) c.exceptionTable.toList 22 35000 := ⟨hx, hb, hr, hml, hown, hts, hlocks, rfl, htr, ⟨hK, vx_Zqof (hts0 _ lU_in) (hts0 _ iT_in) (hfl _ gU_in) (fun a h => Nat.not_le.mpr h), vx_Zqof (hts0 _ lS_in) (hts0 _ iT_in) (hfl _ gS_in) (fun a h => Nat.not_le.mpr h), fun q hq => vk_of (hts0 _ (sr_in q hq)), hng, fun E hE F hF hn => va_Nc.of (hfl _ (nc_in E hE F hF hn)), Nat.le_refl _⟩, (Nat.le_of_ble_eq_true rfl), (Nat.le_of_ble_eq_true rfl), (Nat.le_of_ble_eq_true rfl), (Nat.le_of_ble_eq_true rfl)⟩
  have hr3 := low_rng z11 (n := 3) (by decide)
  refine W.widen (k := 400 + 2 * (0 : Int).toNat) (n := 6 * (400 + 2 * (0 : Int).toNat)) (Nat.le_of_ble_eq_true rfl) (Nat.le_of_ble_eq_true rfl) ?_
  exact law_33 C (L := L) (xs := xs) ⟨hX, hbl, hbl⟩ hL (by omega) (fun g2 ls2 k2 h2 => q_lawret C rfl h2 dL_law_1138) 5 0 gZ (vA gZ) (stA gZ) (gZ 23) (by omega) (by omega) ⟨cI_Z, rfl, rfl, rfl⟩ aI_Z rfl rfl rfl rfl (fun s a b => by omega) H _ ls ⟨hP9, hD9, gZ_nm⟩ hS hl9
