/-! the law's start -/
theorem vk_of {own tx : String} {k : Nat} {A : Array Value} {s : State} (h : (Cond.stringRef own k tx).before A s = true) : ∃ a, vk_R own k tx a s := by
  cases hc : s.vm.findClass own with
  | none => simp [Cond.before, Cond.holds, Cond.value, hc] at h
  | some cur =>
    obtain ⟨-, -, -, a, -, -, -, -, -, hev⟩ := Cond.stringRef_spec hc h
    exact ⟨a, vk_R.of h hev⟩
theorem sr_in : ∀ q ∈ qSr, Cond.stringRef "Quaylock" q.1 q.2 ∈ lw_tbl := by
  have h : qSr.map (fun q => Cond.stringRef "Quaylock" q.1 q.2) = [489, 503, 504, 550, 602, 693, 762, 763, 768, 773, 794, 813, 821, 834, 842, 863, 349, 422, 761, 789, 723, 272, 312, 356, 382, 393].filterMap (fun i => lw_tbl[i]?) := by decide +kernel
  intro q hq
  have h1 : Cond.stringRef "Quaylock" q.1 q.2 ∈ qSr.map (fun q => Cond.stringRef "Quaylock" q.1 q.2) := List.mem_map.mpr ⟨q, hq, rfl⟩
  rw [h] at h1
  obtain ⟨i, -, hi⟩ := List.mem_filterMap.mp h1
  exact List.mem_of_getElem? hi
theorem lU_in : Cond.laysStatic Bundle.tN "UNASSIGNED_STACK" Bundle.steD ∈ lw_tbl := List.mem_of_getElem? (i := 256) (by decide +kernel)
theorem lS_in : Cond.laysStatic Bundle.tN "SUPPRESSED_SENTINEL" Bundle.listD ∈ lw_tbl := List.mem_of_getElem? (i := 258) (by decide +kernel)
theorem iT_in : Cond.initialized Bundle.tN ∈ lw_tbl := List.mem_of_getElem? (i := 49) (by decide +kernel)
theorem gU_in : Cond.isRef (.static Bundle.tN "UNASSIGNED_STACK" Bundle.steD) ∈ flatC (Cond.and given_1 narrow_1) := by decide +kernel
theorem gS_in : Cond.isRef (.static Bundle.tN "SUPPRESSED_SENTINEL" Bundle.listD) ∈ flatC (Cond.and given_1 narrow_1) := by decide +kernel
theorem nc_in : ∀ E ∈ qX5, ∀ F ∈ qX5, E ≠ F → Cond.not (.castable E F) ∈ flatC (Cond.and given_1 narrow_1) := by decide +kernel
theorem cy_of {s : State} {A : Array Value} (hts : ∀ w ∈ qAW, w.before A s = true) : ∃ cy, cyOK cy s := by
  have key : ∀ ty : FieldType, Cond.arrayClass ty ∈ qAW → ∃ c, s.vm.findClass ("[" ++ ty.toString) = some c ∧ ArrOfT s c ty := by
    intro ty h
    obtain ⟨c, k, comp, h1, h2, h3⟩ := Cond.arrayClass_spec (hts _ h)
    exact ⟨c, h1, fun n z => ⟨fun k h => (by cases h), k, h2, comp, h3⟩⟩
  obtain ⟨c0, a0, b0⟩ := key .int wA_int
  obtain ⟨c1, a1, b1⟩ := key .char wA_char
  obtain ⟨c2, a2, b2⟩ := key .boolean wA_boolean
  obtain ⟨c3, a3, b3⟩ := key .long wA_long
  obtain ⟨c4, a4, b4⟩ := key .double wA_double
  refine ⟨fun t => match t with | 0 => c0 | 1 => c1 | 2 => c2 | 3 => c3 | _ => c4, fun t ht => ?_⟩
  match t, ht with
  | 0, _ => exact ⟨a0, b0⟩
  | 1, _ => exact ⟨a1, b1⟩
  | 2, _ => exact ⟨a2, b2⟩
  | 3, _ => exact ⟨a3, b3⟩
  | 4, _ => exact ⟨a4, b4⟩
  | t + 5, h => omega
theorem D_of {s : State} {A : Array Value} (hts : ∀ w ∈ qAW, w.before A s = true) : ∃ D : va_G, va_K D vwCl [] s := by
  obtain ⟨c0, f0, k0⟩ := u_known (C := RX0) (T := TX0) (N := 4) (n := 4) hts in_X0 (hts _ in_st_X0)
  obtain ⟨c1, f1, k1⟩ := u_known (C := RX1) (T := TX1) (N := 5) (n := 5) hts in_X1 (hts _ in_st_X1)
  obtain ⟨c2, f2, k2⟩ := u_known (C := RX2) (T := TX2) (N := 2) (n := 2) hts in_X2 (hts _ in_st_X2)
  obtain ⟨c3, f3, k3⟩ := u_known (C := RX3) (T := TX3) (N := 4) (n := 4) hts in_X3 (hts _ in_st_X3)
  obtain ⟨c4, f4, k4⟩ := u_known (C := RX4) (T := TX4) (N := 7) (n := 7) hts in_X4 (hts _ in_st_X4)
  obtain ⟨c5, f5, k5⟩ := u_known (C := RX5) (T := TX5) (N := 7) (n := 7) hts in_X5 (hts _ in_st_X5)
  obtain ⟨c6, f6, k6⟩ := u_known (C := RX6) (T := TX6) (N := 19) (n := 19) hts in_X6 (hts _ in_st_X6)
  refine ⟨(fun k => match k with | 0 => c0 | 1 => c1 | 2 => c2 | 3 => c3 | 4 => c4 | 5 => c5 | _ => c6, fun k => match k with | 0 => f0 | 1 => f1 | 2 => f2 | 3 => f3 | 4 => f4 | 5 => f5 | _ => f6), fun k q hq => ?_, fun k q h => by simp at h⟩
  match k, hq with
  | 0, hq => cases hq; exact k0
  | 1, hq => cases hq; exact k1
  | 2, hq => cases hq; exact k2
  | 3, hq => cases hq; exact k3
  | 4, hq => cases hq; exact k4
  | 5, hq => cases hq; exact k5
  | 6, hq => cases hq; exact k6
  | k + 7, hq => simp at hq
/-- all numbers as they are at the start -/
def gZ : qHp := fun k _ => if k = 9 ∨ k = 14 then -1 else 0
theorem gZ_0 {k : Nat} {j : Int} (h : k ≠ 9) (h2 : k ≠ 14) : gZ k j = 0 := by
  unfold gZ
  rw [if_neg (by omega)]
set_option maxHeartbeats 8000000 in
theorem gZ_nm : qNm gZ := by
  intro k j
  have h : (k = 9 ∨ k = 14 → gZ k j = -1) ∧ (¬ (k = 9 ∨ k = 14) → gZ k j = 0) := by
    constructor
    · intro q
      unfold gZ
      rw [if_pos q]
    · intro q
      unfold gZ
      rw [if_neg q]
  generalize gZ k j = v at h ⊢
  unfold qRng
  split
  all_goals first
    | (dsimp only; omega)
    | (have e : v = 0 := h.2 (fun q => q.elim ‹k = 9 → False› ‹k = 14 → False›); subst e; decide)
    | (have e : v = 0 := h.2 (by decide); subst e; clear h; cases (j == 0) <;> cases (j == 1) <;> cases (j == 2) <;> cases (j == 4) <;> cases (j == 5) <;> cases (j == 6) <;> cases (j == 12) <;> cases (j == 13) <;> decide)
theorem tl_0 (p : Int → Int) : stOf (fun _ => (0 : Int)) p = fun _ => [] := by
  funext s
  unfold stOf
  by_cases q : 0 ≤ s ∧ s < 4
  · rw [if_pos q]
    rfl
  · rw [if_neg q]
theorem yOK_0 {r p so : Int → Int} (hr : ∀ s, r s ≤ 4) (hs : ∀ x, so x = -1) : yOK 0 r (fun _ => 0) p so := by
  refine ⟨by omega, fun s _ _ => ⟨Int.le_refl _, show (0 : Int) ≤ 4 by decide, hr s⟩, fun _ _ _ => rfl, fun s h1 h2 => by omega, ?_, ?_, fun x _ _ h => absurd (hs x) h⟩
  · rw [tl_0]
    exact ⟨fun _ => List.nodup_nil, fun s s' x h => absurd h List.not_mem_nil, fun s x h => absurd h List.not_mem_nil, fun s => by simp, fun s x h => absurd h List.not_mem_nil⟩
  · rw [tl_0]
    exact fun s x h => absurd h List.not_mem_nil
theorem stA_Z : stA gZ = fun _ => [] := tl_0 _
theorem stM_Z : stM gZ 0 = fun _ => [] := tl_0 _
theorem vAB_Z : vA gZ = vB gZ := by
  rw [vA_V]
  rfl
theorem LI_Z : LI gZ := by
  refine ⟨⟨yOK_0 (fun s => by rw [gZ_0 (by decide) (by decide)]; decide) (fun x => rfl), rfl, by decide, ⟨fun i h1 h2 => ?_, fun i j h1 h2 => ?_⟩⟩, ⟨?_, ?_⟩, vAB_Z, ?_⟩
  · have e : vA gZ 0 5 = 0 := rfl
    omega
  · have e : vA gZ 0 5 = 0 := rfl
    omega
  · refine yOK_0 (fun s => by rw [gZ_0 (by decide) (by decide)]; decide) (fun x => ?_)
    rw [stM_Z]
    rfl
  · intro x
    constructor
    · rintro ⟨s, hs⟩
      have hs : x ∈ stM gZ 0 s := hs
      rw [stM_Z] at hs
      exact absurd hs List.not_mem_nil
    · rintro ⟨h1, h2, -⟩
      have e : gZ 23 4 = 0 := rfl
      omega
  · rw [stA_Z]
    exact stM_Z.symm
set_option maxHeartbeats 8000000 in
set_option maxRecDepth 100000 in
/-- THE LAW, from its entry -/
theorem whole_start {p : Program} {e : Env} {s : State} {m : MethodId} {below : List Frame} {meth : Method} {c : Code} (l : Launch) (hflags : l.flags = flags0) {b L : Nat} {xs : Nat → Int32} (hL : L ≤ 2048) (C0 : lw_At p s m meth c b L xs) : W p l e room_1 s m #[Value.ref b] below meth c s.heap [] 0 0 (lw_Z below #[Value.ref b] s) (entryFrame m ([Value.ref b] : List Value).toArray 8) := by
  obtain ⟨hx, hb, hr, hml, hown0, hts0, hX, hbl, hlocks, hgv⟩ := C0
  have hown : s.vm.findClass RL = some m.cls := hown0
  have hts : ∀ w ∈ qAW, w.before #[Value.ref b] s = true := fun w h => hts0 w (List.mem_filter.mp h).1
  have hfl := flat_of_before _ hgv
  have hng : ∀ w ∈ qNg, va_Nw w s := fun w h => va_Nw.of (qNg_tabs h) (hts0 w (List.mem_filter.mp h).1)
  have htr : l.stackTraces = false := by
    unfold Launch.stackTraces
    rw [hflags]
    decide
  obtain ⟨cy, hcy⟩ := cy_of hts
  obtain ⟨D, hK0⟩ := D_of hts
  have hK := hcy.K hK0
  obtain ⟨A, eA⟩ : ∃ A : Nat → Prop, A = fun q => s.heap.size ≤ q := ⟨_, rfl⟩
  have hA : ∀ q : Nat, s.heap.size ≤ q → A q := fun q h => by rw [eA]; exact h
  have hS : va_S A s.heap s.heap [] := va_S.rf
  have hP : va_P D vwCl [] s.heap := fun k q h => by simp at h
  have hD : va_D A [] := ⟨fun i j p q h => by simp at h, fun k q h => by simp at h⟩
  have hl := lv_entry ([.ref b]) (n := 8) (Nat.le_of_ble_eq_true rfl)
  rw [lg_entry_eq]
  generalize (lg_sl ([.ref b]) ++ List.replicate (8 - (lg_sl ([.ref b])).length) Slot.unset).toArray = ls at hl ⊢
  have hl : lv_has ls 8 [(0, .ref b)] := hl
  refine va_new (ci := 5) (fs := [.null, .null, .null, .null, .int (iI 0), .int (iI 0), .long (lI 0)]) (C := RX5) (T := TX5) (N := 7) hx hb hts in_X5 tyX5 tyX5_ok hown (hts _ kl_L_8) (hts _ in_st_X5) (hts _ in_it_X5) hK hP hD hS hA rfl (fun j hj => by rcases (show j = 0 ∨ j = 1 ∨ j = 2 ∨ j = 3 ∨ j = 4 ∨ j = 5 ∨ j = 6 by omega) with rfl | rfl | rfl | rfl | rfl | rfl | rfl <;> first | rfl | (show Value.int 0 = Value.int (iI 0); rw [iI_0]) | (show Value.long 0 = Value.long (lI 0); rw [lI_0])) (Nat.le_of_ble_eq_true rfl) (Nat.le_of_ble_eq_true rfl) dL_law_0 (fun q0 H hP hD hS => ?_)
  have hP : va_P D vwCl [(q0, .inr (5, [.null, .null, .null, .null, .int (iI 0), .int (iI 0), .long (lI 0)]))] H := hP
  have hD : va_D A [(q0, .inr (5, [.null, .null, .null, .null, .int (iI 0), .int (iI 0), .long (lI 0)]))] := hD
  refine W.widen (k := 1) (n := 7) (Nat.le_of_ble_eq_true rfl) (Nat.le_of_ble_eq_true rfl) ?_
  refine lv_dup hx hb dL_law_3 rfl ?_
  refine c_callI (As := []) (rest := [.ref q0]) (wc := [(q0, .inr (5, [.null, .null, .null, .null, .int (iI 0), .int (iI 0), .long (lI 0)]))]) (wr := []) (nL := 8) ⟨hx, hb, hml, hown, hts⟩ (c_X5_init l D cy q0) (co_X5 l) cl_L_110 (Nat.le_of_ble_eq_true rfl) (Nat.le_of_ble_eq_true rfl) rfl rfl hl.1 (Nat.le_of_ble_eq_true rfl) dL_law_4 (Nat.le_of_ble_eq_true rfl) (Nat.le_of_ble_eq_true rfl) hK hcy hng hP hD hS hA [0] [] rfl rfl rfl rfl rfl (by decide) (by decide) (fun u H locs hP hD hS => ?_)
  obtain ⟨u4_0, eu4_0⟩ : ∃ z, z = u 0 := ⟨_, rfl⟩
  obtain ⟨u4_1, eu4_1⟩ : ∃ z, z = u 1 := ⟨_, rfl⟩
  obtain ⟨u4_2, eu4_2⟩ : ∃ z, z = u 2 := ⟨_, rfl⟩
  obtain ⟨u4_3, eu4_3⟩ : ∃ z, z = u 3 := ⟨_, rfl⟩
  obtain ⟨u4_4, eu4_4⟩ : ∃ z, z = u 4 := ⟨_, rfl⟩
  obtain ⟨u4_5, eu4_5⟩ : ∃ z, z = u 5 := ⟨_, rfl⟩
  obtain ⟨u4_6, eu4_6⟩ : ∃ z, z = u 6 := ⟨_, rfl⟩
  obtain ⟨u4_7, eu4_7⟩ : ∃ z, z = u 7 := ⟨_, rfl⟩
  obtain ⟨u4_8, eu4_8⟩ : ∃ z, z = u 8 := ⟨_, rfl⟩
  obtain ⟨u4_9, eu4_9⟩ : ∃ z, z = u 9 := ⟨_, rfl⟩
  obtain ⟨u4_10, eu4_10⟩ : ∃ z, z = u 10 := ⟨_, rfl⟩
  obtain ⟨u4_11, eu4_11⟩ : ∃ z, z = u 11 := ⟨_, rfl⟩
  obtain ⟨u4_12, eu4_12⟩ : ∃ z, z = u 12 := ⟨_, rfl⟩
  obtain ⟨u4_13, eu4_13⟩ : ∃ z, z = u 13 := ⟨_, rfl⟩
  obtain ⟨u4_14, eu4_14⟩ : ∃ z, z = u 14 := ⟨_, rfl⟩
  obtain ⟨u4_15, eu4_15⟩ : ∃ z, z = u 15 := ⟨_, rfl⟩
  obtain ⟨u4_16, eu4_16⟩ : ∃ z, z = u 16 := ⟨_, rfl⟩
  obtain ⟨u4_17, eu4_17⟩ : ∃ z, z = u 17 := ⟨_, rfl⟩
  obtain ⟨u4_18, eu4_18⟩ : ∃ z, z = u 18 := ⟨_, rfl⟩
  obtain ⟨u4_19, eu4_19⟩ : ∃ z, z = u 19 := ⟨_, rfl⟩
  obtain ⟨u4_20, eu4_20⟩ : ∃ z, z = u 20 := ⟨_, rfl⟩
  obtain ⟨u4_21, eu4_21⟩ : ∃ z, z = u 21 := ⟨_, rfl⟩
  simp only [← eu4_0, ← eu4_1, ← eu4_2, ← eu4_3, ← eu4_4, ← eu4_5, ← eu4_6, ← eu4_7, ← eu4_8, ← eu4_9, ← eu4_10, ← eu4_11, ← eu4_12, ← eu4_13, ← eu4_14, ← eu4_15, ← eu4_16, ← eu4_17, ← eu4_18, ← eu4_19, ← eu4_20, ← eu4_21] at hP hD
  have hP : va_P D vwCl [(q0, .inr (5, [.ref u4_0, .ref u4_4, .ref u4_9, .ref u4_17, .int (iI 0), .int (iI 0), .long (lI 0)])), (u4_0, .inr (0, [.ref u4_1, .ref u4_2, .ref u4_3, .int (iI 0)])), (u4_1, .inl (cy 0, qAr 0 20 zR)), (u4_2, .inl (cy 1, qAr 1 20 zR)), (u4_3, .inl (cy 0, qAr 0 20 zR)), (u4_4, .inr (4, [.ref u4_0, .ref u4_5, .ref u4_6, .ref u4_7, .ref u4_8, .int (iI 0), .int (iI 0)])), (u4_5, .inl (cy 0, qAr 0 4 zR)), (u4_6, .inl (cy 0, qAr 0 4 zR)), (u4_7, .inl (cy 0, qAr 0 16 zR)), (u4_8, .inl (cy 0, qAr 0 20 (fun _ => -1))), (u4_10, .inr (4, [.ref u4_0, .ref u4_11, .ref u4_12, .ref u4_13, .ref u4_14, .int (iI 0), .int (iI 0)])), (u4_11, .inl (cy 0, qAr 0 4 zR)), (u4_12, .inl (cy 0, qAr 0 4 zR)), (u4_13, .inl (cy 0, qAr 0 16 zR)), (u4_14, .inl (cy 0, qAr 0 20 (fun _ => -1))), (u4_9, .inr (3, [.ref u4_4, .ref u4_10, .ref u4_15, .long (lI 0)])), (u4_15, .inr (2, [.ref u4_16, .int (iI 0)])), (u4_16, .inl (cy 3, qAr 3 1024 zR)), (u4_17, .inr (1, [.ref u4_18, .ref u4_19, .ref u4_20, .ref u4_21, .int (iI 0)])), (u4_18, .inl (cy 0, qAr 0 30 zR)), (u4_19, .inl (cy 0, qAr 0 30 zR)), (u4_20, .inl (cy 0, qAr 0 30 zR)), (u4_21, .inl (cy 1, qAr 1 30 zR))] H := hP
  have hD : va_D A [(q0, .inr (5, [.ref u4_0, .ref u4_4, .ref u4_9, .ref u4_17, .int (iI 0), .int (iI 0), .long (lI 0)])), (u4_0, .inr (0, [.ref u4_1, .ref u4_2, .ref u4_3, .int (iI 0)])), (u4_1, .inl (cy 0, qAr 0 20 zR)), (u4_2, .inl (cy 1, qAr 1 20 zR)), (u4_3, .inl (cy 0, qAr 0 20 zR)), (u4_4, .inr (4, [.ref u4_0, .ref u4_5, .ref u4_6, .ref u4_7, .ref u4_8, .int (iI 0), .int (iI 0)])), (u4_5, .inl (cy 0, qAr 0 4 zR)), (u4_6, .inl (cy 0, qAr 0 4 zR)), (u4_7, .inl (cy 0, qAr 0 16 zR)), (u4_8, .inl (cy 0, qAr 0 20 (fun _ => -1))), (u4_10, .inr (4, [.ref u4_0, .ref u4_11, .ref u4_12, .ref u4_13, .ref u4_14, .int (iI 0), .int (iI 0)])), (u4_11, .inl (cy 0, qAr 0 4 zR)), (u4_12, .inl (cy 0, qAr 0 4 zR)), (u4_13, .inl (cy 0, qAr 0 16 zR)), (u4_14, .inl (cy 0, qAr 0 20 (fun _ => -1))), (u4_9, .inr (3, [.ref u4_4, .ref u4_10, .ref u4_15, .long (lI 0)])), (u4_15, .inr (2, [.ref u4_16, .int (iI 0)])), (u4_16, .inl (cy 3, qAr 3 1024 zR)), (u4_17, .inr (1, [.ref u4_18, .ref u4_19, .ref u4_20, .ref u4_21, .int (iI 0)])), (u4_18, .inl (cy 0, qAr 0 30 zR)), (u4_19, .inl (cy 0, qAr 0 30 zR)), (u4_20, .inl (cy 0, qAr 0 30 zR)), (u4_21, .inl (cy 1, qAr 1 30 zR))] := hD
  refine W.widen (k := 23) (n := 1328) (Nat.le_of_ble_eq_true rfl) (Nat.le_of_ble_eq_true rfl) ?_
  refine lv_astore_n (lv' := [(1, .ref q0), (0, .ref b)]) hx hb dL_law_7 rfl hl (by decide) rfl (fun ls hl => ?_)
  refine va_new (ci := 6) (fs := [.int (iI 0), .int (iI 0), .int (iI 0), .null, .int (iI 0), .null, .null, .null, .null, .null, .null, .null, .int (iI 0), .int (iI 0), .null, .null, .null, .null, .long (lI 0)]) (C := RX6) (T := TX6) (N := 19) hx hb hts in_X6 tyX6 tyX6_ok hown (hts _ kl_L_111) (hts _ in_st_X6) (hts _ in_it_X6) hK hP hD hS hA rfl (fun j hj => by rcases (show j = 0 ∨ j = 1 ∨ j = 2 ∨ j = 3 ∨ j = 4 ∨ j = 5 ∨ j = 6 ∨ j = 7 ∨ j = 8 ∨ j = 9 ∨ j = 10 ∨ j = 11 ∨ j = 12 ∨ j = 13 ∨ j = 14 ∨ j = 15 ∨ j = 16 ∨ j = 17 ∨ j = 18 by omega) with rfl | rfl | rfl | rfl | rfl | rfl | rfl | rfl | rfl | rfl | rfl | rfl | rfl | rfl | rfl | rfl | rfl | rfl | rfl <;> first | rfl | (show Value.int 0 = Value.int (iI 0); rw [iI_0]) | (show Value.long 0 = Value.long (lI 0); rw [lI_0])) (Nat.le_of_ble_eq_true rfl) (Nat.le_of_ble_eq_true rfl) dL_law_8 (fun q8 H hP hD hS => ?_)
  have hP : va_P D vwCl [(q0, .inr (5, [.ref u4_0, .ref u4_4, .ref u4_9, .ref u4_17, .int (iI 0), .int (iI 0), .long (lI 0)])), (u4_0, .inr (0, [.ref u4_1, .ref u4_2, .ref u4_3, .int (iI 0)])), (u4_1, .inl (cy 0, qAr 0 20 zR)), (u4_2, .inl (cy 1, qAr 1 20 zR)), (u4_3, .inl (cy 0, qAr 0 20 zR)), (u4_4, .inr (4, [.ref u4_0, .ref u4_5, .ref u4_6, .ref u4_7, .ref u4_8, .int (iI 0), .int (iI 0)])), (u4_5, .inl (cy 0, qAr 0 4 zR)), (u4_6, .inl (cy 0, qAr 0 4 zR)), (u4_7, .inl (cy 0, qAr 0 16 zR)), (u4_8, .inl (cy 0, qAr 0 20 (fun _ => -1))), (u4_10, .inr (4, [.ref u4_0, .ref u4_11, .ref u4_12, .ref u4_13, .ref u4_14, .int (iI 0), .int (iI 0)])), (u4_11, .inl (cy 0, qAr 0 4 zR)), (u4_12, .inl (cy 0, qAr 0 4 zR)), (u4_13, .inl (cy 0, qAr 0 16 zR)), (u4_14, .inl (cy 0, qAr 0 20 (fun _ => -1))), (u4_9, .inr (3, [.ref u4_4, .ref u4_10, .ref u4_15, .long (lI 0)])), (u4_15, .inr (2, [.ref u4_16, .int (iI 0)])), (u4_16, .inl (cy 3, qAr 3 1024 zR)), (u4_17, .inr (1, [.ref u4_18, .ref u4_19, .ref u4_20, .ref u4_21, .int (iI 0)])), (u4_18, .inl (cy 0, qAr 0 30 zR)), (u4_19, .inl (cy 0, qAr 0 30 zR)), (u4_20, .inl (cy 0, qAr 0 30 zR)), (u4_21, .inl (cy 1, qAr 1 30 zR)), (q8, .inr (6, [.int (iI 0), .int (iI 0), .int (iI 0), .null, .int (iI 0), .null, .null, .null, .null, .null, .null, .null, .int (iI 0), .int (iI 0), .null, .null, .null, .null, .long (lI 0)]))] H := hP
  have hD : va_D A [(q0, .inr (5, [.ref u4_0, .ref u4_4, .ref u4_9, .ref u4_17, .int (iI 0), .int (iI 0), .long (lI 0)])), (u4_0, .inr (0, [.ref u4_1, .ref u4_2, .ref u4_3, .int (iI 0)])), (u4_1, .inl (cy 0, qAr 0 20 zR)), (u4_2, .inl (cy 1, qAr 1 20 zR)), (u4_3, .inl (cy 0, qAr 0 20 zR)), (u4_4, .inr (4, [.ref u4_0, .ref u4_5, .ref u4_6, .ref u4_7, .ref u4_8, .int (iI 0), .int (iI 0)])), (u4_5, .inl (cy 0, qAr 0 4 zR)), (u4_6, .inl (cy 0, qAr 0 4 zR)), (u4_7, .inl (cy 0, qAr 0 16 zR)), (u4_8, .inl (cy 0, qAr 0 20 (fun _ => -1))), (u4_10, .inr (4, [.ref u4_0, .ref u4_11, .ref u4_12, .ref u4_13, .ref u4_14, .int (iI 0), .int (iI 0)])), (u4_11, .inl (cy 0, qAr 0 4 zR)), (u4_12, .inl (cy 0, qAr 0 4 zR)), (u4_13, .inl (cy 0, qAr 0 16 zR)), (u4_14, .inl (cy 0, qAr 0 20 (fun _ => -1))), (u4_9, .inr (3, [.ref u4_4, .ref u4_10, .ref u4_15, .long (lI 0)])), (u4_15, .inr (2, [.ref u4_16, .int (iI 0)])), (u4_16, .inl (cy 3, qAr 3 1024 zR)), (u4_17, .inr (1, [.ref u4_18, .ref u4_19, .ref u4_20, .ref u4_21, .int (iI 0)])), (u4_18, .inl (cy 0, qAr 0 30 zR)), (u4_19, .inl (cy 0, qAr 0 30 zR)), (u4_20, .inl (cy 0, qAr 0 30 zR)), (u4_21, .inl (cy 1, qAr 1 30 zR)), (q8, .inr (6, [.int (iI 0), .int (iI 0), .int (iI 0), .null, .int (iI 0), .null, .null, .null, .null, .null, .null, .null, .int (iI 0), .int (iI 0), .null, .null, .null, .null, .long (lI 0)]))] := hD
  refine W.widen (k := 24) (n := 1347) (Nat.le_of_ble_eq_true rfl) (Nat.le_of_ble_eq_true rfl) ?_
  refine lv_dup hx hb dL_law_11 rfl ?_
  refine c_callI (As := []) (rest := [.ref q8]) (wc := [(q8, .inr (6, [.int (iI 0), .int (iI 0), .int (iI 0), .null, .int (iI 0), .null, .null, .null, .null, .null, .null, .null, .int (iI 0), .int (iI 0), .null, .null, .null, .null, .long (lI 0)]))]) (wr := [(q0, .inr (5, [.ref u4_0, .ref u4_4, .ref u4_9, .ref u4_17, .int (iI 0), .int (iI 0), .long (lI 0)])), (u4_0, .inr (0, [.ref u4_1, .ref u4_2, .ref u4_3, .int (iI 0)])), (u4_1, .inl (cy 0, qAr 0 20 zR)), (u4_2, .inl (cy 1, qAr 1 20 zR)), (u4_3, .inl (cy 0, qAr 0 20 zR)), (u4_4, .inr (4, [.ref u4_0, .ref u4_5, .ref u4_6, .ref u4_7, .ref u4_8, .int (iI 0), .int (iI 0)])), (u4_5, .inl (cy 0, qAr 0 4 zR)), (u4_6, .inl (cy 0, qAr 0 4 zR)), (u4_7, .inl (cy 0, qAr 0 16 zR)), (u4_8, .inl (cy 0, qAr 0 20 (fun _ => -1))), (u4_10, .inr (4, [.ref u4_0, .ref u4_11, .ref u4_12, .ref u4_13, .ref u4_14, .int (iI 0), .int (iI 0)])), (u4_11, .inl (cy 0, qAr 0 4 zR)), (u4_12, .inl (cy 0, qAr 0 4 zR)), (u4_13, .inl (cy 0, qAr 0 16 zR)), (u4_14, .inl (cy 0, qAr 0 20 (fun _ => -1))), (u4_9, .inr (3, [.ref u4_4, .ref u4_10, .ref u4_15, .long (lI 0)])), (u4_15, .inr (2, [.ref u4_16, .int (iI 0)])), (u4_16, .inl (cy 3, qAr 3 1024 zR)), (u4_17, .inr (1, [.ref u4_18, .ref u4_19, .ref u4_20, .ref u4_21, .int (iI 0)])), (u4_18, .inl (cy 0, qAr 0 30 zR)), (u4_19, .inl (cy 0, qAr 0 30 zR)), (u4_20, .inl (cy 0, qAr 0 30 zR)), (u4_21, .inl (cy 1, qAr 1 30 zR))]) (nL := 8) ⟨hx, hb, hml, hown, hts⟩ (c_X6_init l D cy q8) (co_X6 l) cl_L_113 (Nat.le_of_ble_eq_true rfl) (Nat.le_of_ble_eq_true rfl) rfl rfl hl.1 (Nat.le_of_ble_eq_true rfl) dL_law_12 (Nat.le_of_ble_eq_true rfl) (Nat.le_of_ble_eq_true rfl) hK hcy hng hP hD hS hA [23] [0, 1, 2, 3, 4, 5, 6, 7, 8, 9, 10, 11, 12, 13, 14, 15, 16, 17, 18, 19, 20, 21, 22] rfl rfl rfl rfl rfl (by decide) (by decide) (fun u H locs hP hD hS => ?_)
  obtain ⟨u12_0, eu12_0⟩ : ∃ z, z = u 0 := ⟨_, rfl⟩
  obtain ⟨u12_1, eu12_1⟩ : ∃ z, z = u 1 := ⟨_, rfl⟩
  obtain ⟨u12_2, eu12_2⟩ : ∃ z, z = u 2 := ⟨_, rfl⟩
  obtain ⟨u12_3, eu12_3⟩ : ∃ z, z = u 3 := ⟨_, rfl⟩
  obtain ⟨u12_4, eu12_4⟩ : ∃ z, z = u 4 := ⟨_, rfl⟩
  obtain ⟨u12_5, eu12_5⟩ : ∃ z, z = u 5 := ⟨_, rfl⟩
  obtain ⟨u12_6, eu12_6⟩ : ∃ z, z = u 6 := ⟨_, rfl⟩
  obtain ⟨u12_7, eu12_7⟩ : ∃ z, z = u 7 := ⟨_, rfl⟩
  obtain ⟨u12_8, eu12_8⟩ : ∃ z, z = u 8 := ⟨_, rfl⟩
  obtain ⟨u12_9, eu12_9⟩ : ∃ z, z = u 9 := ⟨_, rfl⟩
  obtain ⟨u12_10, eu12_10⟩ : ∃ z, z = u 10 := ⟨_, rfl⟩
  obtain ⟨u12_11, eu12_11⟩ : ∃ z, z = u 11 := ⟨_, rfl⟩
  simp only [← eu12_0, ← eu12_1, ← eu12_2, ← eu12_3, ← eu12_4, ← eu12_5, ← eu12_6, ← eu12_7, ← eu12_8, ← eu12_9, ← eu12_10, ← eu12_11] at hP hD
  have hP : va_P D vwCl [(q0, .inr (5, [.ref u4_0, .ref u4_4, .ref u4_9, .ref u4_17, .int (iI 0), .int (iI 0), .long (lI 0)])), (u4_0, .inr (0, [.ref u4_1, .ref u4_2, .ref u4_3, .int (iI 0)])), (u4_1, .inl (cy 0, qAr 0 20 zR)), (u4_2, .inl (cy 1, qAr 1 20 zR)), (u4_3, .inl (cy 0, qAr 0 20 zR)), (u4_4, .inr (4, [.ref u4_0, .ref u4_5, .ref u4_6, .ref u4_7, .ref u4_8, .int (iI 0), .int (iI 0)])), (u4_5, .inl (cy 0, qAr 0 4 zR)), (u4_6, .inl (cy 0, qAr 0 4 zR)), (u4_7, .inl (cy 0, qAr 0 16 zR)), (u4_8, .inl (cy 0, qAr 0 20 (fun _ => -1))), (u4_10, .inr (4, [.ref u4_0, .ref u4_11, .ref u4_12, .ref u4_13, .ref u4_14, .int (iI 0), .int (iI 0)])), (u4_11, .inl (cy 0, qAr 0 4 zR)), (u4_12, .inl (cy 0, qAr 0 4 zR)), (u4_13, .inl (cy 0, qAr 0 16 zR)), (u4_14, .inl (cy 0, qAr 0 20 (fun _ => -1))), (u4_9, .inr (3, [.ref u4_4, .ref u4_10, .ref u4_15, .long (lI 0)])), (u4_15, .inr (2, [.ref u4_16, .int (iI 0)])), (u4_16, .inl (cy 3, qAr 3 1024 zR)), (u4_17, .inr (1, [.ref u4_18, .ref u4_19, .ref u4_20, .ref u4_21, .int (iI 0)])), (u4_18, .inl (cy 0, qAr 0 30 zR)), (u4_19, .inl (cy 0, qAr 0 30 zR)), (u4_20, .inl (cy 0, qAr 0 30 zR)), (u4_21, .inl (cy 1, qAr 1 30 zR)), (q8, .inr (6, [.int (iI 0), .int (iI 0), .int (iI 0), .ref u12_0, .int (iI 0), .ref u12_1, .ref u12_2, .ref u12_3, .ref u12_4, .ref u12_5, .ref u12_6, .ref u12_7, .int (iI 0), .int (iI 0), .ref u12_8, .ref u12_9, .ref u12_10, .ref u12_11, .long (lI 0)])), (u12_0, .inl (cy 0, qAr 0 4 zR)), (u12_1, .inl (cy 0, qAr 0 20 zR)), (u12_2, .inl (cy 2, qAr 2 20 zR)), (u12_3, .inl (cy 1, qAr 1 20 zR)), (u12_4, .inl (cy 0, qAr 0 20 zR)), (u12_5, .inl (cy 0, qAr 0 24 zR)), (u12_6, .inl (cy 0, qAr 0 96 zR)), (u12_7, .inl (cy 0, qAr 0 6 zR)), (u12_8, .inl (cy 0, qAr 0 30 zR)), (u12_9, .inl (cy 0, qAr 0 30 zR)), (u12_10, .inl (cy 0, qAr 0 30 zR)), (u12_11, .inl (cy 1, qAr 1 30 zR))] H := hP
  have hD : va_D A [(q0, .inr (5, [.ref u4_0, .ref u4_4, .ref u4_9, .ref u4_17, .int (iI 0), .int (iI 0), .long (lI 0)])), (u4_0, .inr (0, [.ref u4_1, .ref u4_2, .ref u4_3, .int (iI 0)])), (u4_1, .inl (cy 0, qAr 0 20 zR)), (u4_2, .inl (cy 1, qAr 1 20 zR)), (u4_3, .inl (cy 0, qAr 0 20 zR)), (u4_4, .inr (4, [.ref u4_0, .ref u4_5, .ref u4_6, .ref u4_7, .ref u4_8, .int (iI 0), .int (iI 0)])), (u4_5, .inl (cy 0, qAr 0 4 zR)), (u4_6, .inl (cy 0, qAr 0 4 zR)), (u4_7, .inl (cy 0, qAr 0 16 zR)), (u4_8, .inl (cy 0, qAr 0 20 (fun _ => -1))), (u4_10, .inr (4, [.ref u4_0, .ref u4_11, .ref u4_12, .ref u4_13, .ref u4_14, .int (iI 0), .int (iI 0)])), (u4_11, .inl (cy 0, qAr 0 4 zR)), (u4_12, .inl (cy 0, qAr 0 4 zR)), (u4_13, .inl (cy 0, qAr 0 16 zR)), (u4_14, .inl (cy 0, qAr 0 20 (fun _ => -1))), (u4_9, .inr (3, [.ref u4_4, .ref u4_10, .ref u4_15, .long (lI 0)])), (u4_15, .inr (2, [.ref u4_16, .int (iI 0)])), (u4_16, .inl (cy 3, qAr 3 1024 zR)), (u4_17, .inr (1, [.ref u4_18, .ref u4_19, .ref u4_20, .ref u4_21, .int (iI 0)])), (u4_18, .inl (cy 0, qAr 0 30 zR)), (u4_19, .inl (cy 0, qAr 0 30 zR)), (u4_20, .inl (cy 0, qAr 0 30 zR)), (u4_21, .inl (cy 1, qAr 1 30 zR)), (q8, .inr (6, [.int (iI 0), .int (iI 0), .int (iI 0), .ref u12_0, .int (iI 0), .ref u12_1, .ref u12_2, .ref u12_3, .ref u12_4, .ref u12_5, .ref u12_6, .ref u12_7, .int (iI 0), .int (iI 0), .ref u12_8, .ref u12_9, .ref u12_10, .ref u12_11, .long (lI 0)])), (u12_0, .inl (cy 0, qAr 0 4 zR)), (u12_1, .inl (cy 0, qAr 0 20 zR)), (u12_2, .inl (cy 2, qAr 2 20 zR)), (u12_3, .inl (cy 1, qAr 1 20 zR)), (u12_4, .inl (cy 0, qAr 0 20 zR)), (u12_5, .inl (cy 0, qAr 0 24 zR)), (u12_6, .inl (cy 0, qAr 0 96 zR)), (u12_7, .inl (cy 0, qAr 0 6 zR)), (u12_8, .inl (cy 0, qAr 0 30 zR)), (u12_9, .inl (cy 0, qAr 0 30 zR)), (u12_10, .inl (cy 0, qAr 0 30 zR)), (u12_11, .inl (cy 1, qAr 1 30 zR))] := hD
  refine W.widen (k := 36) (n := 1683) (Nat.le_of_ble_eq_true rfl) (Nat.le_of_ble_eq_true rfl) ?_
  refine lv_astore_n (lv' := [(2, .ref q8), (1, .ref q0), (0, .ref b)]) hx hb dL_law_15 rfl hl (by decide) rfl (fun ls hl => ?_)
  refine lv_iconst (v := 1) hx hb dL_law_16 (by decide) ?_
  refine c_newa (t := 3) (N' := 1) hx hb (by decide) rfl (hts _ wA_long) hcy hP hD hS hA (by decide) (by decide) (Nat.le_of_ble_eq_true rfl) (Nat.le_of_ble_eq_true rfl) (Nat.le_of_ble_eq_true rfl) dL_law_17 (fun q17 H hP hD hS => ?_)
  have hP : va_P D vwCl [(q0, .inr (5, [.ref u4_0, .ref u4_4, .ref u4_9, .ref u4_17, .int (iI 0), .int (iI 0), .long (lI 0)])), (u4_0, .inr (0, [.ref u4_1, .ref u4_2, .ref u4_3, .int (iI 0)])), (u4_1, .inl (cy 0, qAr 0 20 zR)), (u4_2, .inl (cy 1, qAr 1 20 zR)), (u4_3, .inl (cy 0, qAr 0 20 zR)), (u4_4, .inr (4, [.ref u4_0, .ref u4_5, .ref u4_6, .ref u4_7, .ref u4_8, .int (iI 0), .int (iI 0)])), (u4_5, .inl (cy 0, qAr 0 4 zR)), (u4_6, .inl (cy 0, qAr 0 4 zR)), (u4_7, .inl (cy 0, qAr 0 16 zR)), (u4_8, .inl (cy 0, qAr 0 20 (fun _ => -1))), (u4_10, .inr (4, [.ref u4_0, .ref u4_11, .ref u4_12, .ref u4_13, .ref u4_14, .int (iI 0), .int (iI 0)])), (u4_11, .inl (cy 0, qAr 0 4 zR)), (u4_12, .inl (cy 0, qAr 0 4 zR)), (u4_13, .inl (cy 0, qAr 0 16 zR)), (u4_14, .inl (cy 0, qAr 0 20 (fun _ => -1))), (u4_9, .inr (3, [.ref u4_4, .ref u4_10, .ref u4_15, .long (lI 0)])), (u4_15, .inr (2, [.ref u4_16, .int (iI 0)])), (u4_16, .inl (cy 3, qAr 3 1024 zR)), (u4_17, .inr (1, [.ref u4_18, .ref u4_19, .ref u4_20, .ref u4_21, .int (iI 0)])), (u4_18, .inl (cy 0, qAr 0 30 zR)), (u4_19, .inl (cy 0, qAr 0 30 zR)), (u4_20, .inl (cy 0, qAr 0 30 zR)), (u4_21, .inl (cy 1, qAr 1 30 zR)), (q8, .inr (6, [.int (iI 0), .int (iI 0), .int (iI 0), .ref u12_0, .int (iI 0), .ref u12_1, .ref u12_2, .ref u12_3, .ref u12_4, .ref u12_5, .ref u12_6, .ref u12_7, .int (iI 0), .int (iI 0), .ref u12_8, .ref u12_9, .ref u12_10, .ref u12_11, .long (lI 0)])), (u12_0, .inl (cy 0, qAr 0 4 zR)), (u12_1, .inl (cy 0, qAr 0 20 zR)), (u12_2, .inl (cy 2, qAr 2 20 zR)), (u12_3, .inl (cy 1, qAr 1 20 zR)), (u12_4, .inl (cy 0, qAr 0 20 zR)), (u12_5, .inl (cy 0, qAr 0 24 zR)), (u12_6, .inl (cy 0, qAr 0 96 zR)), (u12_7, .inl (cy 0, qAr 0 6 zR)), (u12_8, .inl (cy 0, qAr 0 30 zR)), (u12_9, .inl (cy 0, qAr 0 30 zR)), (u12_10, .inl (cy 0, qAr 0 30 zR)), (u12_11, .inl (cy 1, qAr 1 30 zR)), (q17, .inl (cy 3, qAr 3 1 zR))] H := hP
  have hD : va_D A [(q0, .inr (5, [.ref u4_0, .ref u4_4, .ref u4_9, .ref u4_17, .int (iI 0), .int (iI 0), .long (lI 0)])), (u4_0, .inr (0, [.ref u4_1, .ref u4_2, .ref u4_3, .int (iI 0)])), (u4_1, .inl (cy 0, qAr 0 20 zR)), (u4_2, .inl (cy 1, qAr 1 20 zR)), (u4_3, .inl (cy 0, qAr 0 20 zR)), (u4_4, .inr (4, [.ref u4_0, .ref u4_5, .ref u4_6, .ref u4_7, .ref u4_8, .int (iI 0), .int (iI 0)])), (u4_5, .inl (cy 0, qAr 0 4 zR)), (u4_6, .inl (cy 0, qAr 0 4 zR)), (u4_7, .inl (cy 0, qAr 0 16 zR)), (u4_8, .inl (cy 0, qAr 0 20 (fun _ => -1))), (u4_10, .inr (4, [.ref u4_0, .ref u4_11, .ref u4_12, .ref u4_13, .ref u4_14, .int (iI 0), .int (iI 0)])), (u4_11, .inl (cy 0, qAr 0 4 zR)), (u4_12, .inl (cy 0, qAr 0 4 zR)), (u4_13, .inl (cy 0, qAr 0 16 zR)), (u4_14, .inl (cy 0, qAr 0 20 (fun _ => -1))), (u4_9, .inr (3, [.ref u4_4, .ref u4_10, .ref u4_15, .long (lI 0)])), (u4_15, .inr (2, [.ref u4_16, .int (iI 0)])), (u4_16, .inl (cy 3, qAr 3 1024 zR)), (u4_17, .inr (1, [.ref u4_18, .ref u4_19, .ref u4_20, .ref u4_21, .int (iI 0)])), (u4_18, .inl (cy 0, qAr 0 30 zR)), (u4_19, .inl (cy 0, qAr 0 30 zR)), (u4_20, .inl (cy 0, qAr 0 30 zR)), (u4_21, .inl (cy 1, qAr 1 30 zR)), (q8, .inr (6, [.int (iI 0), .int (iI 0), .int (iI 0), .ref u12_0, .int (iI 0), .ref u12_1, .ref u12_2, .ref u12_3, .ref u12_4, .ref u12_5, .ref u12_6, .ref u12_7, .int (iI 0), .int (iI 0), .ref u12_8, .ref u12_9, .ref u12_10, .ref u12_11, .long (lI 0)])), (u12_0, .inl (cy 0, qAr 0 4 zR)), (u12_1, .inl (cy 0, qAr 0 20 zR)), (u12_2, .inl (cy 2, qAr 2 20 zR)), (u12_3, .inl (cy 1, qAr 1 20 zR)), (u12_4, .inl (cy 0, qAr 0 20 zR)), (u12_5, .inl (cy 0, qAr 0 24 zR)), (u12_6, .inl (cy 0, qAr 0 96 zR)), (u12_7, .inl (cy 0, qAr 0 6 zR)), (u12_8, .inl (cy 0, qAr 0 30 zR)), (u12_9, .inl (cy 0, qAr 0 30 zR)), (u12_10, .inl (cy 0, qAr 0 30 zR)), (u12_11, .inl (cy 1, qAr 1 30 zR)), (q17, .inl (cy 3, qAr 3 1 zR))] := hD
  refine W.widen (k := 37) (n := 1684) (Nat.le_of_ble_eq_true rfl) (Nat.le_of_ble_eq_true rfl) ?_
  refine lv_astore_n (lv' := [(3, .ref q17), (2, .ref q8), (1, .ref q0), (0, .ref b)]) hx hb dL_law_19 rfl hl (by decide) rfl (fun ls hl => ?_)
  refine lv_iconst (v := 1) hx hb dL_law_20 (by decide) ?_
  refine c_newa (t := 4) (N' := 1) hx hb (by decide) rfl (hts _ wA_double) hcy hP hD hS hA (by decide) (by decide) (Nat.le_of_ble_eq_true rfl) (Nat.le_of_ble_eq_true rfl) (Nat.le_of_ble_eq_true rfl) dL_law_21 (fun q21 H hP hD hS => ?_)
  have hP : va_P D vwCl [(q0, .inr (5, [.ref u4_0, .ref u4_4, .ref u4_9, .ref u4_17, .int (iI 0), .int (iI 0), .long (lI 0)])), (u4_0, .inr (0, [.ref u4_1, .ref u4_2, .ref u4_3, .int (iI 0)])), (u4_1, .inl (cy 0, qAr 0 20 zR)), (u4_2, .inl (cy 1, qAr 1 20 zR)), (u4_3, .inl (cy 0, qAr 0 20 zR)), (u4_4, .inr (4, [.ref u4_0, .ref u4_5, .ref u4_6, .ref u4_7, .ref u4_8, .int (iI 0), .int (iI 0)])), (u4_5, .inl (cy 0, qAr 0 4 zR)), (u4_6, .inl (cy 0, qAr 0 4 zR)), (u4_7, .inl (cy 0, qAr 0 16 zR)), (u4_8, .inl (cy 0, qAr 0 20 (fun _ => -1))), (u4_10, .inr (4, [.ref u4_0, .ref u4_11, .ref u4_12, .ref u4_13, .ref u4_14, .int (iI 0), .int (iI 0)])), (u4_11, .inl (cy 0, qAr 0 4 zR)), (u4_12, .inl (cy 0, qAr 0 4 zR)), (u4_13, .inl (cy 0, qAr 0 16 zR)), (u4_14, .inl (cy 0, qAr 0 20 (fun _ => -1))), (u4_9, .inr (3, [.ref u4_4, .ref u4_10, .ref u4_15, .long (lI 0)])), (u4_15, .inr (2, [.ref u4_16, .int (iI 0)])), (u4_16, .inl (cy 3, qAr 3 1024 zR)), (u4_17, .inr (1, [.ref u4_18, .ref u4_19, .ref u4_20, .ref u4_21, .int (iI 0)])), (u4_18, .inl (cy 0, qAr 0 30 zR)), (u4_19, .inl (cy 0, qAr 0 30 zR)), (u4_20, .inl (cy 0, qAr 0 30 zR)), (u4_21, .inl (cy 1, qAr 1 30 zR)), (q8, .inr (6, [.int (iI 0), .int (iI 0), .int (iI 0), .ref u12_0, .int (iI 0), .ref u12_1, .ref u12_2, .ref u12_3, .ref u12_4, .ref u12_5, .ref u12_6, .ref u12_7, .int (iI 0), .int (iI 0), .ref u12_8, .ref u12_9, .ref u12_10, .ref u12_11, .long (lI 0)])), (u12_0, .inl (cy 0, qAr 0 4 zR)), (u12_1, .inl (cy 0, qAr 0 20 zR)), (u12_2, .inl (cy 2, qAr 2 20 zR)), (u12_3, .inl (cy 1, qAr 1 20 zR)), (u12_4, .inl (cy 0, qAr 0 20 zR)), (u12_5, .inl (cy 0, qAr 0 24 zR)), (u12_6, .inl (cy 0, qAr 0 96 zR)), (u12_7, .inl (cy 0, qAr 0 6 zR)), (u12_8, .inl (cy 0, qAr 0 30 zR)), (u12_9, .inl (cy 0, qAr 0 30 zR)), (u12_10, .inl (cy 0, qAr 0 30 zR)), (u12_11, .inl (cy 1, qAr 1 30 zR)), (q17, .inl (cy 3, qAr 3 1 zR)), (q21, .inl (cy 4, qAr 4 1 zR))] H := hP
  have hD : va_D A [(q0, .inr (5, [.ref u4_0, .ref u4_4, .ref u4_9, .ref u4_17, .int (iI 0), .int (iI 0), .long (lI 0)])), (u4_0, .inr (0, [.ref u4_1, .ref u4_2, .ref u4_3, .int (iI 0)])), (u4_1, .inl (cy 0, qAr 0 20 zR)), (u4_2, .inl (cy 1, qAr 1 20 zR)), (u4_3, .inl (cy 0, qAr 0 20 zR)), (u4_4, .inr (4, [.ref u4_0, .ref u4_5, .ref u4_6, .ref u4_7, .ref u4_8, .int (iI 0), .int (iI 0)])), (u4_5, .inl (cy 0, qAr 0 4 zR)), (u4_6, .inl (cy 0, qAr 0 4 zR)), (u4_7, .inl (cy 0, qAr 0 16 zR)), (u4_8, .inl (cy 0, qAr 0 20 (fun _ => -1))), (u4_10, .inr (4, [.ref u4_0, .ref u4_11, .ref u4_12, .ref u4_13, .ref u4_14, .int (iI 0), .int (iI 0)])), (u4_11, .inl (cy 0, qAr 0 4 zR)), (u4_12, .inl (cy 0, qAr 0 4 zR)), (u4_13, .inl (cy 0, qAr 0 16 zR)), (u4_14, .inl (cy 0, qAr 0 20 (fun _ => -1))), (u4_9, .inr (3, [.ref u4_4, .ref u4_10, .ref u4_15, .long (lI 0)])), (u4_15, .inr (2, [.ref u4_16, .int (iI 0)])), (u4_16, .inl (cy 3, qAr 3 1024 zR)), (u4_17, .inr (1, [.ref u4_18, .ref u4_19, .ref u4_20, .ref u4_21, .int (iI 0)])), (u4_18, .inl (cy 0, qAr 0 30 zR)), (u4_19, .inl (cy 0, qAr 0 30 zR)), (u4_20, .inl (cy 0, qAr 0 30 zR)), (u4_21, .inl (cy 1, qAr 1 30 zR)), (q8, .inr (6, [.int (iI 0), .int (iI 0), .int (iI 0), .ref u12_0, .int (iI 0), .ref u12_1, .ref u12_2, .ref u12_3, .ref u12_4, .ref u12_5, .ref u12_6, .ref u12_7, .int (iI 0), .int (iI 0), .ref u12_8, .ref u12_9, .ref u12_10, .ref u12_11, .long (lI 0)])), (u12_0, .inl (cy 0, qAr 0 4 zR)), (u12_1, .inl (cy 0, qAr 0 20 zR)), (u12_2, .inl (cy 2, qAr 2 20 zR)), (u12_3, .inl (cy 1, qAr 1 20 zR)), (u12_4, .inl (cy 0, qAr 0 20 zR)), (u12_5, .inl (cy 0, qAr 0 24 zR)), (u12_6, .inl (cy 0, qAr 0 96 zR)), (u12_7, .inl (cy 0, qAr 0 6 zR)), (u12_8, .inl (cy 0, qAr 0 30 zR)), (u12_9, .inl (cy 0, qAr 0 30 zR)), (u12_10, .inl (cy 0, qAr 0 30 zR)), (u12_11, .inl (cy 1, qAr 1 30 zR)), (q17, .inl (cy 3, qAr 3 1 zR)), (q21, .inl (cy 4, qAr 4 1 zR))] := hD
  refine W.widen (k := 38) (n := 1685) (Nat.le_of_ble_eq_true rfl) (Nat.le_of_ble_eq_true rfl) ?_
  refine lv_astore (lv' := [(4, .ref q21), (3, .ref q17), (2, .ref q8), (1, .ref q0), (0, .ref b)]) hx hb dL_law_23 hl (by decide) rfl (fun ls hl => ?_)
  refine lv_iconst (v := iI 0) hx hb dL_law_25 (by decide +kernel) ?_
  refine lv_istore (lv' := (5, .int (iI 0)) :: [(4, .ref q21), (3, .ref q17), (2, .ref q8), (1, .ref q0), (0, .ref b)]) hx hb dL_law_26 hl (by decide) rfl (fun ls hl => ?_)
  obtain ⟨ad, ead⟩ : ∃ ad : Nat → Nat, ad = (fun k => ([q0, u4_0, u4_1, u4_2, u4_3, u4_4, u4_5, u4_6, u4_7, u4_8, u4_10, u4_11, u4_12, u4_13, u4_14, u4_9, u4_15, u4_16, u4_17, u4_18, u4_19, u4_20, u4_21, q8, u12_0, u12_1, u12_2, u12_3, u12_4, u12_5, u12_6, u12_7, u12_8, u12_9, u12_10, u12_11, q17, q21] : List Nat).getD k 0) := ⟨_, rfl⟩
  have hP9 : va_P D vwCl (qWs ad cy gZ) H := by
    rw [ead]
    exact hP.sub [0, 1, 2, 3, 4, 5, 6, 7, 8, 9, 10, 11, 12, 13, 14, 15, 16, 17, 18, 19, 20, 21, 22, 23, 24, 25, 26, 27, 28, 29, 30, 31, 32, 33, 34, 35, 36, 37] rfl
  have hD9 : va_D A (qWs ad cy gZ) := by
    rw [ead]
    exact hD.sub [0, 1, 2, 3, 4, 5, 6, 7, 8, 9, 10, 11, 12, 13, 14, 15, 16, 17, 18, 19, 20, 21, 22, 23, 24, 25, 26, 27, 28, 29, 30, 31, 32, 33, 34, 35, 36, 37] (by decide) rfl
  have hl9 : lv_has ls 8 (lwL (ad, cy, D, s.heap.size) b (4 * ((0 : Nat) : Int))) := by
    rw [ead]
    exact lv_sub hl [5, 4, 3, 2, 1, 0] rfl
  clear hP hD hl
  subst eA
  refine W.widen (k := 300 + 4 * 0) (n := 6 * (300 + 4 * 0)) (Nat.le_of_ble_eq_true rfl) (Nat.le_of_ble_eq_true rfl) ?_
  refine law_loop (T := c.exceptionTable.toList) (ω := (ad, cy, D, s.heap.size)) ⟨hx, hb, hr, hml, hown, hts, hlocks, rfl, htr, ⟨hK, vx_Zqof (hts0 _ lU_in) (hts0 _ iT_in) (hfl _ gU_in) (fun a h => Nat.not_le.mpr h), vx_Zqof (hts0 _ lS_in) (hts0 _ iT_in) (hfl _ gS_in) (fun a h => Nat.not_le.mpr h), fun q hq => vk_of (hts0 _ (sr_in q hq)), hng, fun E hE F hF hn => va_Nc.of (hfl _ (nc_in E hE F hF hn)), Nat.le_refl _⟩, by decide, by decide, by decide, by decide⟩ ⟨hX, hbl, hbl⟩ rfl hL (L + 10) 0 gZ (by omega) (by omega) LI_Z H _ ls ⟨hP9, hD9, gZ_nm⟩ hS hl9
