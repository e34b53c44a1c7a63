/-! the constructors -/
theorem wA_int : Cond.arrayClass .int ∈ qAW := qm 58 (by decide +kernel) rfl
theorem wA_char : Cond.arrayClass .char ∈ qAW := qm 59 (by decide +kernel) rfl
theorem wA_long : Cond.arrayClass .long ∈ qAW := qm 107 (by decide +kernel) rfl
theorem oi_w : Cond.instanceMethod objectInit ∈ qAW := qm 37 (by decide +kernel) rfl
theorem oc_w : Cond.code objectInit ⟨#[0xb1]⟩ 1 none ∈ qAW := qm 38 (by decide +kernel) rfl
theorem ol_X0 : Cond.methodLink RX0 3 objectInit ∈ qAW := qm 44 (by decide +kernel) rfl
theorem in_st_X0 : Cond.instantiable RX0 4 ∈ qAW := qm 40 (by decide +kernel) rfl
theorem in_it_X0 : Cond.initialized RX0 ∈ qAW := qm 17 (by decide +kernel) rfl
theorem co_X0 : ∀ l : Launch, cOn l yX0_init (.code yX0_init cX0_init 1 none) cX0_init 1 0 := fun _ => ⟨rfl, qm 43 (by decide +kernel) rfl, qm 42 (by decide +kernel) rfl, in_it_X0, (by decide +kernel), rfl⟩
theorem ol_X1 : Cond.methodLink RX1 3 objectInit ∈ qAW := qm 126 (by decide +kernel) rfl
theorem in_st_X1 : Cond.instantiable RX1 5 ∈ qAW := qm 122 (by decide +kernel) rfl
theorem in_it_X1 : Cond.initialized RX1 ∈ qAW := qm 21 (by decide +kernel) rfl
theorem co_X1 : ∀ l : Launch, cOn l yX1_init (.code yX1_init cX1_init 1 none) cX1_init 1 0 := fun _ => ⟨rfl, qm 125 (by decide +kernel) rfl, qm 124 (by decide +kernel) rfl, in_it_X1, (by decide +kernel), rfl⟩
theorem ol_X2 : Cond.methodLink RX2 1 objectInit ∈ qAW := qm 99 (by decide +kernel) rfl
theorem in_st_X2 : Cond.instantiable RX2 2 ∈ qAW := qm 95 (by decide +kernel) rfl
theorem in_it_X2 : Cond.initialized RX2 ∈ qAW := qm 20 (by decide +kernel) rfl
theorem co_X2 : ∀ l : Launch, cOn l yX2_init (.code yX2_init cX2_init 1 none) cX2_init 1 0 := fun _ => ⟨rfl, qm 98 (by decide +kernel) rfl, qm 97 (by decide +kernel) rfl, in_it_X2, (by decide +kernel), rfl⟩
theorem ol_X3 : Cond.methodLink RX3 5 objectInit ∈ qAW := qm 93 (by decide +kernel) rfl
theorem in_st_X3 : Cond.instantiable RX3 4 ∈ qAW := qm 89 (by decide +kernel) rfl
theorem in_it_X3 : Cond.initialized RX3 ∈ qAW := qm 19 (by decide +kernel) rfl
theorem co_X3 : ∀ l : Launch, cOn l yX3_init (.code yX3_init cX3_init 3 none) cX3_init 3 2 := fun _ => ⟨rfl, qm 92 (by decide +kernel) rfl, qm 91 (by decide +kernel) rfl, in_it_X3, (by decide +kernel), rfl⟩
theorem ol_X4 : Cond.methodLink RX4 3 objectInit ∈ qAW := qm 65 (by decide +kernel) rfl
theorem in_st_X4 : Cond.instantiable RX4 7 ∈ qAW := qm 61 (by decide +kernel) rfl
theorem in_it_X4 : Cond.initialized RX4 ∈ qAW := qm 18 (by decide +kernel) rfl
theorem co_X4 : ∀ l : Launch, cOn l yX4_init (.code yX4_init cX4_init 3 none) cX4_init 3 1 := fun _ => ⟨rfl, qm 64 (by decide +kernel) rfl, qm 63 (by decide +kernel) rfl, in_it_X4, (by decide +kernel), rfl⟩
theorem ol_X5 : Cond.methodLink RX5 1 objectInit ∈ qAW := qm 36 (by decide +kernel) rfl
theorem in_st_X5 : Cond.instantiable RX5 7 ∈ qAW := qm 32 (by decide +kernel) rfl
theorem in_it_X5 : Cond.initialized RX5 ∈ qAW := qm 16 (by decide +kernel) rfl
theorem co_X5 : ∀ l : Launch, cOn l yX5_init (.code yX5_init cX5_init 3 none) cX5_init 3 0 := fun _ => ⟨rfl, qm 35 (by decide +kernel) rfl, qm 34 (by decide +kernel) rfl, in_it_X5, (by decide +kernel), rfl⟩
theorem kl_L_10 : Cond.classLink RL 10 RX5 ∈ qAW := qm 31 (by decide +kernel) rfl
theorem cl_L_134 : Cond.methodLink RL 134 yX5_init ∈ qAW := qm 33 (by decide +kernel) rfl
theorem kl_X5_7 : Cond.classLink RX5 7 RX0 ∈ qAW := qm 39 (by decide +kernel) rfl
theorem cl_X5_9 : Cond.methodLinkNest RX5 9 yX0_init "Quaylock" ∈ qNg := List.mem_filter.mpr ⟨List.mem_of_getElem? (i := 41) (by decide +kernel), rfl⟩
theorem kl_X5_10 : Cond.classLink RX5 10 RX4 ∈ qAW := qm 60 (by decide +kernel) rfl
theorem cl_X5_12 : Cond.methodLink RX5 12 yX4_init ∈ qAW := qm 62 (by decide +kernel) rfl
theorem kl_X5_25 : Cond.classLink RX5 25 RX3 ∈ qAW := qm 88 (by decide +kernel) rfl
theorem cl_X5_27 : Cond.methodLink RX5 27 yX3_init ∈ qAW := qm 90 (by decide +kernel) rfl
theorem kl_X3_11 : Cond.classLink RX3 11 RX2 ∈ qAW := qm 94 (by decide +kernel) rfl
theorem cl_X3_13 : Cond.methodLinkNest RX3 13 yX2_init "Quaylock" ∈ qNg := List.mem_filter.mpr ⟨List.mem_of_getElem? (i := 96) (by decide +kernel), rfl⟩
theorem kl_X5_34 : Cond.classLink RX5 34 RX1 ∈ qAW := qm 121 (by decide +kernel) rfl
theorem cl_X5_36 : Cond.methodLinkNest RX5 36 yX1_init "Quaylock" ∈ qNg := List.mem_filter.mpr ⟨List.mem_of_getElem? (i := 123) (by decide +kernel), rfl⟩
set_option maxHeartbeats 4000000 in
set_option maxRecDepth 100000 in
theorem c_X0_init (l : Launch) (D : va_G) (cy : Nat → ClassId) (h0 : Nat) : cCt l yX0_init (.code yX0_init cX0_init 1 none) 1 3 60 D cy [.ref h0] [(h0, .inr (0, [.null, .null, .null, .int (iI 0)]))] (fun u => [(h0, .inr (0, [.ref (u 0), .ref (u 1), .ref (u 2), .int (iI 0)])), ((u 0), .inl (cy 0, qAr 0 20 zR)), ((u 1), .inl (cy 1, qAr 1 20 zR)), ((u 2), .inl (cy 0, qAr 0 20 zR))]) := by
  intro sz
  refine Met.ofW (cc := cX0_init) (maxL := 1) (ret := none) (by decide +kernel) rfl ?_
  intro p e s m args below meth c s₁ B hml hv
  obtain ⟨rfl, hsz, hP, hK, hcy, hng, hD0⟩ := hv
  have hx := B.exec
  have hb := B.bytes
  have hr := B.returns
  have hts0 := atoms_spec (ws := qWds (.code yX0_init cX0_init 1 none)) B.pre
  have hts := fun w (h : w ∈ qAW) => hts0 w (List.mem_cons_of_mem _ h)
  have hown : s.vm.findClass RX0 = some m.cls := findClass_of_methodNamed B.named
  have hlocks := B.notSynchronized
  have hin : meth.name = "<init>" := (name_of_methodNamed B.named B.method).1
  subst hsz
  have hD := hD0.self (sz := s.heap.size)
  generalize hAe : va_A [(h0, .inr (0, [.null, .null, .null, .int (iI 0)]))] s.heap.size = A at hD ⊢
  have hA : ∀ q : Nat, s.heap.size ≤ q → A q := fun q h => by rw [← hAe]; exact Or.inr h
  have hS : va_S A s.heap s.heap [] := va_S.rf
  have hl := lv_entry ([.ref h0]) (n := 1) (Nat.le_of_ble_eq_true rfl)
  rw [lg_entry_eq]
  generalize (lg_sl ([.ref h0]) ++ List.replicate (1 - (lg_sl ([.ref h0])).length) Slot.unset).toArray = ls at hl ⊢
  have hl : lv_has ls 1 [(0, .ref h0)] := hl
  refine lv_aload_n hx hb dX0_init_0 rfl (lv_at hl 0 rfl) ?_
  refine W.objInit hx hb hown (hts _ ol_X0) (hts _ oi_w) (hts _ oc_w) rfl (by rw [hml]; exact hl.1) rfl dX0_init_1 (Nat.le_of_ble_eq_true rfl) (Nat.le_of_ble_eq_true rfl) ?_
  refine W.eq (g2 := F0 m 4 ls []) rfl ?_
  refine lv_aload_n hx hb dX0_init_4 rfl (lv_at hl 0 rfl) ?_
  refine lv_bipush (v := 20) hx hb dX0_init_5 (by decide +kernel) ?_
  refine c_newa (t := 0) (N' := 20) hx hb (by decide) rfl (hts _ wA_int) hcy hP hD hS hA (by decide) (by decide) (Nat.le_of_ble_eq_true rfl) (Nat.le_of_ble_eq_true rfl) (Nat.le_of_ble_eq_true rfl) dX0_init_7 (fun q7 H hP hD hS => ?_)
  have hP : va_P D vwCl [(h0, .inr (0, [.null, .null, .null, .int (iI 0)])), (q7, .inl (cy 0, qAr 0 20 zR))] H := hP
  have hD : va_D A [(h0, .inr (0, [.null, .null, .null, .int (iI 0)])), (q7, .inl (cy 0, qAr 0 20 zR))] := hD
  refine W.widen (k := 1) (n := 20) (Nat.le_of_ble_eq_true rfl) (Nat.le_of_ble_eq_true rfl) ?_
  refine va_putF (D := D) (ci := 0) (v := .ref q7) (ty := (.array .int)) (C := RX0) (T := TX0) (N := 4) hx hb hts in_X0 tyX0 tyX0_ok nmX0 hown hK hP hD hS 0 rfl rfl 0 (by decide) (hts _ fl_X0_9) (fun _ h9 => h9) rfl hin rfl (by decide +kernel) rfl rfl (Nat.le_of_ble_eq_true rfl) dX0_init_9 (fun H locs hP hD hS => ?_)
  have hP : va_P D vwCl [(h0, .inr (0, [.ref q7, .null, .null, .int (iI 0)])), (q7, .inl (cy 0, qAr 0 20 zR))] H := hP
  have hD : va_D A [(h0, .inr (0, [.ref q7, .null, .null, .int (iI 0)])), (q7, .inl (cy 0, qAr 0 20 zR))] := hD
  refine lv_aload_n hx hb dX0_init_12 rfl (lv_at hl 0 rfl) ?_
  refine lv_bipush (v := 20) hx hb dX0_init_13 (by decide +kernel) ?_
  refine c_newa (t := 1) (N' := 20) hx hb (by decide) rfl (hts _ wA_char) hcy hP hD hS hA (by decide) (by decide) (Nat.le_of_ble_eq_true rfl) (Nat.le_of_ble_eq_true rfl) (Nat.le_of_ble_eq_true rfl) dX0_init_15 (fun q15 H hP hD hS => ?_)
  have hP : va_P D vwCl [(h0, .inr (0, [.ref q7, .null, .null, .int (iI 0)])), (q7, .inl (cy 0, qAr 0 20 zR)), (q15, .inl (cy 1, qAr 1 20 zR))] H := hP
  have hD : va_D A [(h0, .inr (0, [.ref q7, .null, .null, .int (iI 0)])), (q7, .inl (cy 0, qAr 0 20 zR)), (q15, .inl (cy 1, qAr 1 20 zR))] := hD
  refine W.widen (k := 2) (n := 40) (Nat.le_of_ble_eq_true rfl) (Nat.le_of_ble_eq_true rfl) ?_
  refine va_putF (D := D) (ci := 0) (v := .ref q15) (ty := (.array .char)) (C := RX0) (T := TX0) (N := 4) hx hb hts in_X0 tyX0 tyX0_ok nmX0 hown hK hP hD hS 0 rfl rfl 1 (by decide) (hts _ fl_X0_15) (fun _ h9 => h9) rfl hin rfl (by decide +kernel) rfl rfl (Nat.le_of_ble_eq_true rfl) dX0_init_17 (fun H locs hP hD hS => ?_)
  have hP : va_P D vwCl [(h0, .inr (0, [.ref q7, .ref q15, .null, .int (iI 0)])), (q7, .inl (cy 0, qAr 0 20 zR)), (q15, .inl (cy 1, qAr 1 20 zR))] H := hP
  have hD : va_D A [(h0, .inr (0, [.ref q7, .ref q15, .null, .int (iI 0)])), (q7, .inl (cy 0, qAr 0 20 zR)), (q15, .inl (cy 1, qAr 1 20 zR))] := hD
  refine lv_aload_n hx hb dX0_init_20 rfl (lv_at hl 0 rfl) ?_
  refine lv_bipush (v := 20) hx hb dX0_init_21 (by decide +kernel) ?_
  refine c_newa (t := 0) (N' := 20) hx hb (by decide) rfl (hts _ wA_int) hcy hP hD hS hA (by decide) (by decide) (Nat.le_of_ble_eq_true rfl) (Nat.le_of_ble_eq_true rfl) (Nat.le_of_ble_eq_true rfl) dX0_init_23 (fun q23 H hP hD hS => ?_)
  have hP : va_P D vwCl [(h0, .inr (0, [.ref q7, .ref q15, .null, .int (iI 0)])), (q7, .inl (cy 0, qAr 0 20 zR)), (q15, .inl (cy 1, qAr 1 20 zR)), (q23, .inl (cy 0, qAr 0 20 zR))] H := hP
  have hD : va_D A [(h0, .inr (0, [.ref q7, .ref q15, .null, .int (iI 0)])), (q7, .inl (cy 0, qAr 0 20 zR)), (q15, .inl (cy 1, qAr 1 20 zR)), (q23, .inl (cy 0, qAr 0 20 zR))] := hD
  refine W.widen (k := 3) (n := 60) (Nat.le_of_ble_eq_true rfl) (Nat.le_of_ble_eq_true rfl) ?_
  refine va_putF (D := D) (ci := 0) (v := .ref q23) (ty := (.array .int)) (C := RX0) (T := TX0) (N := 4) hx hb hts in_X0 tyX0 tyX0_ok nmX0 hown hK hP hD hS 0 rfl rfl 2 (by decide) (hts _ fl_X0_19) (fun _ h9 => h9) rfl hin rfl (by decide +kernel) rfl rfl (Nat.le_of_ble_eq_true rfl) dX0_init_25 (fun H locs hP hD hS => ?_)
  have hP : va_P D vwCl [(h0, .inr (0, [.ref q7, .ref q15, .ref q23, .int (iI 0)])), (q7, .inl (cy 0, qAr 0 20 zR)), (q15, .inl (cy 1, qAr 1 20 zR)), (q23, .inl (cy 0, qAr 0 20 zR))] H := hP
  have hD : va_D A [(h0, .inr (0, [.ref q7, .ref q15, .ref q23, .int (iI 0)])), (q7, .inl (cy 0, qAr 0 20 zR)), (q15, .inl (cy 1, qAr 1 20 zR)), (q23, .inl (cy 0, qAr 0 20 zR))] := hD
  refine W.widen (k := 3) (n := 60) (Nat.le_of_ble_eq_true rfl) (Nat.le_of_ble_eq_true rfl) ?_
  exact W.vret hx hb hr (fun t ht hW => ⟨⟨fun k => ([q7, q15, q23] : List Nat).getD k 0, rfl, trivial, by rw [ht]; exact hP, hD⟩, hS.F ht⟩) hS.2.2 dX0_init_28
set_option maxHeartbeats 4000000 in
set_option maxRecDepth 100000 in
theorem c_X1_init (l : Launch) (D : va_G) (cy : Nat → ClassId) (h0 : Nat) : cCt l yX1_init (.code yX1_init cX1_init 1 none) 1 4 120 D cy [.ref h0] [(h0, .inr (1, [.null, .null, .null, .null, .int (iI 0)]))] (fun u => [(h0, .inr (1, [.ref (u 0), .ref (u 1), .ref (u 2), .ref (u 3), .int (iI 0)])), ((u 0), .inl (cy 0, qAr 0 30 zR)), ((u 1), .inl (cy 0, qAr 0 30 zR)), ((u 2), .inl (cy 0, qAr 0 30 zR)), ((u 3), .inl (cy 1, qAr 1 30 zR))]) := by
  intro sz
  refine Met.ofW (cc := cX1_init) (maxL := 1) (ret := none) (by decide +kernel) rfl ?_
  intro p e s m args below meth c s₁ B hml hv
  obtain ⟨rfl, hsz, hP, hK, hcy, hng, hD0⟩ := hv
  have hx := B.exec
  have hb := B.bytes
  have hr := B.returns
  have hts0 := atoms_spec (ws := qWds (.code yX1_init cX1_init 1 none)) B.pre
  have hts := fun w (h : w ∈ qAW) => hts0 w (List.mem_cons_of_mem _ h)
  have hown : s.vm.findClass RX1 = some m.cls := findClass_of_methodNamed B.named
  have hlocks := B.notSynchronized
  have hin : meth.name = "<init>" := (name_of_methodNamed B.named B.method).1
  subst hsz
  have hD := hD0.self (sz := s.heap.size)
  generalize hAe : va_A [(h0, .inr (1, [.null, .null, .null, .null, .int (iI 0)]))] s.heap.size = A at hD ⊢
  have hA : ∀ q : Nat, s.heap.size ≤ q → A q := fun q h => by rw [← hAe]; exact Or.inr h
  have hS : va_S A s.heap s.heap [] := va_S.rf
  have hl := lv_entry ([.ref h0]) (n := 1) (Nat.le_of_ble_eq_true rfl)
  rw [lg_entry_eq]
  generalize (lg_sl ([.ref h0]) ++ List.replicate (1 - (lg_sl ([.ref h0])).length) Slot.unset).toArray = ls at hl ⊢
  have hl : lv_has ls 1 [(0, .ref h0)] := hl
  refine lv_aload_n hx hb dX1_init_0 rfl (lv_at hl 0 rfl) ?_
  refine W.objInit hx hb hown (hts _ ol_X1) (hts _ oi_w) (hts _ oc_w) rfl (by rw [hml]; exact hl.1) rfl dX1_init_1 (Nat.le_of_ble_eq_true rfl) (Nat.le_of_ble_eq_true rfl) ?_
  refine W.eq (g2 := F0 m 4 ls []) rfl ?_
  refine lv_aload_n hx hb dX1_init_4 rfl (lv_at hl 0 rfl) ?_
  refine lv_bipush (v := 30) hx hb dX1_init_5 (by decide +kernel) ?_
  refine c_newa (t := 0) (N' := 30) hx hb (by decide) rfl (hts _ wA_int) hcy hP hD hS hA (by decide) (by decide) (Nat.le_of_ble_eq_true rfl) (Nat.le_of_ble_eq_true rfl) (Nat.le_of_ble_eq_true rfl) dX1_init_7 (fun q7 H hP hD hS => ?_)
  have hP : va_P D vwCl [(h0, .inr (1, [.null, .null, .null, .null, .int (iI 0)])), (q7, .inl (cy 0, qAr 0 30 zR))] H := hP
  have hD : va_D A [(h0, .inr (1, [.null, .null, .null, .null, .int (iI 0)])), (q7, .inl (cy 0, qAr 0 30 zR))] := hD
  refine W.widen (k := 1) (n := 30) (Nat.le_of_ble_eq_true rfl) (Nat.le_of_ble_eq_true rfl) ?_
  refine va_putF (D := D) (ci := 1) (v := .ref q7) (ty := (.array .int)) (C := RX1) (T := TX1) (N := 5) hx hb hts in_X1 tyX1 tyX1_ok nmX1 hown hK hP hD hS 0 rfl rfl 0 (by decide) (hts _ fl_X1_9) (fun _ h9 => h9) rfl hin rfl (by decide +kernel) rfl rfl (Nat.le_of_ble_eq_true rfl) dX1_init_9 (fun H locs hP hD hS => ?_)
  have hP : va_P D vwCl [(h0, .inr (1, [.ref q7, .null, .null, .null, .int (iI 0)])), (q7, .inl (cy 0, qAr 0 30 zR))] H := hP
  have hD : va_D A [(h0, .inr (1, [.ref q7, .null, .null, .null, .int (iI 0)])), (q7, .inl (cy 0, qAr 0 30 zR))] := hD
  refine lv_aload_n hx hb dX1_init_12 rfl (lv_at hl 0 rfl) ?_
  refine lv_bipush (v := 30) hx hb dX1_init_13 (by decide +kernel) ?_
  refine c_newa (t := 0) (N' := 30) hx hb (by decide) rfl (hts _ wA_int) hcy hP hD hS hA (by decide) (by decide) (Nat.le_of_ble_eq_true rfl) (Nat.le_of_ble_eq_true rfl) (Nat.le_of_ble_eq_true rfl) dX1_init_15 (fun q15 H hP hD hS => ?_)
  have hP : va_P D vwCl [(h0, .inr (1, [.ref q7, .null, .null, .null, .int (iI 0)])), (q7, .inl (cy 0, qAr 0 30 zR)), (q15, .inl (cy 0, qAr 0 30 zR))] H := hP
  have hD : va_D A [(h0, .inr (1, [.ref q7, .null, .null, .null, .int (iI 0)])), (q7, .inl (cy 0, qAr 0 30 zR)), (q15, .inl (cy 0, qAr 0 30 zR))] := hD
  refine W.widen (k := 2) (n := 60) (Nat.le_of_ble_eq_true rfl) (Nat.le_of_ble_eq_true rfl) ?_
  refine va_putF (D := D) (ci := 1) (v := .ref q15) (ty := (.array .int)) (C := RX1) (T := TX1) (N := 5) hx hb hts in_X1 tyX1 tyX1_ok nmX1 hown hK hP hD hS 0 rfl rfl 1 (by decide) (hts _ fl_X1_15) (fun _ h9 => h9) rfl hin rfl (by decide +kernel) rfl rfl (Nat.le_of_ble_eq_true rfl) dX1_init_17 (fun H locs hP hD hS => ?_)
  have hP : va_P D vwCl [(h0, .inr (1, [.ref q7, .ref q15, .null, .null, .int (iI 0)])), (q7, .inl (cy 0, qAr 0 30 zR)), (q15, .inl (cy 0, qAr 0 30 zR))] H := hP
  have hD : va_D A [(h0, .inr (1, [.ref q7, .ref q15, .null, .null, .int (iI 0)])), (q7, .inl (cy 0, qAr 0 30 zR)), (q15, .inl (cy 0, qAr 0 30 zR))] := hD
  refine lv_aload_n hx hb dX1_init_20 rfl (lv_at hl 0 rfl) ?_
  refine lv_bipush (v := 30) hx hb dX1_init_21 (by decide +kernel) ?_
  refine c_newa (t := 0) (N' := 30) hx hb (by decide) rfl (hts _ wA_int) hcy hP hD hS hA (by decide) (by decide) (Nat.le_of_ble_eq_true rfl) (Nat.le_of_ble_eq_true rfl) (Nat.le_of_ble_eq_true rfl) dX1_init_23 (fun q23 H hP hD hS => ?_)
  have hP : va_P D vwCl [(h0, .inr (1, [.ref q7, .ref q15, .null, .null, .int (iI 0)])), (q7, .inl (cy 0, qAr 0 30 zR)), (q15, .inl (cy 0, qAr 0 30 zR)), (q23, .inl (cy 0, qAr 0 30 zR))] H := hP
  have hD : va_D A [(h0, .inr (1, [.ref q7, .ref q15, .null, .null, .int (iI 0)])), (q7, .inl (cy 0, qAr 0 30 zR)), (q15, .inl (cy 0, qAr 0 30 zR)), (q23, .inl (cy 0, qAr 0 30 zR))] := hD
  refine W.widen (k := 3) (n := 90) (Nat.le_of_ble_eq_true rfl) (Nat.le_of_ble_eq_true rfl) ?_
  refine va_putF (D := D) (ci := 1) (v := .ref q23) (ty := (.array .int)) (C := RX1) (T := TX1) (N := 5) hx hb hts in_X1 tyX1 tyX1_ok nmX1 hown hK hP hD hS 0 rfl rfl 2 (by decide) (hts _ fl_X1_18) (fun _ h9 => h9) rfl hin rfl (by decide +kernel) rfl rfl (Nat.le_of_ble_eq_true rfl) dX1_init_25 (fun H locs hP hD hS => ?_)
  have hP : va_P D vwCl [(h0, .inr (1, [.ref q7, .ref q15, .ref q23, .null, .int (iI 0)])), (q7, .inl (cy 0, qAr 0 30 zR)), (q15, .inl (cy 0, qAr 0 30 zR)), (q23, .inl (cy 0, qAr 0 30 zR))] H := hP
  have hD : va_D A [(h0, .inr (1, [.ref q7, .ref q15, .ref q23, .null, .int (iI 0)])), (q7, .inl (cy 0, qAr 0 30 zR)), (q15, .inl (cy 0, qAr 0 30 zR)), (q23, .inl (cy 0, qAr 0 30 zR))] := hD
  refine lv_aload_n hx hb dX1_init_28 rfl (lv_at hl 0 rfl) ?_
  refine lv_bipush (v := 30) hx hb dX1_init_29 (by decide +kernel) ?_
  refine c_newa (t := 1) (N' := 30) hx hb (by decide) rfl (hts _ wA_char) hcy hP hD hS hA (by decide) (by decide) (Nat.le_of_ble_eq_true rfl) (Nat.le_of_ble_eq_true rfl) (Nat.le_of_ble_eq_true rfl) dX1_init_31 (fun q31 H hP hD hS => ?_)
  have hP : va_P D vwCl [(h0, .inr (1, [.ref q7, .ref q15, .ref q23, .null, .int (iI 0)])), (q7, .inl (cy 0, qAr 0 30 zR)), (q15, .inl (cy 0, qAr 0 30 zR)), (q23, .inl (cy 0, qAr 0 30 zR)), (q31, .inl (cy 1, qAr 1 30 zR))] H := hP
  have hD : va_D A [(h0, .inr (1, [.ref q7, .ref q15, .ref q23, .null, .int (iI 0)])), (q7, .inl (cy 0, qAr 0 30 zR)), (q15, .inl (cy 0, qAr 0 30 zR)), (q23, .inl (cy 0, qAr 0 30 zR)), (q31, .inl (cy 1, qAr 1 30 zR))] := hD
  refine W.widen (k := 4) (n := 120) (Nat.le_of_ble_eq_true rfl) (Nat.le_of_ble_eq_true rfl) ?_
  refine va_putF (D := D) (ci := 1) (v := .ref q31) (ty := (.array .char)) (C := RX1) (T := TX1) (N := 5) hx hb hts in_X1 tyX1 tyX1_ok nmX1 hown hK hP hD hS 0 rfl rfl 3 (by decide) (hts _ fl_X1_21) (fun _ h9 => h9) rfl hin rfl (by decide +kernel) rfl rfl (Nat.le_of_ble_eq_true rfl) dX1_init_33 (fun H locs hP hD hS => ?_)
  have hP : va_P D vwCl [(h0, .inr (1, [.ref q7, .ref q15, .ref q23, .ref q31, .int (iI 0)])), (q7, .inl (cy 0, qAr 0 30 zR)), (q15, .inl (cy 0, qAr 0 30 zR)), (q23, .inl (cy 0, qAr 0 30 zR)), (q31, .inl (cy 1, qAr 1 30 zR))] H := hP
  have hD : va_D A [(h0, .inr (1, [.ref q7, .ref q15, .ref q23, .ref q31, .int (iI 0)])), (q7, .inl (cy 0, qAr 0 30 zR)), (q15, .inl (cy 0, qAr 0 30 zR)), (q23, .inl (cy 0, qAr 0 30 zR)), (q31, .inl (cy 1, qAr 1 30 zR))] := hD
  refine W.widen (k := 4) (n := 120) (Nat.le_of_ble_eq_true rfl) (Nat.le_of_ble_eq_true rfl) ?_
  exact W.vret hx hb hr (fun t ht hW => ⟨⟨fun k => ([q7, q15, q23, q31] : List Nat).getD k 0, rfl, trivial, by rw [ht]; exact hP, hD⟩, hS.F ht⟩) hS.2.2 dX1_init_36
set_option maxHeartbeats 4000000 in
set_option maxRecDepth 100000 in
theorem c_X2_init (l : Launch) (D : va_G) (cy : Nat → ClassId) (h0 : Nat) : cCt l yX2_init (.code yX2_init cX2_init 1 none) 1 1 1024 D cy [.ref h0] [(h0, .inr (2, [.null, .int (iI 0)]))] (fun u => [(h0, .inr (2, [.ref (u 0), .int (iI 0)])), ((u 0), .inl (cy 3, qAr 3 1024 zR))]) := by
  intro sz
  refine Met.ofW (cc := cX2_init) (maxL := 1) (ret := none) (by decide +kernel) rfl ?_
  intro p e s m args below meth c s₁ B hml hv
  obtain ⟨rfl, hsz, hP, hK, hcy, hng, hD0⟩ := hv
  have hx := B.exec
  have hb := B.bytes
  have hr := B.returns
  have hts0 := atoms_spec (ws := qWds (.code yX2_init cX2_init 1 none)) B.pre
  have hts := fun w (h : w ∈ qAW) => hts0 w (List.mem_cons_of_mem _ h)
  have hown : s.vm.findClass RX2 = some m.cls := findClass_of_methodNamed B.named
  have hlocks := B.notSynchronized
  have hin : meth.name = "<init>" := (name_of_methodNamed B.named B.method).1
  subst hsz
  have hD := hD0.self (sz := s.heap.size)
  generalize hAe : va_A [(h0, .inr (2, [.null, .int (iI 0)]))] s.heap.size = A at hD ⊢
  have hA : ∀ q : Nat, s.heap.size ≤ q → A q := fun q h => by rw [← hAe]; exact Or.inr h
  have hS : va_S A s.heap s.heap [] := va_S.rf
  have hl := lv_entry ([.ref h0]) (n := 1) (Nat.le_of_ble_eq_true rfl)
  rw [lg_entry_eq]
  generalize (lg_sl ([.ref h0]) ++ List.replicate (1 - (lg_sl ([.ref h0])).length) Slot.unset).toArray = ls at hl ⊢
  have hl : lv_has ls 1 [(0, .ref h0)] := hl
  refine lv_aload_n hx hb dX2_init_0 rfl (lv_at hl 0 rfl) ?_
  refine W.objInit hx hb hown (hts _ ol_X2) (hts _ oi_w) (hts _ oc_w) rfl (by rw [hml]; exact hl.1) rfl dX2_init_1 (Nat.le_of_ble_eq_true rfl) (Nat.le_of_ble_eq_true rfl) ?_
  refine W.eq (g2 := F0 m 4 ls []) rfl ?_
  refine lv_aload_n hx hb dX2_init_4 rfl (lv_at hl 0 rfl) ?_
  refine lv_sipush (v := 1024) hx hb dX2_init_5 (by decide +kernel) ?_
  refine c_newa (t := 3) (N' := 1024) hx hb (by decide) rfl (hts _ wA_long) hcy hP hD hS hA (by decide) (by decide) (Nat.le_of_ble_eq_true rfl) (Nat.le_of_ble_eq_true rfl) (Nat.le_of_ble_eq_true rfl) dX2_init_8 (fun q8 H hP hD hS => ?_)
  have hP : va_P D vwCl [(h0, .inr (2, [.null, .int (iI 0)])), (q8, .inl (cy 3, qAr 3 1024 zR))] H := hP
  have hD : va_D A [(h0, .inr (2, [.null, .int (iI 0)])), (q8, .inl (cy 3, qAr 3 1024 zR))] := hD
  refine W.widen (k := 1) (n := 1024) (Nat.le_of_ble_eq_true rfl) (Nat.le_of_ble_eq_true rfl) ?_
  refine va_putF (D := D) (ci := 2) (v := .ref q8) (ty := (.array .long)) (C := RX2) (T := TX2) (N := 2) hx hb hts in_X2 tyX2 tyX2_ok nmX2 hown hK hP hD hS 0 rfl rfl 0 (by decide) (hts _ fl_X2_9) (fun _ h9 => h9) rfl hin rfl (by decide +kernel) rfl rfl (Nat.le_of_ble_eq_true rfl) dX2_init_10 (fun H locs hP hD hS => ?_)
  have hP : va_P D vwCl [(h0, .inr (2, [.ref q8, .int (iI 0)])), (q8, .inl (cy 3, qAr 3 1024 zR))] H := hP
  have hD : va_D A [(h0, .inr (2, [.ref q8, .int (iI 0)])), (q8, .inl (cy 3, qAr 3 1024 zR))] := hD
  refine W.widen (k := 1) (n := 1024) (Nat.le_of_ble_eq_true rfl) (Nat.le_of_ble_eq_true rfl) ?_
  exact W.vret hx hb hr (fun t ht hW => ⟨⟨fun k => ([q8] : List Nat).getD k 0, rfl, trivial, by rw [ht]; exact hP, hD⟩, hS.F ht⟩) hS.2.2 dX2_init_13
/-- an int row, written to the end -/
theorem ar_all (r : Nat → Int32) (h : ∀ j : Nat, j < 20 → r j = iI (-1)) : ∀ cA : ClassId, vp_cell cA (20, .inl r) = vp_cell cA (qAr 0 20 (fun _ => -1)) := by
  intro cA
  show arrV cA 20 (fun j => Value.int (r j)) = arrV cA 20 (fun _ => Value.int (iI (-1)))
  unfold arrV
  congr 1
  apply Array.ext
  · simp
  · intro i h1 h2
    simp at h1 ⊢
    rw [h i h1]
theorem P_last {D : va_G} {ws : va_W} {H : Heap} {q : Nat} {cA : ClassId} {a a' : vp_A} (h : va_P D vwCl (ws ++ [(q, .inl (cA, a))]) H) (e : vp_cell cA a = vp_cell cA a') : va_P D vwCl (ws ++ [(q, .inl (cA, a'))]) H := by
  intro k x hx
  by_cases hk : k < ws.length
  · rw [List.getElem?_append_left hk] at hx
    exact h k x (by rw [List.getElem?_append_left hk]; exact hx)
  · rw [List.getElem?_append_right (by omega)] at hx
    have hz : k - ws.length < 1 := (List.getElem?_eq_some_iff.mp hx).1
    have e0 : k - ws.length = 0 := by omega
    rw [e0] at hx
    cases hx
    have h2 := h k (q, .inl (cA, a)) (by rw [List.getElem?_append_right (by omega), e0]; rfl)
    have h2 : H[q]? = some (vp_cell cA a) := h2
    show H[q]? = some (vp_cell cA a')
    rw [h2, e]
theorem D_last {A : Nat → Prop} {ws : va_W} {q : Nat} {x y : va_E} (h : va_D A (ws ++ [(q, x)])) : va_D A (ws ++ [(q, y)]) := by
  have key : ∀ (k : Nat) (z : Nat × va_E), (ws ++ [(q, y)])[k]? = some z → ∃ z', (ws ++ [(q, x)])[k]? = some z' ∧ z'.1 = z.1 := by
    intro k z hz
    by_cases hk : k < ws.length
    · rw [List.getElem?_append_left hk] at hz
      exact ⟨z, by rw [List.getElem?_append_left hk]; exact hz, rfl⟩
    · rw [List.getElem?_append_right (by omega)] at hz
      have h1 : k - ws.length < 1 := (List.getElem?_eq_some_iff.mp hz).1
      have e0 : k - ws.length = 0 := by omega
      rw [e0] at hz
      cases hz
      exact ⟨(q, x), by rw [List.getElem?_append_right (by omega), e0]; rfl, rfl⟩
  refine ⟨fun i j a b hi hj hab => ?_, fun k z hz => ?_⟩
  · obtain ⟨a', ha, ea⟩ := key i a hi
    obtain ⟨b', hb, eb⟩ := key j b hj
    exact h.1 i j a' b' ha hb (by rw [ea, eb]; exact hab)
  · obtain ⟨z', hz', ez⟩ := key k z hz
    rw [← ez]
    exact h.2 k z' hz'
set_option maxHeartbeats 4000000 in
set_option maxRecDepth 100000 in
theorem c_X4_init (l : Launch) (D : va_G) (cy : Nat → ClassId) (h0 ca : Nat) : cCt l yX4_init (.code yX4_init cX4_init 3 none) 1 4 44 D cy [.ref h0, .ref ca] [(h0, .inr (4, [.null, .null, .null, .null, .null, .int (iI 0), .int (iI 0)]))] (fun u => [(h0, .inr (4, [.ref ca, .ref (u 0), .ref (u 1), .ref (u 2), .ref (u 3), .int (iI 0), .int (iI 0)])), ((u 0), .inl (cy 0, qAr 0 4 zR)), ((u 1), .inl (cy 0, qAr 0 4 zR)), ((u 2), .inl (cy 0, qAr 0 16 zR)), ((u 3), .inl (cy 0, qAr 0 20 (fun _ => -1)))]) := by
  intro sz
  refine Met.ofW (cc := cX4_init) (maxL := 3) (ret := none) (by decide +kernel) rfl ?_
  intro p e s m args below meth c s₁ B hml hv
  obtain ⟨rfl, hsz, hP, hK, hcy, hng, hD0⟩ := hv
  have hx := B.exec
  have hb := B.bytes
  have hr := B.returns
  have hts0 := atoms_spec (ws := qWds (.code yX4_init cX4_init 3 none)) B.pre
  have hts := fun w (h : w ∈ qAW) => hts0 w (List.mem_cons_of_mem _ h)
  have hown : s.vm.findClass RX4 = some m.cls := findClass_of_methodNamed B.named
  have hlocks := B.notSynchronized
  have hin : meth.name = "<init>" := (name_of_methodNamed B.named B.method).1
  subst hsz
  have hD := hD0.self (sz := s.heap.size)
  generalize hAe : va_A [(h0, .inr (4, [.null, .null, .null, .null, .null, .int (iI 0), .int (iI 0)]))] s.heap.size = A at hD ⊢
  have hA : ∀ q : Nat, s.heap.size ≤ q → A q := fun q h => by rw [← hAe]; exact Or.inr h
  have hS : va_S A s.heap s.heap [] := va_S.rf
  have hl := lv_entry ([.ref h0, .ref ca]) (n := 3) (Nat.le_of_ble_eq_true rfl)
  rw [lg_entry_eq]
  generalize (lg_sl ([.ref h0, .ref ca]) ++ List.replicate (3 - (lg_sl ([.ref h0, .ref ca])).length) Slot.unset).toArray = ls at hl ⊢
  have hl : lv_has ls 3 [(0, .ref h0), (1, .ref ca)] := hl
  refine lv_aload_n hx hb dX4_init_0 rfl (lv_at hl 0 rfl) ?_
  refine W.objInit hx hb hown (hts _ ol_X4) (hts _ oi_w) (hts _ oc_w) rfl (by rw [hml]; exact hl.1) rfl dX4_init_1 (Nat.le_of_ble_eq_true rfl) (Nat.le_of_ble_eq_true rfl) ?_
  refine W.eq (g2 := F0 m 4 ls []) rfl ?_
  refine lv_aload_n hx hb dX4_init_4 rfl (lv_at hl 0 rfl) ?_
  refine lv_iconst (v := 4) hx hb dX4_init_5 (by decide) ?_
  refine c_newa (t := 0) (N' := 4) hx hb (by decide) rfl (hts _ wA_int) hcy hP hD hS hA (by decide) (by decide) (Nat.le_of_ble_eq_true rfl) (Nat.le_of_ble_eq_true rfl) (Nat.le_of_ble_eq_true rfl) dX4_init_6 (fun q6 H hP hD hS => ?_)
  have hP : va_P D vwCl [(h0, .inr (4, [.null, .null, .null, .null, .null, .int (iI 0), .int (iI 0)])), (q6, .inl (cy 0, qAr 0 4 zR))] H := hP
  have hD : va_D A [(h0, .inr (4, [.null, .null, .null, .null, .null, .int (iI 0), .int (iI 0)])), (q6, .inl (cy 0, qAr 0 4 zR))] := hD
  refine W.widen (k := 1) (n := 4) (Nat.le_of_ble_eq_true rfl) (Nat.le_of_ble_eq_true rfl) ?_
  refine va_putF (D := D) (ci := 4) (v := .ref q6) (ty := (.array .int)) (C := RX4) (T := TX4) (N := 7) hx hb hts in_X4 tyX4 tyX4_ok nmX4 hown hK hP hD hS 0 rfl rfl 1 (by decide) (hts _ fl_X4_9) (fun _ h9 => h9) rfl hin rfl (by decide +kernel) rfl rfl (Nat.le_of_ble_eq_true rfl) dX4_init_8 (fun H locs hP hD hS => ?_)
  have hP : va_P D vwCl [(h0, .inr (4, [.null, .ref q6, .null, .null, .null, .int (iI 0), .int (iI 0)])), (q6, .inl (cy 0, qAr 0 4 zR))] H := hP
  have hD : va_D A [(h0, .inr (4, [.null, .ref q6, .null, .null, .null, .int (iI 0), .int (iI 0)])), (q6, .inl (cy 0, qAr 0 4 zR))] := hD
  refine lv_aload_n hx hb dX4_init_11 rfl (lv_at hl 0 rfl) ?_
  refine lv_iconst (v := 4) hx hb dX4_init_12 (by decide) ?_
  refine c_newa (t := 0) (N' := 4) hx hb (by decide) rfl (hts _ wA_int) hcy hP hD hS hA (by decide) (by decide) (Nat.le_of_ble_eq_true rfl) (Nat.le_of_ble_eq_true rfl) (Nat.le_of_ble_eq_true rfl) dX4_init_13 (fun q13 H hP hD hS => ?_)
  have hP : va_P D vwCl [(h0, .inr (4, [.null, .ref q6, .null, .null, .null, .int (iI 0), .int (iI 0)])), (q6, .inl (cy 0, qAr 0 4 zR)), (q13, .inl (cy 0, qAr 0 4 zR))] H := hP
  have hD : va_D A [(h0, .inr (4, [.null, .ref q6, .null, .null, .null, .int (iI 0), .int (iI 0)])), (q6, .inl (cy 0, qAr 0 4 zR)), (q13, .inl (cy 0, qAr 0 4 zR))] := hD
  refine W.widen (k := 2) (n := 8) (Nat.le_of_ble_eq_true rfl) (Nat.le_of_ble_eq_true rfl) ?_
  refine va_putF (D := D) (ci := 4) (v := .ref q13) (ty := (.array .int)) (C := RX4) (T := TX4) (N := 7) hx hb hts in_X4 tyX4 tyX4_ok nmX4 hown hK hP hD hS 0 rfl rfl 2 (by decide) (hts _ fl_X4_15) (fun _ h9 => h9) rfl hin rfl (by decide +kernel) rfl rfl (Nat.le_of_ble_eq_true rfl) dX4_init_15 (fun H locs hP hD hS => ?_)
  have hP : va_P D vwCl [(h0, .inr (4, [.null, .ref q6, .ref q13, .null, .null, .int (iI 0), .int (iI 0)])), (q6, .inl (cy 0, qAr 0 4 zR)), (q13, .inl (cy 0, qAr 0 4 zR))] H := hP
  have hD : va_D A [(h0, .inr (4, [.null, .ref q6, .ref q13, .null, .null, .int (iI 0), .int (iI 0)])), (q6, .inl (cy 0, qAr 0 4 zR)), (q13, .inl (cy 0, qAr 0 4 zR))] := hD
  refine lv_aload_n hx hb dX4_init_18 rfl (lv_at hl 0 rfl) ?_
  refine lv_bipush (v := 16) hx hb dX4_init_19 (by decide +kernel) ?_
  refine c_newa (t := 0) (N' := 16) hx hb (by decide) rfl (hts _ wA_int) hcy hP hD hS hA (by decide) (by decide) (Nat.le_of_ble_eq_true rfl) (Nat.le_of_ble_eq_true rfl) (Nat.le_of_ble_eq_true rfl) dX4_init_21 (fun q21 H hP hD hS => ?_)
  have hP : va_P D vwCl [(h0, .inr (4, [.null, .ref q6, .ref q13, .null, .null, .int (iI 0), .int (iI 0)])), (q6, .inl (cy 0, qAr 0 4 zR)), (q13, .inl (cy 0, qAr 0 4 zR)), (q21, .inl (cy 0, qAr 0 16 zR))] H := hP
  have hD : va_D A [(h0, .inr (4, [.null, .ref q6, .ref q13, .null, .null, .int (iI 0), .int (iI 0)])), (q6, .inl (cy 0, qAr 0 4 zR)), (q13, .inl (cy 0, qAr 0 4 zR)), (q21, .inl (cy 0, qAr 0 16 zR))] := hD
  refine W.widen (k := 3) (n := 24) (Nat.le_of_ble_eq_true rfl) (Nat.le_of_ble_eq_true rfl) ?_
  refine va_putF (D := D) (ci := 4) (v := .ref q21) (ty := (.array .int)) (C := RX4) (T := TX4) (N := 7) hx hb hts in_X4 tyX4 tyX4_ok nmX4 hown hK hP hD hS 0 rfl rfl 3 (by decide) (hts _ fl_X4_18) (fun _ h9 => h9) rfl hin rfl (by decide +kernel) rfl rfl (Nat.le_of_ble_eq_true rfl) dX4_init_23 (fun H locs hP hD hS => ?_)
  have hP : va_P D vwCl [(h0, .inr (4, [.null, .ref q6, .ref q13, .ref q21, .null, .int (iI 0), .int (iI 0)])), (q6, .inl (cy 0, qAr 0 4 zR)), (q13, .inl (cy 0, qAr 0 4 zR)), (q21, .inl (cy 0, qAr 0 16 zR))] H := hP
  have hD : va_D A [(h0, .inr (4, [.null, .ref q6, .ref q13, .ref q21, .null, .int (iI 0), .int (iI 0)])), (q6, .inl (cy 0, qAr 0 4 zR)), (q13, .inl (cy 0, qAr 0 4 zR)), (q21, .inl (cy 0, qAr 0 16 zR))] := hD
  refine lv_aload_n hx hb dX4_init_26 rfl (lv_at hl 0 rfl) ?_
  refine lv_bipush (v := 20) hx hb dX4_init_27 (by decide +kernel) ?_
  refine c_newa (t := 0) (N' := 20) hx hb (by decide) rfl (hts _ wA_int) hcy hP hD hS hA (by decide) (by decide) (Nat.le_of_ble_eq_true rfl) (Nat.le_of_ble_eq_true rfl) (Nat.le_of_ble_eq_true rfl) dX4_init_29 (fun q29 H hP hD hS => ?_)
  have hP : va_P D vwCl [(h0, .inr (4, [.null, .ref q6, .ref q13, .ref q21, .null, .int (iI 0), .int (iI 0)])), (q6, .inl (cy 0, qAr 0 4 zR)), (q13, .inl (cy 0, qAr 0 4 zR)), (q21, .inl (cy 0, qAr 0 16 zR)), (q29, .inl (cy 0, qAr 0 20 zR))] H := hP
  have hD : va_D A [(h0, .inr (4, [.null, .ref q6, .ref q13, .ref q21, .null, .int (iI 0), .int (iI 0)])), (q6, .inl (cy 0, qAr 0 4 zR)), (q13, .inl (cy 0, qAr 0 4 zR)), (q21, .inl (cy 0, qAr 0 16 zR)), (q29, .inl (cy 0, qAr 0 20 zR))] := hD
  refine W.widen (k := 4) (n := 44) (Nat.le_of_ble_eq_true rfl) (Nat.le_of_ble_eq_true rfl) ?_
  refine va_putF (D := D) (ci := 4) (v := .ref q29) (ty := (.array .int)) (C := RX4) (T := TX4) (N := 7) hx hb hts in_X4 tyX4 tyX4_ok nmX4 hown hK hP hD hS 0 rfl rfl 4 (by decide) (hts _ fl_X4_21) (fun _ h9 => h9) rfl hin rfl (by decide +kernel) rfl rfl (Nat.le_of_ble_eq_true rfl) dX4_init_31 (fun H locs hP hD hS => ?_)
  have hP : va_P D vwCl [(h0, .inr (4, [.null, .ref q6, .ref q13, .ref q21, .ref q29, .int (iI 0), .int (iI 0)])), (q6, .inl (cy 0, qAr 0 4 zR)), (q13, .inl (cy 0, qAr 0 4 zR)), (q21, .inl (cy 0, qAr 0 16 zR)), (q29, .inl (cy 0, qAr 0 20 zR))] H := hP
  have hD : va_D A [(h0, .inr (4, [.null, .ref q6, .ref q13, .ref q21, .ref q29, .int (iI 0), .int (iI 0)])), (q6, .inl (cy 0, qAr 0 4 zR)), (q13, .inl (cy 0, qAr 0 4 zR)), (q21, .inl (cy 0, qAr 0 16 zR)), (q29, .inl (cy 0, qAr 0 20 zR))] := hD
  refine lv_aload_n hx hb dX4_init_34 rfl (lv_at hl 0 rfl) ?_
  refine lv_aload_n hx hb dX4_init_35 rfl (lv_at hl 1 rfl) ?_
  refine va_putF (D := D) (ci := 4) (v := .ref ca) (ty := (.object "Quaylock$Cargo")) (C := RX4) (T := TX4) (N := 7) hx hb hts in_X4 tyX4 tyX4_ok nmX4 hown hK hP hD hS 0 rfl rfl 0 (by decide) (hts _ fl_X4_24) (fun _ h9 => h9) rfl hin rfl (by decide +kernel) rfl rfl (Nat.le_of_ble_eq_true rfl) dX4_init_36 (fun H locs hP hD hS => ?_)
  have hP : va_P D vwCl [(h0, .inr (4, [.ref ca, .ref q6, .ref q13, .ref q21, .ref q29, .int (iI 0), .int (iI 0)])), (q6, .inl (cy 0, qAr 0 4 zR)), (q13, .inl (cy 0, qAr 0 4 zR)), (q21, .inl (cy 0, qAr 0 16 zR)), (q29, .inl (cy 0, qAr 0 20 zR))] H := hP
  have hD : va_D A [(h0, .inr (4, [.ref ca, .ref q6, .ref q13, .ref q21, .ref q29, .int (iI 0), .int (iI 0)])), (q6, .inl (cy 0, qAr 0 4 zR)), (q13, .inl (cy 0, qAr 0 4 zR)), (q21, .inl (cy 0, qAr 0 16 zR)), (q29, .inl (cy 0, qAr 0 20 zR))] := hD
  refine lv_iconst (v := iI 0) hx hb dX4_init_39 (by decide +kernel) ?_
  refine lv_istore_n (lv' := [(2, .int (iI 0)), (0, .ref h0), (1, .ref ca)]) hx hb dX4_init_40 rfl hl (by decide) rfl (fun ls hl => ?_)
  have e20 : (20 : Int32) = iI 20 := by decide +kernel
  suffices loop : ∀ (n i : Nat) (r : Nat → Int32) (H : Heap) (locs : List Loc) (ls : Array Slot), 20 < i + n → i ≤ 20 → (∀ j : Nat, j < i → r j = iI (-1)) → va_P D vwCl ([(h0, .inr (4, [.ref ca, .ref q6, .ref q13, .ref q21, .ref q29, .int (iI 0), .int (iI 0)])), (q6, .inl (cy 0, qAr 0 4 zR)), (q13, .inl (cy 0, qAr 0 4 zR)), (q21, .inl (cy 0, qAr 0 16 zR))] ++ [(q29, .inl (cy 0, (20, .inl r)))]) H → va_D A ([(h0, .inr (4, [.ref ca, .ref q6, .ref q13, .ref q21, .ref q29, .int (iI 0), .int (iI 0)])), (q6, .inl (cy 0, qAr 0 4 zR)), (q13, .inl (cy 0, qAr 0 4 zR)), (q21, .inl (cy 0, qAr 0 16 zR))] ++ [(q29, .inl (cy 0, (20, .inl r)))]) → va_S A s.heap H locs → lv_has ls 3 [(2, .int (iI (i : Int))), (0, .ref h0), (1, .ref ca)] → W p l e _ s m _ below meth c H locs 4 44 _ (F0 m 41 ls []) by
    exact loop 21 0 (fun _ => iI 0) _ _ _ (by omega) (by omega) (fun j a => by omega) hP hD hS hl
  intro n
  induction n with
  | zero =>
    intro i r H locs ls h1 h2
    omega
  | succ n ih =>
    intro i r H locs ls h1 h2 hr0 hP hD hS hl
    refine lv_iload_n hx hb dX4_init_41 rfl (lv_at hl 0 rfl) ?_
    refine lv_bipush (v := 20) hx hb dX4_init_42 (by decide +kernel) ?_
    refine lv_icmp_ge (tgt := 60) hx hb dX4_init_44 (by decide) (fun cg => ?_) (fun cg => ?_)
    · rw [e20, iI_le (by omega) (by omega)] at cg
      exact W.vret hx hb hr (fun t ht hW => ⟨⟨fun k => ([q6, q13, q21, q29] : List Nat).getD k 0, rfl, trivial, by rw [ht]; exact P_last hP (ar_all r (fun j hj => hr0 j (by omega)) _), D_last hD⟩, hS.F ht⟩) hS.2.2 dX4_init_60
    · rw [e20, iI_le (by omega) (by omega)] at cg
      refine lv_aload_n hx hb dX4_init_47 rfl (lv_at hl 1 rfl) ?_
      refine va_get (D := D) (ci := 4) (v := .ref q29) (C := RX4) (T := TX4) (N := 7) hx hb hts in_X4 hown hK hP 0 rfl rfl 4 (by decide) (hts _ fl_X4_21) (fun _ h9 => h9) rfl dX4_init_48 ?_
      refine lv_iload_n hx hb dX4_init_51 rfl (lv_at hl 0 rfl) ?_
      refine lv_iconst (v := iI (-1)) hx hb dX4_init_52 (by decide +kernel) ?_
      refine va_iast hx hb hK hP hD hS 4 0 rfl rfl (iI_in (n := 20) (by omega) (by omega)) dX4_init_53 (fun H locs hP hD hS => ?_)
      refine lv_iinc (lv' := [(2, .int (iI ((i + 1 : Nat) : Int))), (0, .ref h0), (1, .ref ca)]) (k := 0) hx hb dX4_init_54 hl rfl (by rw [show Int32.ofInt 1 = iI 1 from rfl, iI_add]; congr 1) (by decide) rfl (fun ls hl => ?_)
      refine lv_goto (tgt := 41) hx hb dX4_init_57 (by decide) ?_
      refine ih (i + 1) _ H locs ls (by omega) (by omega) (fun j hj => ?_) hP hD hS hl
      have e : (iI (i : Int)).toNatClampNeg = i := by
        rw [iI_cl (by omega)]
        omega
      rw [e]
      unfold upd
      by_cases q : j = i
      · rw [if_pos q]
      · rw [if_neg q]
        exact hr0 j (by omega)
set_option maxHeartbeats 4000000 in
set_option maxRecDepth 100000 in
theorem c_X3_init (l : Launch) (D : va_G) (cy : Nat → ClassId) (h0 ya tr : Nat) : cCt l yX3_init (.code yX3_init cX3_init 3 none) 2 2 1026 D cy [.ref h0, .ref ya, .ref tr] [(h0, .inr (3, [.null, .null, .null, .long (lI 0)]))] (fun u => [(h0, .inr (3, [.ref ya, .ref tr, .ref (u 0), .long (lI 0)])), ((u 0), .inr (2, [.ref (u 1), .int (iI 0)])), ((u 1), .inl (cy 3, qAr 3 1024 zR))]) := by
  intro sz
  refine Met.ofW (cc := cX3_init) (maxL := 3) (ret := none) (by decide +kernel) rfl ?_
  intro p e s m args below meth c s₁ B hml hv
  obtain ⟨rfl, hsz, hP, hK, hcy, hng, hD0⟩ := hv
  have hx := B.exec
  have hb := B.bytes
  have hr := B.returns
  have hts0 := atoms_spec (ws := qWds (.code yX3_init cX3_init 3 none)) B.pre
  have hts := fun w (h : w ∈ qAW) => hts0 w (List.mem_cons_of_mem _ h)
  have hown : s.vm.findClass RX3 = some m.cls := findClass_of_methodNamed B.named
  have hlocks := B.notSynchronized
  have hin : meth.name = "<init>" := (name_of_methodNamed B.named B.method).1
  subst hsz
  have hD := hD0.self (sz := s.heap.size)
  generalize hAe : va_A [(h0, .inr (3, [.null, .null, .null, .long (lI 0)]))] s.heap.size = A at hD ⊢
  have hA : ∀ q : Nat, s.heap.size ≤ q → A q := fun q h => by rw [← hAe]; exact Or.inr h
  have hS : va_S A s.heap s.heap [] := va_S.rf
  have hl := lv_entry ([.ref h0, .ref ya, .ref tr]) (n := 3) (Nat.le_of_ble_eq_true rfl)
  rw [lg_entry_eq]
  generalize (lg_sl ([.ref h0, .ref ya, .ref tr]) ++ List.replicate (3 - (lg_sl ([.ref h0, .ref ya, .ref tr])).length) Slot.unset).toArray = ls at hl ⊢
  have hl : lv_has ls 3 [(0, .ref h0), (1, .ref ya), (2, .ref tr)] := hl
  refine lv_aload_n hx hb dX3_init_0 rfl (lv_at hl 0 rfl) ?_
  refine W.objInit hx hb hown (hts _ ol_X3) (hts _ oi_w) (hts _ oc_w) rfl (by rw [hml]; exact hl.1) rfl dX3_init_1 (Nat.le_of_ble_eq_true rfl) (Nat.le_of_ble_eq_true rfl) ?_
  refine W.eq (g2 := F0 m 4 ls []) rfl ?_
  refine lv_aload_n hx hb dX3_init_4 rfl (lv_at hl 0 rfl) ?_
  refine va_new (ci := 2) (fs := [.null, .int (iI 0)]) (C := RX2) (T := TX2) (N := 2) hx hb hts in_X2 tyX2 tyX2_ok hown (hts _ kl_X3_11) (hts _ in_st_X2) (hts _ in_it_X2) hK hP hD hS hA rfl (fun j hj => by rcases (show j = 0 ∨ j = 1 by omega) with rfl | rfl <;> first | rfl | (show Value.int 0 = Value.int (iI 0); rw [iI_0]) | (show Value.long 0 = Value.long (lI 0); rw [lI_0])) (Nat.le_of_ble_eq_true rfl) (Nat.le_of_ble_eq_true rfl) dX3_init_5 (fun q5 H hP hD hS => ?_)
  have hP : va_P D vwCl [(h0, .inr (3, [.null, .null, .null, .long (lI 0)])), (q5, .inr (2, [.null, .int (iI 0)]))] H := hP
  have hD : va_D A [(h0, .inr (3, [.null, .null, .null, .long (lI 0)])), (q5, .inr (2, [.null, .int (iI 0)]))] := hD
  refine W.widen (k := 1) (n := 2) (Nat.le_of_ble_eq_true rfl) (Nat.le_of_ble_eq_true rfl) ?_
  refine lv_dup hx hb dX3_init_8 rfl ?_
  refine c_callN (As := []) (rest := [.ref q5, .ref h0]) (wc := [(q5, .inr (2, [.null, .int (iI 0)]))]) (wr := [(h0, .inr (3, [.null, .null, .null, .long (lI 0)]))]) (nL := 3) ⟨hx, hb, hml, hown, hts⟩ (c_X2_init l D cy q5) (co_X2 l) cl_X3_13 (Nat.le_of_ble_eq_true rfl) (Nat.le_of_ble_eq_true rfl) rfl rfl hl.1 (Nat.le_of_ble_eq_true rfl) dX3_init_9 (Nat.le_of_ble_eq_true rfl) (Nat.le_of_ble_eq_true rfl) hK hcy hng hP hD hS hA [1] [0] rfl rfl rfl rfl rfl (by decide) (by decide) (fun u H locs hP hD hS => ?_)
  obtain ⟨u9_0, eu9_0⟩ : ∃ z, z = u 0 := ⟨_, rfl⟩
  simp only [← eu9_0] at hP hD
  have hP : va_P D vwCl [(h0, .inr (3, [.null, .null, .null, .long (lI 0)])), (q5, .inr (2, [.ref u9_0, .int (iI 0)])), (u9_0, .inl (cy 3, qAr 3 1024 zR))] H := hP
  have hD : va_D A [(h0, .inr (3, [.null, .null, .null, .long (lI 0)])), (q5, .inr (2, [.ref u9_0, .int (iI 0)])), (u9_0, .inl (cy 3, qAr 3 1024 zR))] := hD
  refine W.widen (k := 2) (n := 1026) (Nat.le_of_ble_eq_true rfl) (Nat.le_of_ble_eq_true rfl) ?_
  refine va_putF (D := D) (ci := 3) (v := .ref q5) (ty := (.object "Quaylock$Heap")) (C := RX3) (T := TX3) (N := 4) hx hb hts in_X3 tyX3 tyX3_ok nmX3 hown hK hP hD hS 0 rfl rfl 2 (by decide) (hts _ fl_X3_14) (fun _ h9 => h9) rfl hin rfl (by decide +kernel) rfl rfl (Nat.le_of_ble_eq_true rfl) dX3_init_12 (fun H locs hP hD hS => ?_)
  have hP : va_P D vwCl [(h0, .inr (3, [.null, .null, .ref q5, .long (lI 0)])), (q5, .inr (2, [.ref u9_0, .int (iI 0)])), (u9_0, .inl (cy 3, qAr 3 1024 zR))] H := hP
  have hD : va_D A [(h0, .inr (3, [.null, .null, .ref q5, .long (lI 0)])), (q5, .inr (2, [.ref u9_0, .int (iI 0)])), (u9_0, .inl (cy 3, qAr 3 1024 zR))] := hD
  refine lv_aload_n hx hb dX3_init_15 rfl (lv_at hl 0 rfl) ?_
  refine lv_aload_n hx hb dX3_init_16 rfl (lv_at hl 1 rfl) ?_
  refine va_putF (D := D) (ci := 3) (v := .ref ya) (ty := (.object "Quaylock$Yard")) (C := RX3) (T := TX3) (N := 4) hx hb hts in_X3 tyX3 tyX3_ok nmX3 hown hK hP hD hS 0 rfl rfl 0 (by decide) (hts _ fl_X3_18) (fun _ h9 => h9) rfl hin rfl (by decide +kernel) rfl rfl (Nat.le_of_ble_eq_true rfl) dX3_init_17 (fun H locs hP hD hS => ?_)
  have hP : va_P D vwCl [(h0, .inr (3, [.ref ya, .null, .ref q5, .long (lI 0)])), (q5, .inr (2, [.ref u9_0, .int (iI 0)])), (u9_0, .inl (cy 3, qAr 3 1024 zR))] H := hP
  have hD : va_D A [(h0, .inr (3, [.ref ya, .null, .ref q5, .long (lI 0)])), (q5, .inr (2, [.ref u9_0, .int (iI 0)])), (u9_0, .inl (cy 3, qAr 3 1024 zR))] := hD
  refine lv_aload_n hx hb dX3_init_20 rfl (lv_at hl 0 rfl) ?_
  refine lv_aload_n hx hb dX3_init_21 rfl (lv_at hl 2 rfl) ?_
  refine va_putF (D := D) (ci := 3) (v := .ref tr) (ty := (.object "Quaylock$Yard")) (C := RX3) (T := TX3) (N := 4) hx hb hts in_X3 tyX3 tyX3_ok nmX3 hown hK hP hD hS 0 rfl rfl 1 (by decide) (hts _ fl_X3_22) (fun _ h9 => h9) rfl hin rfl (by decide +kernel) rfl rfl (Nat.le_of_ble_eq_true rfl) dX3_init_22 (fun H locs hP hD hS => ?_)
  have hP : va_P D vwCl [(h0, .inr (3, [.ref ya, .ref tr, .ref q5, .long (lI 0)])), (q5, .inr (2, [.ref u9_0, .int (iI 0)])), (u9_0, .inl (cy 3, qAr 3 1024 zR))] H := hP
  have hD : va_D A [(h0, .inr (3, [.ref ya, .ref tr, .ref q5, .long (lI 0)])), (q5, .inr (2, [.ref u9_0, .int (iI 0)])), (u9_0, .inl (cy 3, qAr 3 1024 zR))] := hD
  refine W.widen (k := 2) (n := 1026) (Nat.le_of_ble_eq_true rfl) (Nat.le_of_ble_eq_true rfl) ?_
  exact W.vret hx hb hr (fun t ht hW => ⟨⟨fun k => ([q5, u9_0] : List Nat).getD k 0, rfl, trivial, by rw [ht]; exact hP, hD⟩, hS.F ht⟩) hS.2.2 dX3_init_25
set_option maxHeartbeats 4000000 in
set_option maxRecDepth 100000 in
theorem c_X5_init (l : Launch) (D : va_G) (cy : Nat → ClassId) (h0 : Nat) : cCt l yX5_init (.code yX5_init cX5_init 3 none) 3 22 1321 D cy [.ref h0] [(h0, .inr (5, [.null, .null, .null, .null, .int (iI 0), .int (iI 0), .long (lI 0)]))] (fun u => [(h0, .inr (5, [.ref (u 0), .ref (u 4), .ref (u 9), .ref (u 17), .int (iI 0), .int (iI 0), .long (lI 0)])), ((u 0), .inr (0, [.ref (u 1), .ref (u 2), .ref (u 3), .int (iI 0)])), ((u 1), .inl (cy 0, qAr 0 20 zR)), ((u 2), .inl (cy 1, qAr 1 20 zR)), ((u 3), .inl (cy 0, qAr 0 20 zR)), ((u 4), .inr (4, [.ref (u 0), .ref (u 5), .ref (u 6), .ref (u 7), .ref (u 8), .int (iI 0), .int (iI 0)])), ((u 5), .inl (cy 0, qAr 0 4 zR)), ((u 6), .inl (cy 0, qAr 0 4 zR)), ((u 7), .inl (cy 0, qAr 0 16 zR)), ((u 8), .inl (cy 0, qAr 0 20 (fun _ => -1))), ((u 10), .inr (4, [.ref (u 0), .ref (u 11), .ref (u 12), .ref (u 13), .ref (u 14), .int (iI 0), .int (iI 0)])), ((u 11), .inl (cy 0, qAr 0 4 zR)), ((u 12), .inl (cy 0, qAr 0 4 zR)), ((u 13), .inl (cy 0, qAr 0 16 zR)), ((u 14), .inl (cy 0, qAr 0 20 (fun _ => -1))), ((u 9), .inr (3, [.ref (u 4), .ref (u 10), .ref (u 15), .long (lI 0)])), ((u 15), .inr (2, [.ref (u 16), .int (iI 0)])), ((u 16), .inl (cy 3, qAr 3 1024 zR)), ((u 17), .inr (1, [.ref (u 18), .ref (u 19), .ref (u 20), .ref (u 21), .int (iI 0)])), ((u 18), .inl (cy 0, qAr 0 30 zR)), ((u 19), .inl (cy 0, qAr 0 30 zR)), ((u 20), .inl (cy 0, qAr 0 30 zR)), ((u 21), .inl (cy 1, qAr 1 30 zR))]) := by
  intro sz
  refine Met.ofW (cc := cX5_init) (maxL := 3) (ret := none) (by decide +kernel) rfl ?_
  intro p e s m args below meth c s₁ B hml hv
  obtain ⟨rfl, hsz, hP, hK, hcy, hng, hD0⟩ := hv
  have hx := B.exec
  have hb := B.bytes
  have hr := B.returns
  have hts0 := atoms_spec (ws := qWds (.code yX5_init cX5_init 3 none)) B.pre
  have hts := fun w (h : w ∈ qAW) => hts0 w (List.mem_cons_of_mem _ h)
  have hown : s.vm.findClass RX5 = some m.cls := findClass_of_methodNamed B.named
  have hlocks := B.notSynchronized
  have hin : meth.name = "<init>" := (name_of_methodNamed B.named B.method).1
  subst hsz
  have hD := hD0.self (sz := s.heap.size)
  generalize hAe : va_A [(h0, .inr (5, [.null, .null, .null, .null, .int (iI 0), .int (iI 0), .long (lI 0)]))] s.heap.size = A at hD ⊢
  have hA : ∀ q : Nat, s.heap.size ≤ q → A q := fun q h => by rw [← hAe]; exact Or.inr h
  have hS : va_S A s.heap s.heap [] := va_S.rf
  have hl := lv_entry ([.ref h0]) (n := 3) (Nat.le_of_ble_eq_true rfl)
  rw [lg_entry_eq]
  generalize (lg_sl ([.ref h0]) ++ List.replicate (3 - (lg_sl ([.ref h0])).length) Slot.unset).toArray = ls at hl ⊢
  have hl : lv_has ls 3 [(0, .ref h0)] := hl
  refine lv_aload_n hx hb dX5_init_0 rfl (lv_at hl 0 rfl) ?_
  refine W.objInit hx hb hown (hts _ ol_X5) (hts _ oi_w) (hts _ oc_w) rfl (by rw [hml]; exact hl.1) rfl dX5_init_1 (Nat.le_of_ble_eq_true rfl) (Nat.le_of_ble_eq_true rfl) ?_
  refine W.eq (g2 := F0 m 4 ls []) rfl ?_
  refine va_new (ci := 0) (fs := [.null, .null, .null, .int (iI 0)]) (C := RX0) (T := TX0) (N := 4) hx hb hts in_X0 tyX0 tyX0_ok hown (hts _ kl_X5_7) (hts _ in_st_X0) (hts _ in_it_X0) hK hP hD hS hA rfl (fun j hj => by rcases (show j = 0 ∨ j = 1 ∨ j = 2 ∨ j = 3 by omega) with rfl | rfl | rfl | rfl <;> first | rfl | (show Value.int 0 = Value.int (iI 0); rw [iI_0]) | (show Value.long 0 = Value.long (lI 0); rw [lI_0])) (Nat.le_of_ble_eq_true rfl) (Nat.le_of_ble_eq_true rfl) dX5_init_4 (fun q4 H hP hD hS => ?_)
  have hP : va_P D vwCl [(h0, .inr (5, [.null, .null, .null, .null, .int (iI 0), .int (iI 0), .long (lI 0)])), (q4, .inr (0, [.null, .null, .null, .int (iI 0)]))] H := hP
  have hD : va_D A [(h0, .inr (5, [.null, .null, .null, .null, .int (iI 0), .int (iI 0), .long (lI 0)])), (q4, .inr (0, [.null, .null, .null, .int (iI 0)]))] := hD
  refine W.widen (k := 1) (n := 4) (Nat.le_of_ble_eq_true rfl) (Nat.le_of_ble_eq_true rfl) ?_
  refine lv_dup hx hb dX5_init_7 rfl ?_
  refine c_callN (As := []) (rest := [.ref q4]) (wc := [(q4, .inr (0, [.null, .null, .null, .int (iI 0)]))]) (wr := [(h0, .inr (5, [.null, .null, .null, .null, .int (iI 0), .int (iI 0), .long (lI 0)]))]) (nL := 3) ⟨hx, hb, hml, hown, hts⟩ (c_X0_init l D cy q4) (co_X0 l) cl_X5_9 (Nat.le_of_ble_eq_true rfl) (Nat.le_of_ble_eq_true rfl) rfl rfl hl.1 (Nat.le_of_ble_eq_true rfl) dX5_init_8 (Nat.le_of_ble_eq_true rfl) (Nat.le_of_ble_eq_true rfl) hK hcy hng hP hD hS hA [1] [0] rfl rfl rfl rfl rfl (by decide) (by decide) (fun u H locs hP hD hS => ?_)
  obtain ⟨u8_0, eu8_0⟩ : ∃ z, z = u 0 := ⟨_, rfl⟩
  obtain ⟨u8_1, eu8_1⟩ : ∃ z, z = u 1 := ⟨_, rfl⟩
  obtain ⟨u8_2, eu8_2⟩ : ∃ z, z = u 2 := ⟨_, rfl⟩
  simp only [← eu8_0, ← eu8_1, ← eu8_2] at hP hD
  have hP : va_P D vwCl [(h0, .inr (5, [.null, .null, .null, .null, .int (iI 0), .int (iI 0), .long (lI 0)])), (q4, .inr (0, [.ref u8_0, .ref u8_1, .ref u8_2, .int (iI 0)])), (u8_0, .inl (cy 0, qAr 0 20 zR)), (u8_1, .inl (cy 1, qAr 1 20 zR)), (u8_2, .inl (cy 0, qAr 0 20 zR))] H := hP
  have hD : va_D A [(h0, .inr (5, [.null, .null, .null, .null, .int (iI 0), .int (iI 0), .long (lI 0)])), (q4, .inr (0, [.ref u8_0, .ref u8_1, .ref u8_2, .int (iI 0)])), (u8_0, .inl (cy 0, qAr 0 20 zR)), (u8_1, .inl (cy 1, qAr 1 20 zR)), (u8_2, .inl (cy 0, qAr 0 20 zR))] := hD
  refine W.widen (k := 4) (n := 64) (Nat.le_of_ble_eq_true rfl) (Nat.le_of_ble_eq_true rfl) ?_
  refine lv_astore_n (lv' := [(1, .ref q4), (0, .ref h0)]) hx hb dX5_init_11 rfl hl (by decide) rfl (fun ls hl => ?_)
  refine va_new (ci := 4) (fs := [.null, .null, .null, .null, .null, .int (iI 0), .int (iI 0)]) (C := RX4) (T := TX4) (N := 7) hx hb hts in_X4 tyX4 tyX4_ok hown (hts _ kl_X5_10) (hts _ in_st_X4) (hts _ in_it_X4) hK hP hD hS hA rfl (fun j hj => by rcases (show j = 0 ∨ j = 1 ∨ j = 2 ∨ j = 3 ∨ j = 4 ∨ j = 5 ∨ j = 6 by omega) with rfl | rfl | rfl | rfl | rfl | rfl | rfl <;> first | rfl | (show Value.int 0 = Value.int (iI 0); rw [iI_0]) | (show Value.long 0 = Value.long (lI 0); rw [lI_0])) (Nat.le_of_ble_eq_true rfl) (Nat.le_of_ble_eq_true rfl) dX5_init_12 (fun q12 H hP hD hS => ?_)
  have hP : va_P D vwCl [(h0, .inr (5, [.null, .null, .null, .null, .int (iI 0), .int (iI 0), .long (lI 0)])), (q4, .inr (0, [.ref u8_0, .ref u8_1, .ref u8_2, .int (iI 0)])), (u8_0, .inl (cy 0, qAr 0 20 zR)), (u8_1, .inl (cy 1, qAr 1 20 zR)), (u8_2, .inl (cy 0, qAr 0 20 zR)), (q12, .inr (4, [.null, .null, .null, .null, .null, .int (iI 0), .int (iI 0)]))] H := hP
  have hD : va_D A [(h0, .inr (5, [.null, .null, .null, .null, .int (iI 0), .int (iI 0), .long (lI 0)])), (q4, .inr (0, [.ref u8_0, .ref u8_1, .ref u8_2, .int (iI 0)])), (u8_0, .inl (cy 0, qAr 0 20 zR)), (u8_1, .inl (cy 1, qAr 1 20 zR)), (u8_2, .inl (cy 0, qAr 0 20 zR)), (q12, .inr (4, [.null, .null, .null, .null, .null, .int (iI 0), .int (iI 0)]))] := hD
  refine W.widen (k := 5) (n := 71) (Nat.le_of_ble_eq_true rfl) (Nat.le_of_ble_eq_true rfl) ?_
  refine lv_dup hx hb dX5_init_15 rfl ?_
  refine lv_aload_n hx hb dX5_init_16 rfl (lv_at hl 0 rfl) ?_
  refine c_callI (As := [.ref q4]) (rest := [.ref q12]) (wc := [(q12, .inr (4, [.null, .null, .null, .null, .null, .int (iI 0), .int (iI 0)]))]) (wr := [(h0, .inr (5, [.null, .null, .null, .null, .int (iI 0), .int (iI 0), .long (lI 0)])), (q4, .inr (0, [.ref u8_0, .ref u8_1, .ref u8_2, .int (iI 0)])), (u8_0, .inl (cy 0, qAr 0 20 zR)), (u8_1, .inl (cy 1, qAr 1 20 zR)), (u8_2, .inl (cy 0, qAr 0 20 zR))]) (nL := 3) ⟨hx, hb, hml, hown, hts⟩ (c_X4_init l D cy q12 q4) (co_X4 l) cl_X5_12 (Nat.le_of_ble_eq_true rfl) (Nat.le_of_ble_eq_true rfl) rfl rfl hl.1 (Nat.le_of_ble_eq_true rfl) dX5_init_17 (Nat.le_of_ble_eq_true rfl) (Nat.le_of_ble_eq_true rfl) hK hcy hng hP hD hS hA [5] [0, 1, 2, 3, 4] rfl rfl rfl rfl rfl (by decide) (by decide) (fun u H locs hP hD hS => ?_)
  obtain ⟨u17_0, eu17_0⟩ : ∃ z, z = u 0 := ⟨_, rfl⟩
  obtain ⟨u17_1, eu17_1⟩ : ∃ z, z = u 1 := ⟨_, rfl⟩
  obtain ⟨u17_2, eu17_2⟩ : ∃ z, z = u 2 := ⟨_, rfl⟩
  obtain ⟨u17_3, eu17_3⟩ : ∃ z, z = u 3 := ⟨_, rfl⟩
  simp only [← eu17_0, ← eu17_1, ← eu17_2, ← eu17_3] at hP hD
  have hP : va_P D vwCl [(h0, .inr (5, [.null, .null, .null, .null, .int (iI 0), .int (iI 0), .long (lI 0)])), (q4, .inr (0, [.ref u8_0, .ref u8_1, .ref u8_2, .int (iI 0)])), (u8_0, .inl (cy 0, qAr 0 20 zR)), (u8_1, .inl (cy 1, qAr 1 20 zR)), (u8_2, .inl (cy 0, qAr 0 20 zR)), (q12, .inr (4, [.ref q4, .ref u17_0, .ref u17_1, .ref u17_2, .ref u17_3, .int (iI 0), .int (iI 0)])), (u17_0, .inl (cy 0, qAr 0 4 zR)), (u17_1, .inl (cy 0, qAr 0 4 zR)), (u17_2, .inl (cy 0, qAr 0 16 zR)), (u17_3, .inl (cy 0, qAr 0 20 (fun _ => -1)))] H := hP
  have hD : va_D A [(h0, .inr (5, [.null, .null, .null, .null, .int (iI 0), .int (iI 0), .long (lI 0)])), (q4, .inr (0, [.ref u8_0, .ref u8_1, .ref u8_2, .int (iI 0)])), (u8_0, .inl (cy 0, qAr 0 20 zR)), (u8_1, .inl (cy 1, qAr 1 20 zR)), (u8_2, .inl (cy 0, qAr 0 20 zR)), (q12, .inr (4, [.ref q4, .ref u17_0, .ref u17_1, .ref u17_2, .ref u17_3, .int (iI 0), .int (iI 0)])), (u17_0, .inl (cy 0, qAr 0 4 zR)), (u17_1, .inl (cy 0, qAr 0 4 zR)), (u17_2, .inl (cy 0, qAr 0 16 zR)), (u17_3, .inl (cy 0, qAr 0 20 (fun _ => -1)))] := hD
  refine W.widen (k := 9) (n := 115) (Nat.le_of_ble_eq_true rfl) (Nat.le_of_ble_eq_true rfl) ?_
  refine lv_astore_n (lv' := [(2, .ref q12), (1, .ref q4), (0, .ref h0)]) hx hb dX5_init_20 rfl hl (by decide) rfl (fun ls hl => ?_)
  refine lv_aload_n hx hb dX5_init_21 rfl (lv_at hl 2 rfl) ?_
  refine lv_aload_n hx hb dX5_init_22 rfl (lv_at hl 1 rfl) ?_
  refine va_putF (D := D) (ci := 5) (v := .ref q4) (ty := (.object "Quaylock$Cargo")) (C := RX5) (T := TX5) (N := 7) hx hb hts in_X5 tyX5 tyX5_ok nmX5 hown hK hP hD hS 0 rfl rfl 0 (by decide) (hts _ fl_X5_15) (fun _ h9 => h9) rfl hin rfl (by decide +kernel) rfl rfl (Nat.le_of_ble_eq_true rfl) dX5_init_23 (fun H locs hP hD hS => ?_)
  have hP : va_P D vwCl [(h0, .inr (5, [.ref q4, .null, .null, .null, .int (iI 0), .int (iI 0), .long (lI 0)])), (q4, .inr (0, [.ref u8_0, .ref u8_1, .ref u8_2, .int (iI 0)])), (u8_0, .inl (cy 0, qAr 0 20 zR)), (u8_1, .inl (cy 1, qAr 1 20 zR)), (u8_2, .inl (cy 0, qAr 0 20 zR)), (q12, .inr (4, [.ref q4, .ref u17_0, .ref u17_1, .ref u17_2, .ref u17_3, .int (iI 0), .int (iI 0)])), (u17_0, .inl (cy 0, qAr 0 4 zR)), (u17_1, .inl (cy 0, qAr 0 4 zR)), (u17_2, .inl (cy 0, qAr 0 16 zR)), (u17_3, .inl (cy 0, qAr 0 20 (fun _ => -1)))] H := hP
  have hD : va_D A [(h0, .inr (5, [.ref q4, .null, .null, .null, .int (iI 0), .int (iI 0), .long (lI 0)])), (q4, .inr (0, [.ref u8_0, .ref u8_1, .ref u8_2, .int (iI 0)])), (u8_0, .inl (cy 0, qAr 0 20 zR)), (u8_1, .inl (cy 1, qAr 1 20 zR)), (u8_2, .inl (cy 0, qAr 0 20 zR)), (q12, .inr (4, [.ref q4, .ref u17_0, .ref u17_1, .ref u17_2, .ref u17_3, .int (iI 0), .int (iI 0)])), (u17_0, .inl (cy 0, qAr 0 4 zR)), (u17_1, .inl (cy 0, qAr 0 4 zR)), (u17_2, .inl (cy 0, qAr 0 16 zR)), (u17_3, .inl (cy 0, qAr 0 20 (fun _ => -1)))] := hD
  refine lv_aload_n hx hb dX5_init_26 rfl (lv_at hl 2 rfl) ?_
  refine lv_aload_n hx hb dX5_init_27 rfl (lv_at hl 0 rfl) ?_
  refine va_putF (D := D) (ci := 5) (v := .ref q12) (ty := (.object "Quaylock$Yard")) (C := RX5) (T := TX5) (N := 7) hx hb hts in_X5 tyX5 tyX5_ok nmX5 hown hK hP hD hS 0 rfl rfl 1 (by decide) (hts _ fl_X5_21) (fun _ h9 => h9) rfl hin rfl (by decide +kernel) rfl rfl (Nat.le_of_ble_eq_true rfl) dX5_init_28 (fun H locs hP hD hS => ?_)
  have hP : va_P D vwCl [(h0, .inr (5, [.ref q4, .ref q12, .null, .null, .int (iI 0), .int (iI 0), .long (lI 0)])), (q4, .inr (0, [.ref u8_0, .ref u8_1, .ref u8_2, .int (iI 0)])), (u8_0, .inl (cy 0, qAr 0 20 zR)), (u8_1, .inl (cy 1, qAr 1 20 zR)), (u8_2, .inl (cy 0, qAr 0 20 zR)), (q12, .inr (4, [.ref q4, .ref u17_0, .ref u17_1, .ref u17_2, .ref u17_3, .int (iI 0), .int (iI 0)])), (u17_0, .inl (cy 0, qAr 0 4 zR)), (u17_1, .inl (cy 0, qAr 0 4 zR)), (u17_2, .inl (cy 0, qAr 0 16 zR)), (u17_3, .inl (cy 0, qAr 0 20 (fun _ => -1)))] H := hP
  have hD : va_D A [(h0, .inr (5, [.ref q4, .ref q12, .null, .null, .int (iI 0), .int (iI 0), .long (lI 0)])), (q4, .inr (0, [.ref u8_0, .ref u8_1, .ref u8_2, .int (iI 0)])), (u8_0, .inl (cy 0, qAr 0 20 zR)), (u8_1, .inl (cy 1, qAr 1 20 zR)), (u8_2, .inl (cy 0, qAr 0 20 zR)), (q12, .inr (4, [.ref q4, .ref u17_0, .ref u17_1, .ref u17_2, .ref u17_3, .int (iI 0), .int (iI 0)])), (u17_0, .inl (cy 0, qAr 0 4 zR)), (u17_1, .inl (cy 0, qAr 0 4 zR)), (u17_2, .inl (cy 0, qAr 0 16 zR)), (u17_3, .inl (cy 0, qAr 0 20 (fun _ => -1)))] := hD
  refine lv_aload_n hx hb dX5_init_31 rfl (lv_at hl 2 rfl) ?_
  refine va_new (ci := 3) (fs := [.null, .null, .null, .long (lI 0)]) (C := RX3) (T := TX3) (N := 4) hx hb hts in_X3 tyX3 tyX3_ok hown (hts _ kl_X5_25) (hts _ in_st_X3) (hts _ in_it_X3) hK hP hD hS hA rfl (fun j hj => by rcases (show j = 0 ∨ j = 1 ∨ j = 2 ∨ j = 3 by omega) with rfl | rfl | rfl | rfl <;> first | rfl | (show Value.int 0 = Value.int (iI 0); rw [iI_0]) | (show Value.long 0 = Value.long (lI 0); rw [lI_0])) (Nat.le_of_ble_eq_true rfl) (Nat.le_of_ble_eq_true rfl) dX5_init_32 (fun q32 H hP hD hS => ?_)
  have hP : va_P D vwCl [(h0, .inr (5, [.ref q4, .ref q12, .null, .null, .int (iI 0), .int (iI 0), .long (lI 0)])), (q4, .inr (0, [.ref u8_0, .ref u8_1, .ref u8_2, .int (iI 0)])), (u8_0, .inl (cy 0, qAr 0 20 zR)), (u8_1, .inl (cy 1, qAr 1 20 zR)), (u8_2, .inl (cy 0, qAr 0 20 zR)), (q12, .inr (4, [.ref q4, .ref u17_0, .ref u17_1, .ref u17_2, .ref u17_3, .int (iI 0), .int (iI 0)])), (u17_0, .inl (cy 0, qAr 0 4 zR)), (u17_1, .inl (cy 0, qAr 0 4 zR)), (u17_2, .inl (cy 0, qAr 0 16 zR)), (u17_3, .inl (cy 0, qAr 0 20 (fun _ => -1))), (q32, .inr (3, [.null, .null, .null, .long (lI 0)]))] H := hP
  have hD : va_D A [(h0, .inr (5, [.ref q4, .ref q12, .null, .null, .int (iI 0), .int (iI 0), .long (lI 0)])), (q4, .inr (0, [.ref u8_0, .ref u8_1, .ref u8_2, .int (iI 0)])), (u8_0, .inl (cy 0, qAr 0 20 zR)), (u8_1, .inl (cy 1, qAr 1 20 zR)), (u8_2, .inl (cy 0, qAr 0 20 zR)), (q12, .inr (4, [.ref q4, .ref u17_0, .ref u17_1, .ref u17_2, .ref u17_3, .int (iI 0), .int (iI 0)])), (u17_0, .inl (cy 0, qAr 0 4 zR)), (u17_1, .inl (cy 0, qAr 0 4 zR)), (u17_2, .inl (cy 0, qAr 0 16 zR)), (u17_3, .inl (cy 0, qAr 0 20 (fun _ => -1))), (q32, .inr (3, [.null, .null, .null, .long (lI 0)]))] := hD
  refine W.widen (k := 10) (n := 119) (Nat.le_of_ble_eq_true rfl) (Nat.le_of_ble_eq_true rfl) ?_
  refine lv_dup hx hb dX5_init_35 rfl ?_
  refine lv_aload_n hx hb dX5_init_36 rfl (lv_at hl 0 rfl) ?_
  refine va_new (ci := 4) (fs := [.null, .null, .null, .null, .null, .int (iI 0), .int (iI 0)]) (C := RX4) (T := TX4) (N := 7) hx hb hts in_X4 tyX4 tyX4_ok hown (hts _ kl_X5_10) (hts _ in_st_X4) (hts _ in_it_X4) hK hP hD hS hA rfl (fun j hj => by rcases (show j = 0 ∨ j = 1 ∨ j = 2 ∨ j = 3 ∨ j = 4 ∨ j = 5 ∨ j = 6 by omega) with rfl | rfl | rfl | rfl | rfl | rfl | rfl <;> first | rfl | (show Value.int 0 = Value.int (iI 0); rw [iI_0]) | (show Value.long 0 = Value.long (lI 0); rw [lI_0])) (Nat.le_of_ble_eq_true rfl) (Nat.le_of_ble_eq_true rfl) dX5_init_37 (fun q37 H hP hD hS => ?_)
  have hP : va_P D vwCl [(h0, .inr (5, [.ref q4, .ref q12, .null, .null, .int (iI 0), .int (iI 0), .long (lI 0)])), (q4, .inr (0, [.ref u8_0, .ref u8_1, .ref u8_2, .int (iI 0)])), (u8_0, .inl (cy 0, qAr 0 20 zR)), (u8_1, .inl (cy 1, qAr 1 20 zR)), (u8_2, .inl (cy 0, qAr 0 20 zR)), (q12, .inr (4, [.ref q4, .ref u17_0, .ref u17_1, .ref u17_2, .ref u17_3, .int (iI 0), .int (iI 0)])), (u17_0, .inl (cy 0, qAr 0 4 zR)), (u17_1, .inl (cy 0, qAr 0 4 zR)), (u17_2, .inl (cy 0, qAr 0 16 zR)), (u17_3, .inl (cy 0, qAr 0 20 (fun _ => -1))), (q32, .inr (3, [.null, .null, .null, .long (lI 0)])), (q37, .inr (4, [.null, .null, .null, .null, .null, .int (iI 0), .int (iI 0)]))] H := hP
  have hD : va_D A [(h0, .inr (5, [.ref q4, .ref q12, .null, .null, .int (iI 0), .int (iI 0), .long (lI 0)])), (q4, .inr (0, [.ref u8_0, .ref u8_1, .ref u8_2, .int (iI 0)])), (u8_0, .inl (cy 0, qAr 0 20 zR)), (u8_1, .inl (cy 1, qAr 1 20 zR)), (u8_2, .inl (cy 0, qAr 0 20 zR)), (q12, .inr (4, [.ref q4, .ref u17_0, .ref u17_1, .ref u17_2, .ref u17_3, .int (iI 0), .int (iI 0)])), (u17_0, .inl (cy 0, qAr 0 4 zR)), (u17_1, .inl (cy 0, qAr 0 4 zR)), (u17_2, .inl (cy 0, qAr 0 16 zR)), (u17_3, .inl (cy 0, qAr 0 20 (fun _ => -1))), (q32, .inr (3, [.null, .null, .null, .long (lI 0)])), (q37, .inr (4, [.null, .null, .null, .null, .null, .int (iI 0), .int (iI 0)]))] := hD
  refine W.widen (k := 11) (n := 126) (Nat.le_of_ble_eq_true rfl) (Nat.le_of_ble_eq_true rfl) ?_
  refine lv_dup hx hb dX5_init_40 rfl ?_
  refine lv_aload_n hx hb dX5_init_41 rfl (lv_at hl 1 rfl) ?_
  refine c_callI (As := [.ref q4]) (rest := [.ref q37, .ref q12, .ref q32, .ref q32, .ref h0]) (wc := [(q37, .inr (4, [.null, .null, .null, .null, .null, .int (iI 0), .int (iI 0)]))]) (wr := [(h0, .inr (5, [.ref q4, .ref q12, .null, .null, .int (iI 0), .int (iI 0), .long (lI 0)])), (q4, .inr (0, [.ref u8_0, .ref u8_1, .ref u8_2, .int (iI 0)])), (u8_0, .inl (cy 0, qAr 0 20 zR)), (u8_1, .inl (cy 1, qAr 1 20 zR)), (u8_2, .inl (cy 0, qAr 0 20 zR)), (q12, .inr (4, [.ref q4, .ref u17_0, .ref u17_1, .ref u17_2, .ref u17_3, .int (iI 0), .int (iI 0)])), (u17_0, .inl (cy 0, qAr 0 4 zR)), (u17_1, .inl (cy 0, qAr 0 4 zR)), (u17_2, .inl (cy 0, qAr 0 16 zR)), (u17_3, .inl (cy 0, qAr 0 20 (fun _ => -1))), (q32, .inr (3, [.null, .null, .null, .long (lI 0)]))]) (nL := 3) ⟨hx, hb, hml, hown, hts⟩ (c_X4_init l D cy q37 q4) (co_X4 l) cl_X5_12 (Nat.le_of_ble_eq_true rfl) (Nat.le_of_ble_eq_true rfl) rfl rfl hl.1 (Nat.le_of_ble_eq_true rfl) dX5_init_42 (Nat.le_of_ble_eq_true rfl) (Nat.le_of_ble_eq_true rfl) hK hcy hng hP hD hS hA [11] [0, 1, 2, 3, 4, 5, 6, 7, 8, 9, 10] rfl rfl rfl rfl rfl (by decide) (by decide) (fun u H locs hP hD hS => ?_)
  obtain ⟨u42_0, eu42_0⟩ : ∃ z, z = u 0 := ⟨_, rfl⟩
  obtain ⟨u42_1, eu42_1⟩ : ∃ z, z = u 1 := ⟨_, rfl⟩
  obtain ⟨u42_2, eu42_2⟩ : ∃ z, z = u 2 := ⟨_, rfl⟩
  obtain ⟨u42_3, eu42_3⟩ : ∃ z, z = u 3 := ⟨_, rfl⟩
  simp only [← eu42_0, ← eu42_1, ← eu42_2, ← eu42_3] at hP hD
  have hP : va_P D vwCl [(h0, .inr (5, [.ref q4, .ref q12, .null, .null, .int (iI 0), .int (iI 0), .long (lI 0)])), (q4, .inr (0, [.ref u8_0, .ref u8_1, .ref u8_2, .int (iI 0)])), (u8_0, .inl (cy 0, qAr 0 20 zR)), (u8_1, .inl (cy 1, qAr 1 20 zR)), (u8_2, .inl (cy 0, qAr 0 20 zR)), (q12, .inr (4, [.ref q4, .ref u17_0, .ref u17_1, .ref u17_2, .ref u17_3, .int (iI 0), .int (iI 0)])), (u17_0, .inl (cy 0, qAr 0 4 zR)), (u17_1, .inl (cy 0, qAr 0 4 zR)), (u17_2, .inl (cy 0, qAr 0 16 zR)), (u17_3, .inl (cy 0, qAr 0 20 (fun _ => -1))), (q32, .inr (3, [.null, .null, .null, .long (lI 0)])), (q37, .inr (4, [.ref q4, .ref u42_0, .ref u42_1, .ref u42_2, .ref u42_3, .int (iI 0), .int (iI 0)])), (u42_0, .inl (cy 0, qAr 0 4 zR)), (u42_1, .inl (cy 0, qAr 0 4 zR)), (u42_2, .inl (cy 0, qAr 0 16 zR)), (u42_3, .inl (cy 0, qAr 0 20 (fun _ => -1)))] H := hP
  have hD : va_D A [(h0, .inr (5, [.ref q4, .ref q12, .null, .null, .int (iI 0), .int (iI 0), .long (lI 0)])), (q4, .inr (0, [.ref u8_0, .ref u8_1, .ref u8_2, .int (iI 0)])), (u8_0, .inl (cy 0, qAr 0 20 zR)), (u8_1, .inl (cy 1, qAr 1 20 zR)), (u8_2, .inl (cy 0, qAr 0 20 zR)), (q12, .inr (4, [.ref q4, .ref u17_0, .ref u17_1, .ref u17_2, .ref u17_3, .int (iI 0), .int (iI 0)])), (u17_0, .inl (cy 0, qAr 0 4 zR)), (u17_1, .inl (cy 0, qAr 0 4 zR)), (u17_2, .inl (cy 0, qAr 0 16 zR)), (u17_3, .inl (cy 0, qAr 0 20 (fun _ => -1))), (q32, .inr (3, [.null, .null, .null, .long (lI 0)])), (q37, .inr (4, [.ref q4, .ref u42_0, .ref u42_1, .ref u42_2, .ref u42_3, .int (iI 0), .int (iI 0)])), (u42_0, .inl (cy 0, qAr 0 4 zR)), (u42_1, .inl (cy 0, qAr 0 4 zR)), (u42_2, .inl (cy 0, qAr 0 16 zR)), (u42_3, .inl (cy 0, qAr 0 20 (fun _ => -1)))] := hD
  refine W.widen (k := 15) (n := 170) (Nat.le_of_ble_eq_true rfl) (Nat.le_of_ble_eq_true rfl) ?_
  refine c_callI (As := [.ref q12, .ref q37]) (rest := [.ref q32, .ref h0]) (wc := [(q32, .inr (3, [.null, .null, .null, .long (lI 0)]))]) (wr := [(h0, .inr (5, [.ref q4, .ref q12, .null, .null, .int (iI 0), .int (iI 0), .long (lI 0)])), (q4, .inr (0, [.ref u8_0, .ref u8_1, .ref u8_2, .int (iI 0)])), (u8_0, .inl (cy 0, qAr 0 20 zR)), (u8_1, .inl (cy 1, qAr 1 20 zR)), (u8_2, .inl (cy 0, qAr 0 20 zR)), (q12, .inr (4, [.ref q4, .ref u17_0, .ref u17_1, .ref u17_2, .ref u17_3, .int (iI 0), .int (iI 0)])), (u17_0, .inl (cy 0, qAr 0 4 zR)), (u17_1, .inl (cy 0, qAr 0 4 zR)), (u17_2, .inl (cy 0, qAr 0 16 zR)), (u17_3, .inl (cy 0, qAr 0 20 (fun _ => -1))), (q37, .inr (4, [.ref q4, .ref u42_0, .ref u42_1, .ref u42_2, .ref u42_3, .int (iI 0), .int (iI 0)])), (u42_0, .inl (cy 0, qAr 0 4 zR)), (u42_1, .inl (cy 0, qAr 0 4 zR)), (u42_2, .inl (cy 0, qAr 0 16 zR)), (u42_3, .inl (cy 0, qAr 0 20 (fun _ => -1)))]) (nL := 3) ⟨hx, hb, hml, hown, hts⟩ (c_X3_init l D cy q32 q12 q37) (co_X3 l) cl_X5_27 (Nat.le_of_ble_eq_true rfl) (Nat.le_of_ble_eq_true rfl) rfl rfl hl.1 (Nat.le_of_ble_eq_true rfl) dX5_init_45 (Nat.le_of_ble_eq_true rfl) (Nat.le_of_ble_eq_true rfl) hK hcy hng hP hD hS hA [10] [0, 1, 2, 3, 4, 5, 6, 7, 8, 9, 11, 12, 13, 14, 15] rfl rfl rfl rfl rfl (by decide) (by decide) (fun u H locs hP hD hS => ?_)
  obtain ⟨u45_0, eu45_0⟩ : ∃ z, z = u 0 := ⟨_, rfl⟩
  obtain ⟨u45_1, eu45_1⟩ : ∃ z, z = u 1 := ⟨_, rfl⟩
  simp only [← eu45_0, ← eu45_1] at hP hD
  have hP : va_P D vwCl [(h0, .inr (5, [.ref q4, .ref q12, .null, .null, .int (iI 0), .int (iI 0), .long (lI 0)])), (q4, .inr (0, [.ref u8_0, .ref u8_1, .ref u8_2, .int (iI 0)])), (u8_0, .inl (cy 0, qAr 0 20 zR)), (u8_1, .inl (cy 1, qAr 1 20 zR)), (u8_2, .inl (cy 0, qAr 0 20 zR)), (q12, .inr (4, [.ref q4, .ref u17_0, .ref u17_1, .ref u17_2, .ref u17_3, .int (iI 0), .int (iI 0)])), (u17_0, .inl (cy 0, qAr 0 4 zR)), (u17_1, .inl (cy 0, qAr 0 4 zR)), (u17_2, .inl (cy 0, qAr 0 16 zR)), (u17_3, .inl (cy 0, qAr 0 20 (fun _ => -1))), (q37, .inr (4, [.ref q4, .ref u42_0, .ref u42_1, .ref u42_2, .ref u42_3, .int (iI 0), .int (iI 0)])), (u42_0, .inl (cy 0, qAr 0 4 zR)), (u42_1, .inl (cy 0, qAr 0 4 zR)), (u42_2, .inl (cy 0, qAr 0 16 zR)), (u42_3, .inl (cy 0, qAr 0 20 (fun _ => -1))), (q32, .inr (3, [.ref q12, .ref q37, .ref u45_0, .long (lI 0)])), (u45_0, .inr (2, [.ref u45_1, .int (iI 0)])), (u45_1, .inl (cy 3, qAr 3 1024 zR))] H := hP
  have hD : va_D A [(h0, .inr (5, [.ref q4, .ref q12, .null, .null, .int (iI 0), .int (iI 0), .long (lI 0)])), (q4, .inr (0, [.ref u8_0, .ref u8_1, .ref u8_2, .int (iI 0)])), (u8_0, .inl (cy 0, qAr 0 20 zR)), (u8_1, .inl (cy 1, qAr 1 20 zR)), (u8_2, .inl (cy 0, qAr 0 20 zR)), (q12, .inr (4, [.ref q4, .ref u17_0, .ref u17_1, .ref u17_2, .ref u17_3, .int (iI 0), .int (iI 0)])), (u17_0, .inl (cy 0, qAr 0 4 zR)), (u17_1, .inl (cy 0, qAr 0 4 zR)), (u17_2, .inl (cy 0, qAr 0 16 zR)), (u17_3, .inl (cy 0, qAr 0 20 (fun _ => -1))), (q37, .inr (4, [.ref q4, .ref u42_0, .ref u42_1, .ref u42_2, .ref u42_3, .int (iI 0), .int (iI 0)])), (u42_0, .inl (cy 0, qAr 0 4 zR)), (u42_1, .inl (cy 0, qAr 0 4 zR)), (u42_2, .inl (cy 0, qAr 0 16 zR)), (u42_3, .inl (cy 0, qAr 0 20 (fun _ => -1))), (q32, .inr (3, [.ref q12, .ref q37, .ref u45_0, .long (lI 0)])), (u45_0, .inr (2, [.ref u45_1, .int (iI 0)])), (u45_1, .inl (cy 3, qAr 3 1024 zR))] := hD
  refine W.widen (k := 17) (n := 1196) (Nat.le_of_ble_eq_true rfl) (Nat.le_of_ble_eq_true rfl) ?_
  refine va_putF (D := D) (ci := 5) (v := .ref q32) (ty := (.object "Quaylock$Planner")) (C := RX5) (T := TX5) (N := 7) hx hb hts in_X5 tyX5 tyX5_ok nmX5 hown hK hP hD hS 0 rfl rfl 2 (by decide) (hts _ fl_X5_30) (fun _ h9 => h9) rfl hin rfl (by decide +kernel) rfl rfl (Nat.le_of_ble_eq_true rfl) dX5_init_48 (fun H locs hP hD hS => ?_)
  have hP : va_P D vwCl [(h0, .inr (5, [.ref q4, .ref q12, .ref q32, .null, .int (iI 0), .int (iI 0), .long (lI 0)])), (q4, .inr (0, [.ref u8_0, .ref u8_1, .ref u8_2, .int (iI 0)])), (u8_0, .inl (cy 0, qAr 0 20 zR)), (u8_1, .inl (cy 1, qAr 1 20 zR)), (u8_2, .inl (cy 0, qAr 0 20 zR)), (q12, .inr (4, [.ref q4, .ref u17_0, .ref u17_1, .ref u17_2, .ref u17_3, .int (iI 0), .int (iI 0)])), (u17_0, .inl (cy 0, qAr 0 4 zR)), (u17_1, .inl (cy 0, qAr 0 4 zR)), (u17_2, .inl (cy 0, qAr 0 16 zR)), (u17_3, .inl (cy 0, qAr 0 20 (fun _ => -1))), (q37, .inr (4, [.ref q4, .ref u42_0, .ref u42_1, .ref u42_2, .ref u42_3, .int (iI 0), .int (iI 0)])), (u42_0, .inl (cy 0, qAr 0 4 zR)), (u42_1, .inl (cy 0, qAr 0 4 zR)), (u42_2, .inl (cy 0, qAr 0 16 zR)), (u42_3, .inl (cy 0, qAr 0 20 (fun _ => -1))), (q32, .inr (3, [.ref q12, .ref q37, .ref u45_0, .long (lI 0)])), (u45_0, .inr (2, [.ref u45_1, .int (iI 0)])), (u45_1, .inl (cy 3, qAr 3 1024 zR))] H := hP
  have hD : va_D A [(h0, .inr (5, [.ref q4, .ref q12, .ref q32, .null, .int (iI 0), .int (iI 0), .long (lI 0)])), (q4, .inr (0, [.ref u8_0, .ref u8_1, .ref u8_2, .int (iI 0)])), (u8_0, .inl (cy 0, qAr 0 20 zR)), (u8_1, .inl (cy 1, qAr 1 20 zR)), (u8_2, .inl (cy 0, qAr 0 20 zR)), (q12, .inr (4, [.ref q4, .ref u17_0, .ref u17_1, .ref u17_2, .ref u17_3, .int (iI 0), .int (iI 0)])), (u17_0, .inl (cy 0, qAr 0 4 zR)), (u17_1, .inl (cy 0, qAr 0 4 zR)), (u17_2, .inl (cy 0, qAr 0 16 zR)), (u17_3, .inl (cy 0, qAr 0 20 (fun _ => -1))), (q37, .inr (4, [.ref q4, .ref u42_0, .ref u42_1, .ref u42_2, .ref u42_3, .int (iI 0), .int (iI 0)])), (u42_0, .inl (cy 0, qAr 0 4 zR)), (u42_1, .inl (cy 0, qAr 0 4 zR)), (u42_2, .inl (cy 0, qAr 0 16 zR)), (u42_3, .inl (cy 0, qAr 0 20 (fun _ => -1))), (q32, .inr (3, [.ref q12, .ref q37, .ref u45_0, .long (lI 0)])), (u45_0, .inr (2, [.ref u45_1, .int (iI 0)])), (u45_1, .inl (cy 3, qAr 3 1024 zR))] := hD
  refine lv_aload_n hx hb dX5_init_51 rfl (lv_at hl 2 rfl) ?_
  refine va_new (ci := 1) (fs := [.null, .null, .null, .null, .int (iI 0)]) (C := RX1) (T := TX1) (N := 5) hx hb hts in_X1 tyX1 tyX1_ok hown (hts _ kl_X5_34) (hts _ in_st_X1) (hts _ in_it_X1) hK hP hD hS hA rfl (fun j hj => by rcases (show j = 0 ∨ j = 1 ∨ j = 2 ∨ j = 3 ∨ j = 4 by omega) with rfl | rfl | rfl | rfl | rfl <;> first | rfl | (show Value.int 0 = Value.int (iI 0); rw [iI_0]) | (show Value.long 0 = Value.long (lI 0); rw [lI_0])) (Nat.le_of_ble_eq_true rfl) (Nat.le_of_ble_eq_true rfl) dX5_init_52 (fun q52 H hP hD hS => ?_)
  have hP : va_P D vwCl [(h0, .inr (5, [.ref q4, .ref q12, .ref q32, .null, .int (iI 0), .int (iI 0), .long (lI 0)])), (q4, .inr (0, [.ref u8_0, .ref u8_1, .ref u8_2, .int (iI 0)])), (u8_0, .inl (cy 0, qAr 0 20 zR)), (u8_1, .inl (cy 1, qAr 1 20 zR)), (u8_2, .inl (cy 0, qAr 0 20 zR)), (q12, .inr (4, [.ref q4, .ref u17_0, .ref u17_1, .ref u17_2, .ref u17_3, .int (iI 0), .int (iI 0)])), (u17_0, .inl (cy 0, qAr 0 4 zR)), (u17_1, .inl (cy 0, qAr 0 4 zR)), (u17_2, .inl (cy 0, qAr 0 16 zR)), (u17_3, .inl (cy 0, qAr 0 20 (fun _ => -1))), (q37, .inr (4, [.ref q4, .ref u42_0, .ref u42_1, .ref u42_2, .ref u42_3, .int (iI 0), .int (iI 0)])), (u42_0, .inl (cy 0, qAr 0 4 zR)), (u42_1, .inl (cy 0, qAr 0 4 zR)), (u42_2, .inl (cy 0, qAr 0 16 zR)), (u42_3, .inl (cy 0, qAr 0 20 (fun _ => -1))), (q32, .inr (3, [.ref q12, .ref q37, .ref u45_0, .long (lI 0)])), (u45_0, .inr (2, [.ref u45_1, .int (iI 0)])), (u45_1, .inl (cy 3, qAr 3 1024 zR)), (q52, .inr (1, [.null, .null, .null, .null, .int (iI 0)]))] H := hP
  have hD : va_D A [(h0, .inr (5, [.ref q4, .ref q12, .ref q32, .null, .int (iI 0), .int (iI 0), .long (lI 0)])), (q4, .inr (0, [.ref u8_0, .ref u8_1, .ref u8_2, .int (iI 0)])), (u8_0, .inl (cy 0, qAr 0 20 zR)), (u8_1, .inl (cy 1, qAr 1 20 zR)), (u8_2, .inl (cy 0, qAr 0 20 zR)), (q12, .inr (4, [.ref q4, .ref u17_0, .ref u17_1, .ref u17_2, .ref u17_3, .int (iI 0), .int (iI 0)])), (u17_0, .inl (cy 0, qAr 0 4 zR)), (u17_1, .inl (cy 0, qAr 0 4 zR)), (u17_2, .inl (cy 0, qAr 0 16 zR)), (u17_3, .inl (cy 0, qAr 0 20 (fun _ => -1))), (q37, .inr (4, [.ref q4, .ref u42_0, .ref u42_1, .ref u42_2, .ref u42_3, .int (iI 0), .int (iI 0)])), (u42_0, .inl (cy 0, qAr 0 4 zR)), (u42_1, .inl (cy 0, qAr 0 4 zR)), (u42_2, .inl (cy 0, qAr 0 16 zR)), (u42_3, .inl (cy 0, qAr 0 20 (fun _ => -1))), (q32, .inr (3, [.ref q12, .ref q37, .ref u45_0, .long (lI 0)])), (u45_0, .inr (2, [.ref u45_1, .int (iI 0)])), (u45_1, .inl (cy 3, qAr 3 1024 zR)), (q52, .inr (1, [.null, .null, .null, .null, .int (iI 0)]))] := hD
  refine W.widen (k := 18) (n := 1201) (Nat.le_of_ble_eq_true rfl) (Nat.le_of_ble_eq_true rfl) ?_
  refine lv_dup hx hb dX5_init_55 rfl ?_
  refine c_callN (As := []) (rest := [.ref q52, .ref h0]) (wc := [(q52, .inr (1, [.null, .null, .null, .null, .int (iI 0)]))]) (wr := [(h0, .inr (5, [.ref q4, .ref q12, .ref q32, .null, .int (iI 0), .int (iI 0), .long (lI 0)])), (q4, .inr (0, [.ref u8_0, .ref u8_1, .ref u8_2, .int (iI 0)])), (u8_0, .inl (cy 0, qAr 0 20 zR)), (u8_1, .inl (cy 1, qAr 1 20 zR)), (u8_2, .inl (cy 0, qAr 0 20 zR)), (q12, .inr (4, [.ref q4, .ref u17_0, .ref u17_1, .ref u17_2, .ref u17_3, .int (iI 0), .int (iI 0)])), (u17_0, .inl (cy 0, qAr 0 4 zR)), (u17_1, .inl (cy 0, qAr 0 4 zR)), (u17_2, .inl (cy 0, qAr 0 16 zR)), (u17_3, .inl (cy 0, qAr 0 20 (fun _ => -1))), (q37, .inr (4, [.ref q4, .ref u42_0, .ref u42_1, .ref u42_2, .ref u42_3, .int (iI 0), .int (iI 0)])), (u42_0, .inl (cy 0, qAr 0 4 zR)), (u42_1, .inl (cy 0, qAr 0 4 zR)), (u42_2, .inl (cy 0, qAr 0 16 zR)), (u42_3, .inl (cy 0, qAr 0 20 (fun _ => -1))), (q32, .inr (3, [.ref q12, .ref q37, .ref u45_0, .long (lI 0)])), (u45_0, .inr (2, [.ref u45_1, .int (iI 0)])), (u45_1, .inl (cy 3, qAr 3 1024 zR))]) (nL := 3) ⟨hx, hb, hml, hown, hts⟩ (c_X1_init l D cy q52) (co_X1 l) cl_X5_36 (Nat.le_of_ble_eq_true rfl) (Nat.le_of_ble_eq_true rfl) rfl rfl hl.1 (Nat.le_of_ble_eq_true rfl) dX5_init_56 (Nat.le_of_ble_eq_true rfl) (Nat.le_of_ble_eq_true rfl) hK hcy hng hP hD hS hA [18] [0, 1, 2, 3, 4, 5, 6, 7, 8, 9, 10, 11, 12, 13, 14, 15, 16, 17] rfl rfl rfl rfl rfl (by decide) (by decide) (fun u H locs hP hD hS => ?_)
  obtain ⟨u56_0, eu56_0⟩ : ∃ z, z = u 0 := ⟨_, rfl⟩
  obtain ⟨u56_1, eu56_1⟩ : ∃ z, z = u 1 := ⟨_, rfl⟩
  obtain ⟨u56_2, eu56_2⟩ : ∃ z, z = u 2 := ⟨_, rfl⟩
  obtain ⟨u56_3, eu56_3⟩ : ∃ z, z = u 3 := ⟨_, rfl⟩
  simp only [← eu56_0, ← eu56_1, ← eu56_2, ← eu56_3] at hP hD
  have hP : va_P D vwCl [(h0, .inr (5, [.ref q4, .ref q12, .ref q32, .null, .int (iI 0), .int (iI 0), .long (lI 0)])), (q4, .inr (0, [.ref u8_0, .ref u8_1, .ref u8_2, .int (iI 0)])), (u8_0, .inl (cy 0, qAr 0 20 zR)), (u8_1, .inl (cy 1, qAr 1 20 zR)), (u8_2, .inl (cy 0, qAr 0 20 zR)), (q12, .inr (4, [.ref q4, .ref u17_0, .ref u17_1, .ref u17_2, .ref u17_3, .int (iI 0), .int (iI 0)])), (u17_0, .inl (cy 0, qAr 0 4 zR)), (u17_1, .inl (cy 0, qAr 0 4 zR)), (u17_2, .inl (cy 0, qAr 0 16 zR)), (u17_3, .inl (cy 0, qAr 0 20 (fun _ => -1))), (q37, .inr (4, [.ref q4, .ref u42_0, .ref u42_1, .ref u42_2, .ref u42_3, .int (iI 0), .int (iI 0)])), (u42_0, .inl (cy 0, qAr 0 4 zR)), (u42_1, .inl (cy 0, qAr 0 4 zR)), (u42_2, .inl (cy 0, qAr 0 16 zR)), (u42_3, .inl (cy 0, qAr 0 20 (fun _ => -1))), (q32, .inr (3, [.ref q12, .ref q37, .ref u45_0, .long (lI 0)])), (u45_0, .inr (2, [.ref u45_1, .int (iI 0)])), (u45_1, .inl (cy 3, qAr 3 1024 zR)), (q52, .inr (1, [.ref u56_0, .ref u56_1, .ref u56_2, .ref u56_3, .int (iI 0)])), (u56_0, .inl (cy 0, qAr 0 30 zR)), (u56_1, .inl (cy 0, qAr 0 30 zR)), (u56_2, .inl (cy 0, qAr 0 30 zR)), (u56_3, .inl (cy 1, qAr 1 30 zR))] H := hP
  have hD : va_D A [(h0, .inr (5, [.ref q4, .ref q12, .ref q32, .null, .int (iI 0), .int (iI 0), .long (lI 0)])), (q4, .inr (0, [.ref u8_0, .ref u8_1, .ref u8_2, .int (iI 0)])), (u8_0, .inl (cy 0, qAr 0 20 zR)), (u8_1, .inl (cy 1, qAr 1 20 zR)), (u8_2, .inl (cy 0, qAr 0 20 zR)), (q12, .inr (4, [.ref q4, .ref u17_0, .ref u17_1, .ref u17_2, .ref u17_3, .int (iI 0), .int (iI 0)])), (u17_0, .inl (cy 0, qAr 0 4 zR)), (u17_1, .inl (cy 0, qAr 0 4 zR)), (u17_2, .inl (cy 0, qAr 0 16 zR)), (u17_3, .inl (cy 0, qAr 0 20 (fun _ => -1))), (q37, .inr (4, [.ref q4, .ref u42_0, .ref u42_1, .ref u42_2, .ref u42_3, .int (iI 0), .int (iI 0)])), (u42_0, .inl (cy 0, qAr 0 4 zR)), (u42_1, .inl (cy 0, qAr 0 4 zR)), (u42_2, .inl (cy 0, qAr 0 16 zR)), (u42_3, .inl (cy 0, qAr 0 20 (fun _ => -1))), (q32, .inr (3, [.ref q12, .ref q37, .ref u45_0, .long (lI 0)])), (u45_0, .inr (2, [.ref u45_1, .int (iI 0)])), (u45_1, .inl (cy 3, qAr 3 1024 zR)), (q52, .inr (1, [.ref u56_0, .ref u56_1, .ref u56_2, .ref u56_3, .int (iI 0)])), (u56_0, .inl (cy 0, qAr 0 30 zR)), (u56_1, .inl (cy 0, qAr 0 30 zR)), (u56_2, .inl (cy 0, qAr 0 30 zR)), (u56_3, .inl (cy 1, qAr 1 30 zR))] := hD
  refine W.widen (k := 22) (n := 1321) (Nat.le_of_ble_eq_true rfl) (Nat.le_of_ble_eq_true rfl) ?_
  refine va_putF (D := D) (ci := 5) (v := .ref q52) (ty := (.object "Quaylock$Gate")) (C := RX5) (T := TX5) (N := 7) hx hb hts in_X5 tyX5 tyX5_ok nmX5 hown hK hP hD hS 0 rfl rfl 3 (by decide) (hts _ fl_X5_37) (fun _ h9 => h9) rfl hin rfl (by decide +kernel) rfl rfl (Nat.le_of_ble_eq_true rfl) dX5_init_59 (fun H locs hP hD hS => ?_)
  have hP : va_P D vwCl [(h0, .inr (5, [.ref q4, .ref q12, .ref q32, .ref q52, .int (iI 0), .int (iI 0), .long (lI 0)])), (q4, .inr (0, [.ref u8_0, .ref u8_1, .ref u8_2, .int (iI 0)])), (u8_0, .inl (cy 0, qAr 0 20 zR)), (u8_1, .inl (cy 1, qAr 1 20 zR)), (u8_2, .inl (cy 0, qAr 0 20 zR)), (q12, .inr (4, [.ref q4, .ref u17_0, .ref u17_1, .ref u17_2, .ref u17_3, .int (iI 0), .int (iI 0)])), (u17_0, .inl (cy 0, qAr 0 4 zR)), (u17_1, .inl (cy 0, qAr 0 4 zR)), (u17_2, .inl (cy 0, qAr 0 16 zR)), (u17_3, .inl (cy 0, qAr 0 20 (fun _ => -1))), (q37, .inr (4, [.ref q4, .ref u42_0, .ref u42_1, .ref u42_2, .ref u42_3, .int (iI 0), .int (iI 0)])), (u42_0, .inl (cy 0, qAr 0 4 zR)), (u42_1, .inl (cy 0, qAr 0 4 zR)), (u42_2, .inl (cy 0, qAr 0 16 zR)), (u42_3, .inl (cy 0, qAr 0 20 (fun _ => -1))), (q32, .inr (3, [.ref q12, .ref q37, .ref u45_0, .long (lI 0)])), (u45_0, .inr (2, [.ref u45_1, .int (iI 0)])), (u45_1, .inl (cy 3, qAr 3 1024 zR)), (q52, .inr (1, [.ref u56_0, .ref u56_1, .ref u56_2, .ref u56_3, .int (iI 0)])), (u56_0, .inl (cy 0, qAr 0 30 zR)), (u56_1, .inl (cy 0, qAr 0 30 zR)), (u56_2, .inl (cy 0, qAr 0 30 zR)), (u56_3, .inl (cy 1, qAr 1 30 zR))] H := hP
  have hD : va_D A [(h0, .inr (5, [.ref q4, .ref q12, .ref q32, .ref q52, .int (iI 0), .int (iI 0), .long (lI 0)])), (q4, .inr (0, [.ref u8_0, .ref u8_1, .ref u8_2, .int (iI 0)])), (u8_0, .inl (cy 0, qAr 0 20 zR)), (u8_1, .inl (cy 1, qAr 1 20 zR)), (u8_2, .inl (cy 0, qAr 0 20 zR)), (q12, .inr (4, [.ref q4, .ref u17_0, .ref u17_1, .ref u17_2, .ref u17_3, .int (iI 0), .int (iI 0)])), (u17_0, .inl (cy 0, qAr 0 4 zR)), (u17_1, .inl (cy 0, qAr 0 4 zR)), (u17_2, .inl (cy 0, qAr 0 16 zR)), (u17_3, .inl (cy 0, qAr 0 20 (fun _ => -1))), (q37, .inr (4, [.ref q4, .ref u42_0, .ref u42_1, .ref u42_2, .ref u42_3, .int (iI 0), .int (iI 0)])), (u42_0, .inl (cy 0, qAr 0 4 zR)), (u42_1, .inl (cy 0, qAr 0 4 zR)), (u42_2, .inl (cy 0, qAr 0 16 zR)), (u42_3, .inl (cy 0, qAr 0 20 (fun _ => -1))), (q32, .inr (3, [.ref q12, .ref q37, .ref u45_0, .long (lI 0)])), (u45_0, .inr (2, [.ref u45_1, .int (iI 0)])), (u45_1, .inl (cy 3, qAr 3 1024 zR)), (q52, .inr (1, [.ref u56_0, .ref u56_1, .ref u56_2, .ref u56_3, .int (iI 0)])), (u56_0, .inl (cy 0, qAr 0 30 zR)), (u56_1, .inl (cy 0, qAr 0 30 zR)), (u56_2, .inl (cy 0, qAr 0 30 zR)), (u56_3, .inl (cy 1, qAr 1 30 zR))] := hD
  refine W.widen (k := 22) (n := 1321) (Nat.le_of_ble_eq_true rfl) (Nat.le_of_ble_eq_true rfl) ?_
  exact W.vret hx hb hr (fun t ht hW => ⟨⟨fun k => ([q4, u8_0, u8_1, u8_2, q12, u17_0, u17_1, u17_2, u17_3, q32, q37, u42_0, u42_1, u42_2, u42_3, u45_0, u45_1, q52, u56_0, u56_1, u56_2, u56_3] : List Nat).getD k 0, rfl, trivial, by rw [ht]; exact hP, hD⟩, hS.F ht⟩) hS.2.2 dX5_init_62
