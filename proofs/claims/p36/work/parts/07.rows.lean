/-! rows of the small machine: an instruction each -/
section QR
variable {X : qEnv} {ω : qOm} {own : String} {cc : ByteArray} {nL : Nat} {ret : Option FieldType} {T : List ExceptionTableEntry} {fr mc k : Nat} {Q : State → Prop} {g : qHp} {pc : Nat} {ls : List (Nat × Value)} {st : List Value}
theorem q_iconst (C : qCx X ω own cc nL ret T fr mc) {n : Int} (hd : decode cc pc = .ok (.iconst n, 1)) (kk : qT X ω nL k Q g (pc + 1) ls (.int (iI n) :: st)) : qT X ω nL k Q g pc ls st := by
  obtain ⟨p, l, e, R, s, m, args, below, meth, c⟩ := X
  obtain ⟨hx, hb, hr, hml, hown, hts, -⟩ := C
  intro H locs la hw hS hl
  exact lv_iconst (v := iI n) hx hb hd rfl (kk H locs la hw hS hl)
theorem q_bipush (C : qCx X ω own cc nL ret T fr mc) {n : Int} (hd : decode cc pc = .ok (.bipush n, 2)) (hv : (Int8.ofInt n).toInt32 = iI n) (kk : qT X ω nL k Q g (pc + 2) ls (.int (iI n) :: st)) : qT X ω nL k Q g pc ls st := by
  obtain ⟨p, l, e, R, s, m, args, below, meth, c⟩ := X
  obtain ⟨hx, hb, hr, hml, hown, hts, -⟩ := C
  intro H locs la hw hS hl
  exact lv_bipush (v := iI n) hx hb hd hv (kk H locs la hw hS hl)
theorem q_sipush (C : qCx X ω own cc nL ret T fr mc) {n : Int} (hd : decode cc pc = .ok (.sipush n, 3)) (hv : (Int16.ofInt n).toInt32 = iI n) (kk : qT X ω nL k Q g (pc + 3) ls (.int (iI n) :: st)) : qT X ω nL k Q g pc ls st := by
  obtain ⟨p, l, e, R, s, m, args, below, meth, c⟩ := X
  obtain ⟨hx, hb, hr, hml, hown, hts, -⟩ := C
  intro H locs la hw hS hl
  exact lv_sipush (v := iI n) hx hb hd hv (kk H locs la hw hS hl)
theorem q_lconst0 (C : qCx X ω own cc nL ret T fr mc)  (hd : decode cc pc = .ok (.lconst 0, 1)) (kk : qT X ω nL k Q g (pc + 1) ls (.long (lI 0) :: st)) : qT X ω nL k Q g pc ls st := by
  obtain ⟨p, l, e, R, s, m, args, below, meth, c⟩ := X
  obtain ⟨hx, hb, hr, hml, hown, hts, -⟩ := C
  intro H locs la hw hS hl
  exact lv_lconst (v := lI 0) hx hb hd (by decide +kernel) (kk H locs la hw hS hl)
theorem q_iload_n (C : qCx X ω own cc nL ret T fr mc) {j : Fin 4} (i : Nat) {x : Int32} (hd : decode cc pc = .ok (.iload_n j, 1)) (hi : (j : Nat) = i) (hk : lkp ls i = some (.int x)) (kk : qT X ω nL k Q g (pc + 1) ls (.int x :: st)) : qT X ω nL k Q g pc ls st := by
  obtain ⟨p, l, e, R, s, m, args, below, meth, c⟩ := X
  obtain ⟨hx, hb, hr, hml, hown, hts, -⟩ := C
  intro H locs la hw hS hl
  exact lv_iload_n hx hb hd hi (lkp_at hl hk) (kk H locs la hw hS hl)
theorem q_iload (C : qCx X ω own cc nL ret T fr mc) {i : Nat} {x : Int32} (hd : decode cc pc = .ok (.iload i, 2)) (hk : lkp ls i = some (.int x)) (kk : qT X ω nL k Q g (pc + 2) ls (.int x :: st)) : qT X ω nL k Q g pc ls st := by
  obtain ⟨p, l, e, R, s, m, args, below, meth, c⟩ := X
  obtain ⟨hx, hb, hr, hml, hown, hts, -⟩ := C
  intro H locs la hw hS hl
  exact lv_iload hx hb hd (lkp_at hl hk) (kk H locs la hw hS hl)
theorem q_lload_n (C : qCx X ω own cc nL ret T fr mc) {j : Fin 4} (i : Nat) {x : Int64} (hd : decode cc pc = .ok (.lload_n j, 1)) (hi : (j : Nat) = i) (hk : lkp ls i = some (.long x)) (kk : qT X ω nL k Q g (pc + 1) ls (.long x :: st)) : qT X ω nL k Q g pc ls st := by
  obtain ⟨p, l, e, R, s, m, args, below, meth, c⟩ := X
  obtain ⟨hx, hb, hr, hml, hown, hts, -⟩ := C
  intro H locs la hw hS hl
  exact lv_lload_n hx hb hd hi (lkp_at hl hk) (kk H locs la hw hS hl)
theorem q_lload (C : qCx X ω own cc nL ret T fr mc) {i : Nat} {x : Int64} (hd : decode cc pc = .ok (.lload i, 2)) (hk : lkp ls i = some (.long x)) (kk : qT X ω nL k Q g (pc + 2) ls (.long x :: st)) : qT X ω nL k Q g pc ls st := by
  obtain ⟨p, l, e, R, s, m, args, below, meth, c⟩ := X
  obtain ⟨hx, hb, hr, hml, hown, hts, -⟩ := C
  intro H locs la hw hS hl
  exact lv_lload hx hb hd (lkp_at hl hk) (kk H locs la hw hS hl)
theorem q_aload_n (C : qCx X ω own cc nL ret T fr mc) {j : Fin 4} (i : Nat) {x : Nat} (hd : decode cc pc = .ok (.aload_n j, 1)) (hi : (j : Nat) = i) (hk : lkp ls i = some (.ref x)) (kk : qT X ω nL k Q g (pc + 1) ls (.ref x :: st)) : qT X ω nL k Q g pc ls st := by
  obtain ⟨p, l, e, R, s, m, args, below, meth, c⟩ := X
  obtain ⟨hx, hb, hr, hml, hown, hts, -⟩ := C
  intro H locs la hw hS hl
  exact lv_aload_n hx hb hd hi (lkp_at hl hk) (kk H locs la hw hS hl)
theorem q_aload (C : qCx X ω own cc nL ret T fr mc) {i : Nat} {x : Nat} (hd : decode cc pc = .ok (.aload i, 2)) (hk : lkp ls i = some (.ref x)) (kk : qT X ω nL k Q g (pc + 2) ls (.ref x :: st)) : qT X ω nL k Q g pc ls st := by
  obtain ⟨p, l, e, R, s, m, args, below, meth, c⟩ := X
  obtain ⟨hx, hb, hr, hml, hown, hts, -⟩ := C
  intro H locs la hw hS hl
  exact lv_aload hx hb hd (lkp_at hl hk) (kk H locs la hw hS hl)
theorem q_fload_n (C : qCx X ω own cc nL ret T fr mc) {j : Fin 4} (i : Nat) {x : UInt32} (hd : decode cc pc = .ok (.fload_n j, 1)) (hi : (j : Nat) = i) (hk : lkp ls i = some (.float x)) (kk : qT X ω nL k Q g (pc + 1) ls (.float x :: st)) : qT X ω nL k Q g pc ls st := by
  obtain ⟨p, l, e, R, s, m, args, below, meth, c⟩ := X
  obtain ⟨hx, hb, hr, hml, hown, hts, -⟩ := C
  intro H locs la hw hS hl
  exact lv_fload_n hx hb hd hi (lkp_at hl hk) (kk H locs la hw hS hl)
theorem q_fload (C : qCx X ω own cc nL ret T fr mc) {i : Nat} {x : UInt32} (hd : decode cc pc = .ok (.fload i, 2)) (hk : lkp ls i = some (.float x)) (kk : qT X ω nL k Q g (pc + 2) ls (.float x :: st)) : qT X ω nL k Q g pc ls st := by
  obtain ⟨p, l, e, R, s, m, args, below, meth, c⟩ := X
  obtain ⟨hx, hb, hr, hml, hown, hts, -⟩ := C
  intro H locs la hw hS hl
  exact lv_fload hx hb hd (lkp_at hl hk) (kk H locs la hw hS hl)
theorem q_istore_n (C : qCx X ω own cc nL ret T fr mc) {j : Fin 4} (i : Nat) {x : Int32} (hd : decode cc pc = .ok (.istore_n j, 1)) (hi : (j : Nat) = i) (hn : i < nL) (kk : qT X ω nL k Q g (pc + 1) (sto1 ls i (.int x)) st) : qT X ω nL k Q g pc ls (.int x :: st) := by
  obtain ⟨p, l, e, R, s, m, args, below, meth, c⟩ := X
  obtain ⟨hx, hb, hr, hml, hown, hts, -⟩ := C
  intro H locs la hw hS hl
  exact lv_istore_n hx hb hd hi hl hn rfl (fun la hl => kk H locs la hw hS hl)
theorem q_istore (C : qCx X ω own cc nL ret T fr mc) {i : Nat} {x : Int32} (hd : decode cc pc = .ok (.istore i, 2)) (hn : i < nL) (kk : qT X ω nL k Q g (pc + 2) (sto1 ls i (.int x)) st) : qT X ω nL k Q g pc ls (.int x :: st) := by
  obtain ⟨p, l, e, R, s, m, args, below, meth, c⟩ := X
  obtain ⟨hx, hb, hr, hml, hown, hts, -⟩ := C
  intro H locs la hw hS hl
  exact lv_istore hx hb hd hl hn rfl (fun la hl => kk H locs la hw hS hl)
theorem q_lstore_n (C : qCx X ω own cc nL ret T fr mc) {j : Fin 4} (i : Nat) {x : Int64} (hd : decode cc pc = .ok (.lstore_n j, 1)) (hi : (j : Nat) = i) (hn : i + 1 < nL) (kk : qT X ω nL k Q g (pc + 1) (sto2 ls i (.long x)) st) : qT X ω nL k Q g pc ls (.long x :: st) := by
  obtain ⟨p, l, e, R, s, m, args, below, meth, c⟩ := X
  obtain ⟨hx, hb, hr, hml, hown, hts, -⟩ := C
  intro H locs la hw hS hl
  exact lv_lstore_n hx hb hd hi hl hn rfl (fun la hl => kk H locs la hw hS hl)
theorem q_lstore (C : qCx X ω own cc nL ret T fr mc) {i : Nat} {x : Int64} (hd : decode cc pc = .ok (.lstore i, 2)) (hn : i + 1 < nL) (kk : qT X ω nL k Q g (pc + 2) (sto2 ls i (.long x)) st) : qT X ω nL k Q g pc ls (.long x :: st) := by
  obtain ⟨p, l, e, R, s, m, args, below, meth, c⟩ := X
  obtain ⟨hx, hb, hr, hml, hown, hts, -⟩ := C
  intro H locs la hw hS hl
  exact lv_lstore hx hb hd hl hn rfl (fun la hl => kk H locs la hw hS hl)
theorem q_astore_n (C : qCx X ω own cc nL ret T fr mc) {j : Fin 4} (i : Nat) {x : Nat} (hd : decode cc pc = .ok (.astore_n j, 1)) (hi : (j : Nat) = i) (hn : i < nL) (kk : qT X ω nL k Q g (pc + 1) (sto1 ls i (.ref x)) st) : qT X ω nL k Q g pc ls (.ref x :: st) := by
  obtain ⟨p, l, e, R, s, m, args, below, meth, c⟩ := X
  obtain ⟨hx, hb, hr, hml, hown, hts, -⟩ := C
  intro H locs la hw hS hl
  exact lv_astore_n hx hb hd hi hl hn rfl (fun la hl => kk H locs la hw hS hl)
theorem q_astore (C : qCx X ω own cc nL ret T fr mc) {i : Nat} {x : Nat} (hd : decode cc pc = .ok (.astore i, 2)) (hn : i < nL) (kk : qT X ω nL k Q g (pc + 2) (sto1 ls i (.ref x)) st) : qT X ω nL k Q g pc ls (.ref x :: st) := by
  obtain ⟨p, l, e, R, s, m, args, below, meth, c⟩ := X
  obtain ⟨hx, hb, hr, hml, hown, hts, -⟩ := C
  intro H locs la hw hS hl
  exact lv_astore hx hb hd hl hn rfl (fun la hl => kk H locs la hw hS hl)
theorem q_fstore_n (C : qCx X ω own cc nL ret T fr mc) {j : Fin 4} (i : Nat) {x : UInt32} (hd : decode cc pc = .ok (.fstore_n j, 1)) (hi : (j : Nat) = i) (hn : i < nL) (kk : qT X ω nL k Q g (pc + 1) (sto1 ls i (.float x)) st) : qT X ω nL k Q g pc ls (.float x :: st) := by
  obtain ⟨p, l, e, R, s, m, args, below, meth, c⟩ := X
  obtain ⟨hx, hb, hr, hml, hown, hts, -⟩ := C
  intro H locs la hw hS hl
  exact lv_fstore_n hx hb hd hi hl hn rfl (fun la hl => kk H locs la hw hS hl)
theorem q_fstore (C : qCx X ω own cc nL ret T fr mc) {i : Nat} {x : UInt32} (hd : decode cc pc = .ok (.fstore i, 2)) (hn : i < nL) (kk : qT X ω nL k Q g (pc + 2) (sto1 ls i (.float x)) st) : qT X ω nL k Q g pc ls (.float x :: st) := by
  obtain ⟨p, l, e, R, s, m, args, below, meth, c⟩ := X
  obtain ⟨hx, hb, hr, hml, hown, hts, -⟩ := C
  intro H locs la hw hS hl
  exact lv_fstore hx hb hd hl hn rfl (fun la hl => kk H locs la hw hS hl)
theorem q_istoreV_n (C : qCx X ω own cc nL ret T fr mc) {j : Fin 4} (i : Nat) {a : Int} (hd : decode cc pc = .ok (.istore_n j, 1)) (hi : (j : Nat) = i) (hn : i < nL) (kk : ∀ v : Int, v = a → qT X ω nL k Q g (pc + 1) (sto1 ls i (.int (iI v))) st) : qT X ω nL k Q g pc ls (.int (iI a) :: st) := q_istore_n C i hd hi hn (kk a rfl)
theorem q_istoreV (C : qCx X ω own cc nL ret T fr mc) {i : Nat} {a : Int} (hd : decode cc pc = .ok (.istore i, 2))  (hn : i < nL) (kk : ∀ v : Int, v = a → qT X ω nL k Q g (pc + 2) (sto1 ls i (.int (iI v))) st) : qT X ω nL k Q g pc ls (.int (iI a) :: st) := q_istore C hd hn (kk a rfl)
theorem q_iinc (C : qCx X ω own cc nL ret T fr mc) {i : Nat} {n : Int} {a : Int} (hd : decode cc pc = .ok (.iinc i n, 3)) (hk : lkp ls i = some (.int (iI a))) (hn : i < nL) (kk : ∀ v : Int, v = a + n → qT X ω nL k Q g (pc + 3) (sto1 ls i (.int (iI v))) st) : qT X ω nL k Q g pc ls st := by
  obtain ⟨p, l, e, R, s, m, args, below, meth, c⟩ := X
  obtain ⟨hx, hb, -⟩ := C
  intro H locs la hw hS hl
  have h0 : lv_has la nL ((i, .int (iI a)) :: ls) := ⟨hl.1, hl.2.1, fun q hq => by
    rcases List.mem_cons.mp hq with rfl | hq
    · exact lkp_at hl hk
    · exact hl.2.2 q hq⟩
  refine lv_iinc (k := 0) (v := iI (a + n)) hx hb hd h0 rfl (iI_add a n) hn rfl (fun la hl => ?_)
  have h1 : lv_has la nL (sto1 ls i (.int (iI (a + n)))) := ⟨hl.1, hl.2.1, fun q hq => hl.2.2 q (by
    unfold sto1 at hq
    rcases List.mem_cons.mp hq with rfl | hq
    · exact List.mem_cons_self
    · refine List.mem_cons_of_mem _ ?_
      rw [List.mem_filter] at hq ⊢
      exact ⟨List.mem_cons_of_mem _ hq.1, hq.2⟩)⟩
  exact kk (a + n) rfl H locs la hw hS h1
theorem q_iadd (C : qCx X ω own cc nL ret T fr mc) {a b : Int} (hd : decode cc pc = .ok (.iadd, 1)) (kk : qT X ω nL k Q g (pc + 1) ls (.int (iI (a + b)) :: st)) : qT X ω nL k Q g pc ls (.int (iI b) :: .int (iI a) :: st) := by
  obtain ⟨p, l, e, R, s, m, args, below, meth, c⟩ := X
  obtain ⟨hx, hb, hr, hml, hown, hts, -⟩ := C
  intro H locs la hw hS hl
  exact lv_iadd hx hb hd (by rw [iI_add]; exact kk H locs la hw hS hl)
theorem q_isub (C : qCx X ω own cc nL ret T fr mc) {a b : Int} (hd : decode cc pc = .ok (.isub, 1)) (kk : qT X ω nL k Q g (pc + 1) ls (.int (iI (a - b)) :: st)) : qT X ω nL k Q g pc ls (.int (iI b) :: .int (iI a) :: st) := by
  obtain ⟨p, l, e, R, s, m, args, below, meth, c⟩ := X
  obtain ⟨hx, hb, hr, hml, hown, hts, -⟩ := C
  intro H locs la hw hS hl
  exact lv_isub hx hb hd (by rw [iI_sub]; exact kk H locs la hw hS hl)
theorem q_imul (C : qCx X ω own cc nL ret T fr mc) {a b : Int} (hd : decode cc pc = .ok (.imul, 1)) (kk : qT X ω nL k Q g (pc + 1) ls (.int (iI (a * b)) :: st)) : qT X ω nL k Q g pc ls (.int (iI b) :: .int (iI a) :: st) := by
  obtain ⟨p, l, e, R, s, m, args, below, meth, c⟩ := X
  obtain ⟨hx, hb, hr, hml, hown, hts, -⟩ := C
  intro H locs la hw hS hl
  exact lv_imul hx hb hd (by rw [iI_mul]; exact kk H locs la hw hS hl)
theorem q_ladd (C : qCx X ω own cc nL ret T fr mc) {a b : Int} (hd : decode cc pc = .ok (.ladd, 1)) (kk : qT X ω nL k Q g (pc + 1) ls (.long (lI (a + b)) :: st)) : qT X ω nL k Q g pc ls (.long (lI b) :: .long (lI a) :: st) := by
  obtain ⟨p, l, e, R, s, m, args, below, meth, c⟩ := X
  obtain ⟨hx, hb, hr, hml, hown, hts, -⟩ := C
  intro H locs la hw hS hl
  exact lv_ladd hx hb hd (by rw [lI_add]; exact kk H locs la hw hS hl)
theorem q_lsub (C : qCx X ω own cc nL ret T fr mc) {a b : Int} (hd : decode cc pc = .ok (.lsub, 1)) (kk : qT X ω nL k Q g (pc + 1) ls (.long (lI (a - b)) :: st)) : qT X ω nL k Q g pc ls (.long (lI b) :: .long (lI a) :: st) := by
  obtain ⟨p, l, e, R, s, m, args, below, meth, c⟩ := X
  obtain ⟨hx, hb, hr, hml, hown, hts, -⟩ := C
  intro H locs la hw hS hl
  exact lv_lsub hx hb hd (by rw [lI_sub]; exact kk H locs la hw hS hl)
theorem iI_div {a b : Int} (ha : 0 ≤ a ∧ a < 2147483648) (hb : 0 < b ∧ b < 2147483648) : iI a / iI b = iI (a / b) := by
  have h := Int32.ofInt_tdiv (a := a) (b := b) (by show (-2147483648 : Int) ≤ a; omega) (by show a ≤ (2147483647 : Int); omega) (by show (-2147483648 : Int) ≤ b; omega) (by show b ≤ (2147483647 : Int); omega)
  rw [Int.tdiv_eq_ediv_of_nonneg ha.1] at h
  exact h.symm
theorem iI_rem {a b : Int} (ha : 0 ≤ a ∧ a < 2147483648) (hb : 0 < b ∧ b < 2147483648) : iI a - iI a / iI b * iI b = iI (a % b) := by
  rw [iI_div ha hb, iI_mul, iI_sub]
  congr 1
  have := Int.mul_ediv_add_emod a b
  rw [Int.mul_comm (a / b) b]
  omega
theorem iI_ne0 {b : Int} (hb : 0 < b ∧ b < 2147483648) : ¬ iI b = 0 := by
  rw [iI_0, iI_eq (by omega) (by omega)]
  omega
theorem q_idiv (C : qCx X ω own cc nL ret T fr mc) {a b : Int} (hd : decode cc pc = .ok (.idiv, 1)) (ha : 0 ≤ a ∧ a < 2147483648) (hb0 : 0 < b ∧ b < 2147483648) (kk : qT X ω nL k Q g (pc + 1) ls (.int (iI (a / b)) :: st)) : qT X ω nL k Q g pc ls (.int (iI b) :: .int (iI a) :: st) := by
  obtain ⟨p, l, e, R, s, m, args, below, meth, c⟩ := X
  obtain ⟨hx, hb, hr, hml, hown, hts, -⟩ := C
  intro H locs la hw hS hl
  exact lv_idiv hx hb hd (iI_ne0 hb0) (by rw [iI_div ha hb0]; exact kk H locs la hw hS hl)
theorem q_irem (C : qCx X ω own cc nL ret T fr mc) {a b : Int} (hd : decode cc pc = .ok (.irem, 1)) (ha : 0 ≤ a ∧ a < 2147483648) (hb0 : 0 < b ∧ b < 2147483648) (kk : qT X ω nL k Q g (pc + 1) ls (.int (iI (a % b)) :: st)) : qT X ω nL k Q g pc ls (.int (iI b) :: .int (iI a) :: st) := by
  obtain ⟨p, l, e, R, s, m, args, below, meth, c⟩ := X
  obtain ⟨hx, hb, hr, hml, hown, hts, -⟩ := C
  intro H locs la hw hS hl
  exact lv_irem hx hb hd (iI_ne0 hb0) (by rw [iI_rem ha hb0]; exact kk H locs la hw hS hl)
theorem q_iand (C : qCx X ω own cc nL ret T fr mc) {x y : Int32} (hd : decode cc pc = .ok (.iand, 1)) (v : Int32) (hv : x &&& y = v) (kk : qT X ω nL k Q g (pc + 1) ls (.int v :: st)) : qT X ω nL k Q g pc ls (.int y :: .int x :: st) := by
  obtain ⟨p, l, e, R, s, m, args, below, meth, c⟩ := X
  obtain ⟨hx, hb, hr, hml, hown, hts, -⟩ := C
  intro H locs la hw hS hl
  subst hv
  exact lv_iand hx hb hd (kk H locs la hw hS hl)
theorem q_ishr (C : qCx X ω own cc nL ret T fr mc) {x y : Int32} (hd : decode cc pc = .ok (.ishr, 1)) (v : Int32) (hv : x >>> (y &&& 31) = v) (kk : qT X ω nL k Q g (pc + 1) ls (.int v :: st)) : qT X ω nL k Q g pc ls (.int y :: .int x :: st) := by
  obtain ⟨p, l, e, R, s, m, args, below, meth, c⟩ := X
  obtain ⟨hx, hb, hr, hml, hown, hts, -⟩ := C
  intro H locs la hw hS hl
  subst hv
  exact lv_ishr hx hb hd (kk H locs la hw hS hl)
theorem q_lor (C : qCx X ω own cc nL ret T fr mc) {x y : Int64} (hd : decode cc pc = .ok (.lor, 1)) (v : Int64) (hv : x ||| y = v) (kk : qT X ω nL k Q g (pc + 1) ls (.long v :: st)) : qT X ω nL k Q g pc ls (.long y :: .long x :: st) := by
  obtain ⟨p, l, e, R, s, m, args, below, meth, c⟩ := X
  obtain ⟨hx, hb, hr, hml, hown, hts, -⟩ := C
  intro H locs la hw hS hl
  subst hv
  exact lv_lor hx hb hd (kk H locs la hw hS hl)
theorem q_lshl (C : qCx X ω own cc nL ret T fr mc) {x : Int64} {y : Int32} (hd : decode cc pc = .ok (.lshl, 1)) (v : Int64) (hv : x <<< (y.toInt64 &&& 63) = v) (kk : qT X ω nL k Q g (pc + 1) ls (.long v :: st)) : qT X ω nL k Q g pc ls (.int y :: .long x :: st) := by
  obtain ⟨p, l, e, R, s, m, args, below, meth, c⟩ := X
  obtain ⟨hx, hb, hr, hml, hown, hts, -⟩ := C
  intro H locs la hw hS hl
  exact lv_lshl hx hb hd hv (kk H locs la hw hS hl)
theorem q_lshr (C : qCx X ω own cc nL ret T fr mc) {x : Int64} {y : Int32} (hd : decode cc pc = .ok (.lshr, 1)) (v : Int64) (hv : x >>> (y.toInt64 &&& 63) = v) (kk : qT X ω nL k Q g (pc + 1) ls (.long v :: st)) : qT X ω nL k Q g pc ls (.int y :: .long x :: st) := by
  obtain ⟨p, l, e, R, s, m, args, below, meth, c⟩ := X
  obtain ⟨hx, hb, hr, hml, hown, hts, -⟩ := C
  intro H locs la hw hS hl
  exact lv_lshr hx hb hd hv (kk H locs la hw hS hl)
theorem q_i2l (C : qCx X ω own cc nL ret T fr mc) {a : Int} (hd : decode cc pc = .ok (.i2l, 1)) (ha : -2147483648 ≤ a ∧ a < 2147483648) (kk : qT X ω nL k Q g (pc + 1) ls (.long (lI a) :: st)) : qT X ω nL k Q g pc ls (.int (iI a) :: st) := by
  obtain ⟨p, l, e, R, s, m, args, below, meth, c⟩ := X
  obtain ⟨hx, hb, hr, hml, hown, hts, -⟩ := C
  intro H locs la hw hS hl
  exact lv_i2l hx hb hd (iI_l ha) (kk H locs la hw hS hl)
theorem q_l2i (C : qCx X ω own cc nL ret T fr mc) {a : Int} (hd : decode cc pc = .ok (.l2i, 1)) (kk : qT X ω nL k Q g (pc + 1) ls (.int (iI a) :: st)) : qT X ω nL k Q g pc ls (.long (lI a) :: st) := by
  obtain ⟨p, l, e, R, s, m, args, below, meth, c⟩ := X
  obtain ⟨hx, hb, hr, hml, hown, hts, -⟩ := C
  intro H locs la hw hS hl
  exact lv_l2i hx hb hd (lI_i a) (kk H locs la hw hS hl)
theorem q_i2c (C : qCx X ω own cc nL ret T fr mc) {x : Int32} (hd : decode cc pc = .ok (.i2c, 1)) (v : Int32) (hv : (x.toUInt32 % 65536).toInt32 = v) (kk : qT X ω nL k Q g (pc + 1) ls (.int v :: st)) : qT X ω nL k Q g pc ls (.int x :: st) := by
  obtain ⟨p, l, e, R, s, m, args, below, meth, c⟩ := X
  obtain ⟨hx, hb, hr, hml, hown, hts, -⟩ := C
  intro H locs la hw hS hl
  exact lv_i2c hx hb hd hv (kk H locs la hw hS hl)
theorem q_i2f (C : qCx X ω own cc nL ret T fr mc) {x : Int32} (hd : decode cc pc = .ok (.i2f, 1)) (kk : qT X ω nL k Q g (pc + 1) ls (.float (FP.i2f x) :: st)) : qT X ω nL k Q g pc ls (.int x :: st) := by
  obtain ⟨p, l, e, R, s, m, args, below, meth, c⟩ := X
  obtain ⟨hx, hb, hr, hml, hown, hts, -⟩ := C
  intro H locs la hw hS hl
  exact lv_i2f hx hb hd (kk H locs la hw hS hl)
theorem q_fdiv (C : qCx X ω own cc nL ret T fr mc) {x y : UInt32} (hd : decode cc pc = .ok (.fdiv, 1)) (hne : vf_n32 (FP.fdiv x y)) (kk : qT X ω nL k Q g (pc + 1) ls (.float (FP.fdiv x y) :: st)) : qT X ω nL k Q g pc ls (.float y :: .float x :: st) := by
  obtain ⟨p, l, e, R, s, m, args, below, meth, c⟩ := X
  obtain ⟨hx, hb, hr, hml, hown, hts, -⟩ := C
  intro H locs la hw hS hl
  exact lv_fdiv hx hb hd hne (kk H locs la hw hS hl)
theorem q_f2d (C : qCx X ω own cc nL ret T fr mc) {x : UInt32} (hd : decode cc pc = .ok (.f2d, 1)) (hne : vf_n64 (FP.f2d x)) (kk : qT X ω nL k Q g (pc + 1) ls (.double (FP.f2d x) :: st)) : qT X ω nL k Q g pc ls (.float x :: st) := by
  obtain ⟨p, l, e, R, s, m, args, below, meth, c⟩ := X
  obtain ⟨hx, hb, hr, hml, hown, hts, -⟩ := C
  intro H locs la hw hS hl
  exact lv_f2d hx hb hd hne (kk H locs la hw hS hl)
theorem q_fcmp (C : qCx X ω own cc nL ret T fr mc) {x y : UInt32} {op : CmpOp} (hd : decode cc pc = .ok (.fcmp op, 1)) (a : Int) (ha : Op.cmpValue (FP.fcmp x y) op = iI a) (kk : qT X ω nL k Q g (pc + 1) ls (.int (iI a) :: st)) : qT X ω nL k Q g pc ls (.float y :: .float x :: st) := by
  obtain ⟨p, l, e, R, s, m, args, below, meth, c⟩ := X
  obtain ⟨hx, hb, hr, hml, hown, hts, -⟩ := C
  intro H locs la hw hS hl
  exact lv_fcmp hx hb hd (by rw [ha]; exact kk H locs la hw hS hl)
theorem q_dcmp (C : qCx X ω own cc nL ret T fr mc) {x y : UInt64} {op : CmpOp} (hd : decode cc pc = .ok (.dcmp op, 1)) (a : Int) (ha : Op.cmpValue (FP.dcmp x y) op = iI a) (kk : qT X ω nL k Q g (pc + 1) ls (.int (iI a) :: st)) : qT X ω nL k Q g pc ls (.double y :: .double x :: st) := by
  obtain ⟨p, l, e, R, s, m, args, below, meth, c⟩ := X
  obtain ⟨hx, hb, hr, hml, hown, hts, -⟩ := C
  intro H locs la hw hS hl
  exact lv_dcmp hx hb hd (by rw [ha]; exact kk H locs la hw hS hl)
theorem q_fconst0 (C : qCx X ω own cc nL ret T fr mc)  (hd : decode cc pc = .ok (.fconst 0, 1)) (kk : qT X ω nL k Q g (pc + 1) ls (.float 0 :: st)) : qT X ω nL k Q g pc ls st := by
  obtain ⟨p, l, e, R, s, m, args, below, meth, c⟩ := X
  obtain ⟨hx, hb, hr, hml, hown, hts, -⟩ := C
  intro H locs la hw hS hl
  exact lv_fconst0 hx hb hd (kk H locs la hw hS hl)
def qCmp (a b : Int) : Int := if b < a then 1 else if a = b then 0 else -1
theorem lg_cmp_lI {a b : Int} (ha : -9223372036854775808 ≤ a ∧ a < 9223372036854775808) (hb : -9223372036854775808 ≤ b ∧ b < 9223372036854775808) : lg_cmp (lI a) (lI b) = iI (qCmp a b) := by
  have h1 : (lI b < lI a) ↔ b < a := by rw [Int64.lt_iff_toInt_lt, lI_t ha, lI_t hb]
  have h2 : (lI a = lI b) ↔ a = b := by rw [← Int64.toInt_inj, lI_t ha, lI_t hb]
  unfold lg_cmp qCmp
  simp only [h1, h2]
  split
  · rfl
  · split <;> rfl
theorem q_lcmp (C : qCx X ω own cc nL ret T fr mc) {a b : Int} (hd : decode cc pc = .ok (.lcmp, 1)) (ha : -9223372036854775808 ≤ a ∧ a < 9223372036854775808) (hb0 : -9223372036854775808 ≤ b ∧ b < 9223372036854775808) (kk : qT X ω nL k Q g (pc + 1) ls (.int (iI (qCmp a b)) :: st)) : qT X ω nL k Q g pc ls (.long (lI b) :: .long (lI a) :: st) := by
  obtain ⟨p, l, e, R, s, m, args, below, meth, c⟩ := X
  obtain ⟨hx, hb, hr, hml, hown, hts, -⟩ := C
  intro H locs la hw hS hl
  exact W.lcmp hx hb hd (by rw [lg_cmp_lI ha hb0]; exact kk H locs la hw hS hl)
theorem q_dup (C : qCx X ω own cc nL ret T fr mc) {v : Value} (hd : decode cc pc = .ok (.dup, 1)) (hv : v.category = 1) (kk : qT X ω nL k Q g (pc + 1) ls (v :: v :: st)) : qT X ω nL k Q g pc ls (v :: st) := by
  obtain ⟨p, l, e, R, s, m, args, below, meth, c⟩ := X
  obtain ⟨hx, hb, hr, hml, hown, hts, -⟩ := C
  intro H locs la hw hS hl
  exact lv_dup hx hb hd hv (kk H locs la hw hS hl)
theorem q_dup2 (C : qCx X ω own cc nL ret T fr mc) {v w : Value} (hd : decode cc pc = .ok (.dup2, 1)) (hv : v.category = 1) (hw0 : w.category = 1) (kk : qT X ω nL k Q g (pc + 1) ls (v :: w :: v :: w :: st)) : qT X ω nL k Q g pc ls (v :: w :: st) := by
  obtain ⟨p, l, e, R, s, m, args, below, meth, c⟩ := X
  obtain ⟨hx, hb, hr, hml, hown, hts, -⟩ := C
  intro H locs la hw hS hl
  exact lv_dup2_11 hx hb hd hv hw0 (kk H locs la hw hS hl)
theorem q_ifeq (C : qCx X ω own cc nL ret T fr mc) {a : Int} {off : Int} (tgt : Nat) (hd : decode cc pc = .ok (.ifCond .eq off, 3)) (ht : (pc : Int) + off = (tgt : Int)) (ha : -2147483648 ≤ a ∧ a < 2147483648) (kt : a = 0 → qT X ω nL k Q g tgt ls st) (kf : ¬ a = 0 → qT X ω nL k Q g (pc + 3) ls st) : qT X ω nL k Q g pc ls (.int (iI a) :: st) := by
  obtain ⟨p, l, e, R, s, m, args, below, meth, c⟩ := X
  obtain ⟨hx, hb, -⟩ := C
  intro H locs la hw hS hl
  exact lv_if_eq hx hb hd ht (fun h => kt ((iI_eq ha (by decide : -2147483648 ≤ (0 : Int) ∧ (0 : Int) < 2147483648)).mp (iI_0 ▸ h)) H locs la hw hS hl) (fun h => kf (fun q => h (by rw [iI_0]; exact (iI_eq ha (by decide : -2147483648 ≤ (0 : Int) ∧ (0 : Int) < 2147483648)).mpr q)) H locs la hw hS hl)
theorem q_ifne (C : qCx X ω own cc nL ret T fr mc) {a : Int} {off : Int} (tgt : Nat) (hd : decode cc pc = .ok (.ifCond .ne off, 3)) (ht : (pc : Int) + off = (tgt : Int)) (ha : -2147483648 ≤ a ∧ a < 2147483648) (kt : ¬ a = 0 → qT X ω nL k Q g tgt ls st) (kf : a = 0 → qT X ω nL k Q g (pc + 3) ls st) : qT X ω nL k Q g pc ls (.int (iI a) :: st) := by
  obtain ⟨p, l, e, R, s, m, args, below, meth, c⟩ := X
  obtain ⟨hx, hb, -⟩ := C
  intro H locs la hw hS hl
  exact lv_if_ne hx hb hd ht (fun h => kt (fun q => h (by rw [iI_0]; exact (iI_eq ha (by decide : -2147483648 ≤ (0 : Int) ∧ (0 : Int) < 2147483648)).mpr q)) H locs la hw hS hl) (fun h => kf ((iI_eq ha (by decide : -2147483648 ≤ (0 : Int) ∧ (0 : Int) < 2147483648)).mp (iI_0 ▸ h)) H locs la hw hS hl)
theorem q_iflt (C : qCx X ω own cc nL ret T fr mc) {a : Int} {off : Int} (tgt : Nat) (hd : decode cc pc = .ok (.ifCond .lt off, 3)) (ht : (pc : Int) + off = (tgt : Int)) (ha : -2147483648 ≤ a ∧ a < 2147483648) (kt : a < 0 → qT X ω nL k Q g tgt ls st) (kf : 0 ≤ a → qT X ω nL k Q g (pc + 3) ls st) : qT X ω nL k Q g pc ls (.int (iI a) :: st) := by
  obtain ⟨p, l, e, R, s, m, args, below, meth, c⟩ := X
  obtain ⟨hx, hb, -⟩ := C
  intro H locs la hw hS hl
  exact lv_if_lt hx hb hd ht (fun h => kt ((iI_lt ha (by decide : -2147483648 ≤ (0 : Int) ∧ (0 : Int) < 2147483648)).mp (iI_0 ▸ h)) H locs la hw hS hl) (fun h => kf (by have h2 := mt (iI_lt ha (by decide : -2147483648 ≤ (0 : Int) ∧ (0 : Int) < 2147483648)).mpr (iI_0 ▸ h); omega) H locs la hw hS hl)
theorem q_ifge (C : qCx X ω own cc nL ret T fr mc) {a : Int} {off : Int} (tgt : Nat) (hd : decode cc pc = .ok (.ifCond .ge off, 3)) (ht : (pc : Int) + off = (tgt : Int)) (ha : -2147483648 ≤ a ∧ a < 2147483648) (kt : 0 ≤ a → qT X ω nL k Q g tgt ls st) (kf : a < 0 → qT X ω nL k Q g (pc + 3) ls st) : qT X ω nL k Q g pc ls (.int (iI a) :: st) := by
  obtain ⟨p, l, e, R, s, m, args, below, meth, c⟩ := X
  obtain ⟨hx, hb, -⟩ := C
  intro H locs la hw hS hl
  exact lv_if_ge hx hb hd ht (fun h => kt ((iI_le (by decide : -2147483648 ≤ (0 : Int) ∧ (0 : Int) < 2147483648) ha).mp (iI_0 ▸ h)) H locs la hw hS hl) (fun h => kf (by have h2 := mt (iI_le (by decide : -2147483648 ≤ (0 : Int) ∧ (0 : Int) < 2147483648) ha).mpr (iI_0 ▸ h); omega) H locs la hw hS hl)
theorem q_ifle (C : qCx X ω own cc nL ret T fr mc) {a : Int} {off : Int} (tgt : Nat) (hd : decode cc pc = .ok (.ifCond .le off, 3)) (ht : (pc : Int) + off = (tgt : Int)) (ha : -2147483648 ≤ a ∧ a < 2147483648) (kt : a ≤ 0 → qT X ω nL k Q g tgt ls st) (kf : 0 < a → qT X ω nL k Q g (pc + 3) ls st) : qT X ω nL k Q g pc ls (.int (iI a) :: st) := by
  obtain ⟨p, l, e, R, s, m, args, below, meth, c⟩ := X
  obtain ⟨hx, hb, -⟩ := C
  intro H locs la hw hS hl
  exact lv_if_le hx hb hd ht (fun h => kt ((iI_le ha (by decide : -2147483648 ≤ (0 : Int) ∧ (0 : Int) < 2147483648)).mp (iI_0 ▸ h)) H locs la hw hS hl) (fun h => kf (by have h2 := mt (iI_le ha (by decide : -2147483648 ≤ (0 : Int) ∧ (0 : Int) < 2147483648)).mpr (iI_0 ▸ h); omega) H locs la hw hS hl)
theorem q_icmp_eq (C : qCx X ω own cc nL ret T fr mc) {a b : Int} {off : Int} (tgt : Nat) (hd : decode cc pc = .ok (.if_icmp .eq off, 3)) (ht : (pc : Int) + off = (tgt : Int)) (ha : -2147483648 ≤ a ∧ a < 2147483648) (hb0 : -2147483648 ≤ b ∧ b < 2147483648) (kt : a = b → qT X ω nL k Q g tgt ls st) (kf : ¬ a = b → qT X ω nL k Q g (pc + 3) ls st) : qT X ω nL k Q g pc ls (.int (iI b) :: .int (iI a) :: st) := by
  obtain ⟨p, l, e, R, s, m, args, below, meth, c⟩ := X
  obtain ⟨hx, hb, -⟩ := C
  intro H locs la hw hS hl
  exact lv_icmp_eq hx hb hd ht (fun h => kt ((iI_eq ha hb0).mp h) H locs la hw hS hl) (fun h => kf (fun q => h ((iI_eq ha hb0).mpr q)) H locs la hw hS hl)
theorem q_icmp_ne (C : qCx X ω own cc nL ret T fr mc) {a b : Int} {off : Int} (tgt : Nat) (hd : decode cc pc = .ok (.if_icmp .ne off, 3)) (ht : (pc : Int) + off = (tgt : Int)) (ha : -2147483648 ≤ a ∧ a < 2147483648) (hb0 : -2147483648 ≤ b ∧ b < 2147483648) (kt : ¬ a = b → qT X ω nL k Q g tgt ls st) (kf : a = b → qT X ω nL k Q g (pc + 3) ls st) : qT X ω nL k Q g pc ls (.int (iI b) :: .int (iI a) :: st) := by
  obtain ⟨p, l, e, R, s, m, args, below, meth, c⟩ := X
  obtain ⟨hx, hb, -⟩ := C
  intro H locs la hw hS hl
  exact lv_icmp_ne hx hb hd ht (fun h => kt (fun q => h ((iI_eq ha hb0).mpr q)) H locs la hw hS hl) (fun h => kf ((iI_eq ha hb0).mp h) H locs la hw hS hl)
theorem q_icmp_lt (C : qCx X ω own cc nL ret T fr mc) {a b : Int} {off : Int} (tgt : Nat) (hd : decode cc pc = .ok (.if_icmp .lt off, 3)) (ht : (pc : Int) + off = (tgt : Int)) (ha : -2147483648 ≤ a ∧ a < 2147483648) (hb0 : -2147483648 ≤ b ∧ b < 2147483648) (kt : a < b → qT X ω nL k Q g tgt ls st) (kf : b ≤ a → qT X ω nL k Q g (pc + 3) ls st) : qT X ω nL k Q g pc ls (.int (iI b) :: .int (iI a) :: st) := by
  obtain ⟨p, l, e, R, s, m, args, below, meth, c⟩ := X
  obtain ⟨hx, hb, -⟩ := C
  intro H locs la hw hS hl
  exact lv_icmp_lt hx hb hd ht (fun h => kt ((iI_lt ha hb0).mp h) H locs la hw hS hl) (fun h => kf (by have h2 := mt (iI_lt ha hb0).mpr h; omega) H locs la hw hS hl)
theorem q_icmp_ge (C : qCx X ω own cc nL ret T fr mc) {a b : Int} {off : Int} (tgt : Nat) (hd : decode cc pc = .ok (.if_icmp .ge off, 3)) (ht : (pc : Int) + off = (tgt : Int)) (ha : -2147483648 ≤ a ∧ a < 2147483648) (hb0 : -2147483648 ≤ b ∧ b < 2147483648) (kt : b ≤ a → qT X ω nL k Q g tgt ls st) (kf : a < b → qT X ω nL k Q g (pc + 3) ls st) : qT X ω nL k Q g pc ls (.int (iI b) :: .int (iI a) :: st) := by
  obtain ⟨p, l, e, R, s, m, args, below, meth, c⟩ := X
  obtain ⟨hx, hb, -⟩ := C
  intro H locs la hw hS hl
  exact lv_icmp_ge hx hb hd ht (fun h => kt ((iI_le hb0 ha).mp h) H locs la hw hS hl) (fun h => kf (by have h2 := mt (iI_le hb0 ha).mpr h; omega) H locs la hw hS hl)
theorem q_icmp_gt (C : qCx X ω own cc nL ret T fr mc) {a b : Int} {off : Int} (tgt : Nat) (hd : decode cc pc = .ok (.if_icmp .gt off, 3)) (ht : (pc : Int) + off = (tgt : Int)) (ha : -2147483648 ≤ a ∧ a < 2147483648) (hb0 : -2147483648 ≤ b ∧ b < 2147483648) (kt : b < a → qT X ω nL k Q g tgt ls st) (kf : a ≤ b → qT X ω nL k Q g (pc + 3) ls st) : qT X ω nL k Q g pc ls (.int (iI b) :: .int (iI a) :: st) := by
  obtain ⟨p, l, e, R, s, m, args, below, meth, c⟩ := X
  obtain ⟨hx, hb, -⟩ := C
  intro H locs la hw hS hl
  exact lv_icmp_gt hx hb hd ht (fun h => kt ((iI_lt hb0 ha).mp h) H locs la hw hS hl) (fun h => kf (by have h2 := mt (iI_lt hb0 ha).mpr h; omega) H locs la hw hS hl)
theorem q_icmp_le (C : qCx X ω own cc nL ret T fr mc) {a b : Int} {off : Int} (tgt : Nat) (hd : decode cc pc = .ok (.if_icmp .le off, 3)) (ht : (pc : Int) + off = (tgt : Int)) (ha : -2147483648 ≤ a ∧ a < 2147483648) (hb0 : -2147483648 ≤ b ∧ b < 2147483648) (kt : a ≤ b → qT X ω nL k Q g tgt ls st) (kf : b < a → qT X ω nL k Q g (pc + 3) ls st) : qT X ω nL k Q g pc ls (.int (iI b) :: .int (iI a) :: st) := by
  obtain ⟨p, l, e, R, s, m, args, below, meth, c⟩ := X
  obtain ⟨hx, hb, -⟩ := C
  intro H locs la hw hS hl
  exact lv_icmp_le hx hb hd ht (fun h => kt ((iI_le ha hb0).mp h) H locs la hw hS hl) (fun h => kf (by have h2 := mt (iI_le ha hb0).mpr h; omega) H locs la hw hS hl)
theorem q_goto (C : qCx X ω own cc nL ret T fr mc) {off : Int} (tgt : Nat) (hd : decode cc pc = .ok (.goto off, 3)) (ht : (pc : Int) + off = (tgt : Int)) (kk : qT X ω nL k Q g tgt ls st) : qT X ω nL k Q g pc ls st := by
  obtain ⟨p, l, e, R, s, m, args, below, meth, c⟩ := X
  obtain ⟨hx, hb, -⟩ := C
  intro H locs la hw hS hl
  exact lv_goto hx hb hd ht (kk H locs la hw hS hl)
theorem q_tableIn (C : qCx X ω own cc nL ret T fr mc) {a dflt lo hi off : Int} {offs : Array Int} {len : Nat} (tgt : Nat) (hd : decode cc pc = .ok (.tableswitch dflt lo hi offs, len)) (ha : -2147483648 ≤ a ∧ a < 2147483648) (h1 : lo ≤ a) (h2 : a ≤ hi) (ho : offs[(a - lo).toNat]? = some off) (ht : (pc : Int) + off = (tgt : Int)) (kk : qT X ω nL k Q g tgt ls st) : qT X ω nL k Q g pc ls (.int (iI a) :: st) := by
  obtain ⟨p, l, e, R, s, m, args, below, meth, c⟩ := X
  obtain ⟨hx, hb, -⟩ := C
  intro H locs la hw hS hl
  exact lv_tableIn hx hb hd (by rw [iI_t ha]; omega) (by rw [iI_t ha]; omega) (by rw [iI_t ha]; exact ho) ht (kk H locs la hw hS hl)
theorem q_tableOut (C : qCx X ω own cc nL ret T fr mc) {a dflt lo hi : Int} {offs : Array Int} {len : Nat} (tgt : Nat) (hd : decode cc pc = .ok (.tableswitch dflt lo hi offs, len)) (ha : -2147483648 ≤ a ∧ a < 2147483648) (h1 : a < lo ∨ hi < a) (ht : (pc : Int) + dflt = (tgt : Int)) (kk : qT X ω nL k Q g tgt ls st) : qT X ω nL k Q g pc ls (.int (iI a) :: st) := by
  obtain ⟨p, l, e, R, s, m, args, below, meth, c⟩ := X
  obtain ⟨hx, hb, -⟩ := C
  intro H locs la hw hS hl
  exact lv_tableOut hx hb hd (by rw [iI_t ha]; exact h1) ht (kk H locs la hw hS hl)
/-- fewer locals, in any order -/
theorem q_loc (l' : List (Nat × Value)) (h : lsub ls l') (kk : qT X ω nL k Q g pc l' st) : qT X ω nL k Q g pc ls st := by
  obtain ⟨p, l, e, R, s, m, args, below, meth, c⟩ := X
  intro H locs la hw hS hl
  exact kk H locs la hw hS (lsub_has hl h)
/-- all numbers lie between their bounds -/
theorem q_nm (kk : qNm g → qT X ω nL k Q g pc ls st) : qT X ω nL k Q g pc ls st := by
  obtain ⟨p, l, e, R, s, m, args, below, meth, c⟩ := X
  intro H locs la hw hS hl
  exact kk hw.2.2 H locs la hw hS hl
theorem q_widen {k2 : Nat} (h : k ≤ k2) (kk : qT X ω nL k2 Q g pc ls st) : qT X ω nL k Q g pc ls st := by
  obtain ⟨p, l, e, R, s, m, args, below, meth, c⟩ := X
  intro H locs la hw hS hl
  exact W.widen h (Nat.mul_le_mul_left 6 h) (kk H locs la hw hS hl)
theorem q_hp {g2 : qHp} (h : g = g2) (kk : qT X ω nL k Q g2 pc ls st) : qT X ω nL k Q g pc ls st := h ▸ kk
theorem q_getf (C : qCx X ω own cc nL ret T fr mc) {b ci j N idx : Nat} {ds : List qFd} {d : qFd} {Cn : String} {TT : u_T} (hlay : qLay b = .inr (ci, ds)) (hb38 : b < 24) (hc : vwCl[ci]? = some (Cn, TT, N)) (hin : ∀ w ∈ u_ws Cn TT N, w ∈ qAW) (hj : j < N) (hlink : Cond.fieldLink own idx (TT j).1 (TT j).2.1 (TT j).2.2.1 ∈ qAW) (hds : ds[j]? = some d) (hd : decode cc pc = .ok (.getfield idx, 3)) (kk : qT X ω nL k Q g (pc + 3) ls (qFv ω.1 (g b) j d :: st)) : qT X ω nL k Q g pc ls (.ref (ω.1 b) :: st) := by
  obtain ⟨p, l, e, R, s, m, args, below, meth, c⟩ := X
  obtain ⟨hx, hb, hr, hml, hown, hts, -, -, -, hst, -⟩ := C
  intro H locs la hw hS hl
  have he : (qWs ω.1 ω.2.1 g)[b]? = some (ω.1 b, .inr (ci, qFs ω.1 (g b) 0 ds)) := by
    rw [qWs_get _ _ _ hb38]
    unfold qCe
    rw [hlay]
  have hv := qFs_get ω.1 (g b) ds 0 j d hds
  rw [Nat.zero_add] at hv
  exact va_get (C := Cn) (T := TT) (N := N) (ref := (TT j).1) hx hb hts hin hown hst.1 hw.1 b he hc j hj (hts _ hlink) (fun x h => h) hv hd (kk H locs la hw hS hl)
theorem q_putf (C : qCx X ω own cc nL ret T fr mc) {b ci j N idx : Nat} {ds : List qFd} {lg : Bool} {Cn : String} {TT : u_T} {ty0 : Nat → FieldType} {ty : FieldType} {v : Value} (w : Int) (hlay : qLay b = .inr (ci, ds)) (hb38 : b < 24) (hc : vwCl[ci]? = some (Cn, TT, N)) (hin : ∀ w ∈ u_ws Cn TT N, w ∈ qAW) (hty : ∀ k, k < N → parseFieldDescriptor (TT k).2.2.1 = some (ty0 k)) (hnm : ∀ a, a < N → ∀ b, b < N → a ≠ b → (TT a).2.1 ≠ (TT b).2.1) (hj : j < N) (hlink : Cond.fieldLink own idx (TT j).1 (TT j).2.1 (TT j).2.2.1 ∈ qAW) (hfin : (TT j).2.2.2 = false) (hde : parseFieldDescriptor (TT j).2.2.1 = some ty) (hnar : narrow ty v = v) (hfit : fits ty v = true) (hds : ds[j]? = some (.inr lg)) (hv : v = qFv ω.1 (fun _ => w) 0 (.inr lg)) (hrg : (qRng b j).1 ≤ w ∧ w ≤ (qRng b j).2) (hd : decode cc pc = .ok (.putfield idx, 3)) (kk : qT X ω nL k Q (qUp g b j w) (pc + 3) ls st) : qT X ω nL k Q g pc ls (v :: .ref (ω.1 b) :: st) := by
  obtain ⟨p, l, e, R, s, m, args, below, meth, c⟩ := X
  obtain ⟨hx, hb, hr, hml, hown, hts, -, -, -, hst, -⟩ := C
  intro H locs la hw hS hl
  have he : (qWs ω.1 ω.2.1 g)[b]? = some (ω.1 b, .inr (ci, qFs ω.1 (g b) 0 ds)) := by
    rw [qWs_get _ _ _ hb38]
    unfold qCe
    rw [hlay]
  have hjl : j < (qFs ω.1 (g b) 0 ds).length := by
    rw [qFs_len]
    exact (List.getElem?_eq_some_iff.mp hds).1
  have hset : (qWs ω.1 ω.2.1 g).set b (ω.1 b, .inr (ci, (qFs ω.1 (g b) 0 ds).set j v)) = qWs ω.1 ω.2.1 (qUp g b j w) := by
    rw [← qWs_set hb38]
    congr 2
    unfold qCe
    rw [hlay]
    congr 2
    have h := qFs_set ω.1 (g b) w ds 0 j lg hds
    rw [Nat.zero_add] at h
    have e1 : v = qFv ω.1 (fun i => if i = ((j : Nat) : Int) then w else g b i) j (.inr lg) := by
      rw [hv]
      cases lg <;> simp [qFv]
    have e2 : (fun i => if i = ((j : Nat) : Int) then w else g b i) = qUp g b j w b := by
      funext i
      simp [qUp]
    rw [e1, h, e2]
  refine va_put (C := Cn) (T := TT) (N := N) (ref := (TT j).1) hx hb hts hin ty0 hty hnm hown hst.1 hw.1 hw.2.1 hS b he hc j hj (hts _ hlink) (fun x h => h) hfin hde hnar hfit hjl hd (fun H1 locs1 hP1 hD1 hS1 => ?_)
  rw [hset] at hP1 hD1
  exact kk H1 locs1 la ⟨hP1, hD1, qUp_nm hw.2.2 hrg⟩ hS1 hl
theorem q_iald (C : qCx X ω own cc nL ret T fr mc) {b n : Nat} {a : Int} (lo hi : Int) (hlay : qLay b = .inl (0, n)) (hb38 : b < 24) (hn : n < 2147483648) (hi0 : 0 ≤ a ∧ a < n) (hrg : ∀ j, qRng b j = (lo, hi)) (hd : decode cc pc = .ok (.iaload, 1)) (kk : ∀ v : Int, v = g b a → lo ≤ v → v ≤ hi → qT X ω nL k Q g (pc + 1) ls (.int (iI v) :: st)) : qT X ω nL k Q g pc ls (.int (iI a) :: .ref (ω.1 b) :: st) := by
  obtain ⟨p, l, e, R, s, m, args, below, meth, c⟩ := X
  obtain ⟨hx, hb, hr, hml, hown, hts, -, -, -, hst, -⟩ := C
  intro H locs la hw hS hl
  have he : (qWs ω.1 ω.2.1 g)[b]? = some (ω.1 b, .inl (ω.2.1 0, qAr 0 n (g b))) := by
    rw [qWs_get _ _ _ hb38]
    unfold qCe
    rw [hlay]
  have hq := hw.2.2 b a
  rw [hrg a] at hq
  have ht : (((iI a).toNatClampNeg : Nat) : Int) = a := by rw [iI_cl ⟨hi0.1, by omega⟩]; omega
  refine va_iald hx hb hst.1 hw.1 b 0 he rfl (iI_in ⟨hi0.1, hi0.2⟩ hn) hd ?_
  rw [ht]
  exact kk (g b a) rfl hq.1 hq.2 H locs la hw hS hl
theorem q_cald (C : qCx X ω own cc nL ret T fr mc) {b n : Nat} {a : Int} (lo hi : Int) (hlay : qLay b = .inl (1, n)) (hb38 : b < 24) (hn : n < 2147483648) (hi0 : 0 ≤ a ∧ a < n) (hrg : ∀ j, qRng b j = (lo, hi)) (hd : decode cc pc = .ok (.caload, 1)) (kk : ∀ v : Int, v = g b a → lo ≤ v → v ≤ hi → qT X ω nL k Q g (pc + 1) ls (.int (iI v) :: st)) : qT X ω nL k Q g pc ls (.int (iI a) :: .ref (ω.1 b) :: st) := by
  obtain ⟨p, l, e, R, s, m, args, below, meth, c⟩ := X
  obtain ⟨hx, hb, hr, hml, hown, hts, -, -, -, hst, -⟩ := C
  intro H locs la hw hS hl
  have he : (qWs ω.1 ω.2.1 g)[b]? = some (ω.1 b, .inl (ω.2.1 1, qAr 1 n (g b))) := by
    rw [qWs_get _ _ _ hb38]
    unfold qCe
    rw [hlay]
  have hq := hw.2.2 b a
  rw [hrg a] at hq
  have ht : (((iI a).toNatClampNeg : Nat) : Int) = a := by rw [iI_cl ⟨hi0.1, by omega⟩]; omega
  refine va_cald hx hb hst.1 hw.1 b 1 he rfl (iI_in ⟨hi0.1, hi0.2⟩ hn) hd ?_
  rw [ht]
  exact kk (g b a) rfl hq.1 hq.2 H locs la hw hS hl
theorem q_lald (C : qCx X ω own cc nL ret T fr mc) {b n : Nat} {a : Int} (lo hi : Int) (hlay : qLay b = .inl (3, n)) (hb38 : b < 24) (hn : n < 2147483648) (hi0 : 0 ≤ a ∧ a < n) (hrg : ∀ j, qRng b j = (lo, hi)) (hd : decode cc pc = .ok (.laload, 1)) (kk : ∀ v : Int, v = g b a → lo ≤ v → v ≤ hi → qT X ω nL k Q g (pc + 1) ls (.long (lI v) :: st)) : qT X ω nL k Q g pc ls (.int (iI a) :: .ref (ω.1 b) :: st) := by
  obtain ⟨p, l, e, R, s, m, args, below, meth, c⟩ := X
  obtain ⟨hx, hb, hr, hml, hown, hts, -, -, -, hst, -⟩ := C
  intro H locs la hw hS hl
  have he : (qWs ω.1 ω.2.1 g)[b]? = some (ω.1 b, .inl (ω.2.1 3, qAr 3 n (g b))) := by
    rw [qWs_get _ _ _ hb38]
    unfold qCe
    rw [hlay]
  have hq := hw.2.2 b a
  rw [hrg a] at hq
  have ht : (((iI a).toNatClampNeg : Nat) : Int) = a := by rw [iI_cl ⟨hi0.1, by omega⟩]; omega
  refine va_lald hx hb hst.1 hw.1 b 3 he rfl (iI_in ⟨hi0.1, hi0.2⟩ hn) hd ?_
  rw [ht]
  exact kk (g b a) rfl hq.1 hq.2 H locs la hw hS hl
theorem qAr_set {t n b : Nat} {g : qHp} {a w : Int} (h : 0 ≤ a ∧ a < 2147483648) (ht : t < 3) : ((n, .inl (upd (fun j => iI (g b j)) (iI a).toNatClampNeg (iI w))) : vp_A) = qAr t n (qUp g b a w b) := by
  have e : upd (fun j => iI (g b j)) (iI a).toNatClampNeg (iI w) = fun j : Nat => iI (qUp g b a w b j) := by
    funext j
    unfold upd qUp
    rw [iI_cl h]
    by_cases hj : j = a.toNat
    · have : (j : Int) = a := by omega
      rw [if_pos hj, if_pos ⟨rfl, this⟩]
    · have : ¬ (j : Int) = a := by omega
      rw [if_neg hj, if_neg (fun q => this q.2)]
  rw [e]
  match t, ht with
  | 0, _ => rfl
  | 1, _ => rfl
  | 2, _ => rfl
theorem qAr_setL {n b : Nat} {g : qHp} {a w : Int} (h : 0 ≤ a ∧ a < 2147483648) : ((n, .inr (.inl (vp_updL (fun j => lI (g b j)) (iI a).toNatClampNeg (lI w)))) : vp_A) = qAr 3 n (qUp g b a w b) := by
  have e : vp_updL (fun j => lI (g b j)) (iI a).toNatClampNeg (lI w) = fun j : Nat => lI (qUp g b a w b j) := by
    funext j
    unfold vp_updL qUp
    rw [iI_cl h]
    by_cases hj : j = a.toNat
    · have : (j : Int) = a := by omega
      rw [if_pos hj, if_pos ⟨rfl, this⟩]
    · have : ¬ (j : Int) = a := by omega
      rw [if_neg hj, if_neg (fun q => this q.2)]
  rw [e]
  rfl
theorem qAr_setD {n b : Nat} {g : qHp} {a : Int} {x : UInt64} (h : 0 ≤ a ∧ a < 2147483648) : ((n, .inr (.inr (.inr (.inl (vf_upd (fun j => UInt64.ofNat (g b j).toNat) (iI a).toNatClampNeg x))))) : vp_A) = qAr 4 n (qUp g b a x.toNat b) := by
  have e : vf_upd (fun j => UInt64.ofNat (g b j).toNat) (iI a).toNatClampNeg x = fun j : Nat => UInt64.ofNat (qUp g b a x.toNat b j).toNat := by
    funext j
    unfold vf_upd qUp
    rw [iI_cl h]
    by_cases hj : j = a.toNat
    · have : (j : Int) = a := by omega
      rw [if_pos hj, if_pos ⟨rfl, this⟩]
      simp
    · have : ¬ (j : Int) = a := by omega
      rw [if_neg hj, if_neg (fun q => this q.2)]
  rw [e]
  rfl
theorem nar_c {w : Int} (h : 0 ≤ w ∧ w < 65536) : vp_nar .char (iI w) = iI w := by
  obtain ⟨n, rfl⟩ : ∃ n : Nat, w = n := ⟨w.toNat, by omega⟩
  have e : iI (n : Int) = nI n := rfl
  rw [e]
  have h2 := (pk_charN (q := n) (by omega)).1
  unfold vp_nar
  rw [h2]
theorem nar_z {w : Int} (h : w = 0 ∨ w = 1) : vp_nar .boolean (iI w) = iI w := by
  rcases h with rfl | rfl <;> decide +kernel
theorem q_iast (C : qCx X ω own cc nL ret T fr mc) {b n : Nat} {a w : Int} (hlay : qLay b = .inl (0, n)) (hb38 : b < 24) (hn : n < 2147483648) (hi0 : 0 ≤ a ∧ a < n)  (hrg : (qRng b a).1 ≤ w ∧ w ≤ (qRng b a).2) (hd : decode cc pc = .ok (.iastore, 1)) (kk : qT X ω nL k Q (qUp g b a w) (pc + 1) ls st) : qT X ω nL k Q g pc ls (.int (iI w) :: .int (iI a) :: .ref (ω.1 b) :: st) := by
  obtain ⟨p, l, e, R, s, m, args, below, meth, c⟩ := X
  obtain ⟨hx, hb, hr, hml, hown, hts, -, -, -, hst, -⟩ := C
  intro H locs la hw hS hl
  have he : (qWs ω.1 ω.2.1 g)[b]? = some (ω.1 b, .inl (ω.2.1 0, qAr 0 n (g b))) := by
    rw [qWs_get _ _ _ hb38]
    unfold qCe
    rw [hlay]
  refine va_iast hx hb hst.1 hw.1 hw.2.1 hS b 0 he rfl (iI_in ⟨hi0.1, hi0.2⟩ hn) hd (fun H1 locs1 hP1 hD1 hS1 => ?_)
  rw [qAr_set (t := 0) (by omega) (by decide)] at hP1 hD1
  have hset : (qWs ω.1 ω.2.1 g).set b (ω.1 b, .inl (ω.2.1 0, qAr 0 n (qUp g b a w b))) = qWs ω.1 ω.2.1 (qUp g b a w) := by
    rw [← qWs_set hb38]
    congr 2
    unfold qCe
    rw [hlay]
  rw [hset] at hP1 hD1
  exact kk H1 locs1 la ⟨hP1, hD1, qUp_nm hw.2.2 hrg⟩ hS1 hl
theorem q_cast (C : qCx X ω own cc nL ret T fr mc) {b n : Nat} {a w : Int} (hlay : qLay b = .inl (1, n)) (hb38 : b < 24) (hn : n < 2147483648) (hi0 : 0 ≤ a ∧ a < n) (hch : 0 ≤ w ∧ w < 65536) (hrg : (qRng b a).1 ≤ w ∧ w ≤ (qRng b a).2) (hd : decode cc pc = .ok (.castore, 1)) (kk : qT X ω nL k Q (qUp g b a w) (pc + 1) ls st) : qT X ω nL k Q g pc ls (.int (iI w) :: .int (iI a) :: .ref (ω.1 b) :: st) := by
  obtain ⟨p, l, e, R, s, m, args, below, meth, c⟩ := X
  obtain ⟨hx, hb, hr, hml, hown, hts, -, -, -, hst, -⟩ := C
  intro H locs la hw hS hl
  have he : (qWs ω.1 ω.2.1 g)[b]? = some (ω.1 b, .inl (ω.2.1 1, qAr 1 n (g b))) := by
    rw [qWs_get _ _ _ hb38]
    unfold qCe
    rw [hlay]
  refine va_cast hx hb hst.1 hw.1 hw.2.1 hS b 1 he rfl (iI_in ⟨hi0.1, hi0.2⟩ hn) hd (fun H1 locs1 hP1 hD1 hS1 => ?_)
  rw [nar_c hch] at hP1 hD1
  rw [qAr_set (t := 1) (by omega) (by decide)] at hP1 hD1
  have hset : (qWs ω.1 ω.2.1 g).set b (ω.1 b, .inl (ω.2.1 1, qAr 1 n (qUp g b a w b))) = qWs ω.1 ω.2.1 (qUp g b a w) := by
    rw [← qWs_set hb38]
    congr 2
    unfold qCe
    rw [hlay]
  rw [hset] at hP1 hD1
  exact kk H1 locs1 la ⟨hP1, hD1, qUp_nm hw.2.2 hrg⟩ hS1 hl
theorem q_last (C : qCx X ω own cc nL ret T fr mc) {b n : Nat} {a w : Int} (hlay : qLay b = .inl (3, n)) (hb38 : b < 24) (hn : n < 2147483648) (hi0 : 0 ≤ a ∧ a < n)  (hrg : (qRng b a).1 ≤ w ∧ w ≤ (qRng b a).2) (hd : decode cc pc = .ok (.lastore, 1)) (kk : qT X ω nL k Q (qUp g b a w) (pc + 1) ls st) : qT X ω nL k Q g pc ls (.long (lI w) :: .int (iI a) :: .ref (ω.1 b) :: st) := by
  obtain ⟨p, l, e, R, s, m, args, below, meth, c⟩ := X
  obtain ⟨hx, hb, hr, hml, hown, hts, -, -, -, hst, -⟩ := C
  intro H locs la hw hS hl
  have he : (qWs ω.1 ω.2.1 g)[b]? = some (ω.1 b, .inl (ω.2.1 3, qAr 3 n (g b))) := by
    rw [qWs_get _ _ _ hb38]
    unfold qCe
    rw [hlay]
  refine va_last hx hb hst.1 hw.1 hw.2.1 hS b 3 he rfl (iI_in ⟨hi0.1, hi0.2⟩ hn) hd (fun H1 locs1 hP1 hD1 hS1 => ?_)
  rw [qAr_setL (by omega)] at hP1 hD1
  have hset : (qWs ω.1 ω.2.1 g).set b (ω.1 b, .inl (ω.2.1 3, qAr 3 n (qUp g b a w b))) = qWs ω.1 ω.2.1 (qUp g b a w) := by
    rw [← qWs_set hb38]
    congr 2
    unfold qCe
    rw [hlay]
  rw [hset] at hP1 hD1
  exact kk H1 locs1 la ⟨hP1, hD1, qUp_nm hw.2.2 hrg⟩ hS1 hl
end QR
