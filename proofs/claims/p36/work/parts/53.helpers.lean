/-! rows of the law: long products, constants, low and cell (they change nothing), catching among many ranges -/
theorem cn_7 : Cond.constant RL 7 910003 ∈ qAW := qm 192 (by decide +kernel) rfl
theorem cn_8 : Cond.constant RL 8 2147483647 ∈ qAW := qm 196 (by decide +kernel) rfl
theorem cn_108 : Cond.constantLong RL 108 37 ∈ qAW := qm 758 (by decide +kernel) rfl
theorem cn_116 : Cond.constantLong RL 116 31 ∈ qAW := qm 759 (by decide +kernel) rfl
theorem cn_118 : Cond.constantLong RL 118 99 ∈ qAW := qm 760 (by decide +kernel) rfl
theorem mL_low : qMts yL_low (.code yL_low cL_low 2 (some .int)) cL_low 2 (some .int) 2 := ⟨rfl, qm 195 (by decide +kernel) rfl, qm 194 (by decide +kernel) rfl, qm 15 (by decide +kernel) rfl, (by decide +kernel), (by decide +kernel)⟩
theorem mL_cell : qMts yL_cell (.code yL_cell cL_cell 2 (some .int)) cL_cell 2 (some .int) 2 := ⟨rfl, qm 191 (by decide +kernel) rfl, qm 190 (by decide +kernel) rfl, qm 15 (by decide +kernel) rfl, (by decide +kernel), (by decide +kernel)⟩
def lowI (v n : Int) : Int := (iI v &&& 2147483647).toInt % n
theorem and_nn (x : Int32) : 0 ≤ (x &&& 2147483647).toInt := by
  show 0 ≤ (x &&& 2147483647).toBitVec.toInt
  refine BitVec.toInt_nonneg_of_msb_false ?_
  rw [Int32.toBitVec_and, BitVec.msb_and]
  rw [show (2147483647 : Int32).toBitVec.msb = false by decide +kernel, Bool.and_false]
theorem low_rng (v : Int) {n : Int} (h : 0 < n) : 0 ≤ lowI v n ∧ lowI v n < n := by
  unfold lowI
  exact ⟨Int.emod_nonneg _ (by omega), Int.emod_lt_of_pos _ h⟩
abbrev rmZ : Room := { frames := 0, cells := 0, slots := 0, locals := 0 }
abbrev noA0 : Nat → Prop := fun _ => False
theorem low_M (l : Launch) (v n : Int) (hn : 0 < n ∧ n < 2147483648) : Met l yL_low (qWds (.code yL_low cL_low 2 (some .int))) rmZ (va_Pc [.int (iI v), .int (iI n)] (fun _ => True)) (va_Qi (fun (r : Int32) (_ : Unit) => r = iI (lowI v n)) (fun _ _ => True) noA0) 0 0 noA0 := by
  refine Met.ofW (cc := cL_low) (maxL := 2) (ret := some .int) (by decide +kernel) rfl ?_
  intro p e s m args below meth c s₁ B hml hv
  obtain ⟨rfl, -⟩ := hv
  have hx := B.exec
  have hb := B.bytes
  have hr := B.returns
  have hts0 := atoms_spec (ws := qWds (.code yL_low cL_low 2 (some .int))) B.pre
  have hts := fun w (h : w ∈ qAW) => hts0 w (List.mem_cons_of_mem _ h)
  have hown : s.vm.findClass RL = some m.cls := findClass_of_methodNamed B.named
  have hlocks := B.notSynchronized
  have hS : va_S noA0 s.heap s.heap [] := va_S.rf
  have hl := lv_entry ([.int (iI v), .int (iI n)]) (n := 2) (Nat.le_of_ble_eq_true rfl)
  rw [lg_entry_eq]
  generalize (lg_sl ([.int (iI v), .int (iI n)]) ++ List.replicate (2 - (lg_sl ([.int (iI v), .int (iI n)])).length) Slot.unset).toArray = ls at hl ⊢
  have hl : lv_has ls 2 [(0, .int (iI v)), (1, .int (iI n))] := hl
  refine lv_iload_n hx hb dL_low_0 rfl (lv_at hl 0 rfl) ?_
  refine lv_ldc hx hb hown (hts _ cn_8) dL_low_1 ?_
  refine lv_iand hx hb dL_low_3 ?_
  refine lv_iload_n hx hb dL_low_4 rfl (lv_at hl 1 rfl) ?_
  refine lv_irem hx hb dL_low_5 (iI_ne0 hn) ?_
  have e : (iI v &&& 2147483647) = iI (iI v &&& 2147483647).toInt := iI_of _
  have hrg := iI_rng (iI v &&& 2147483647)
  rw [e, iI_rem ⟨and_nn _, hrg.2⟩ hn]
  exact W.iret hx hb hr (fun t ht hW => ⟨⟨_, (), rfl, rfl, trivial⟩, hS.F ht⟩) hS.2.2 dL_low_6
theorem cell_M (l : Launch) (b L : Nat) (xs : Nat → Int32) (k : Int) (hk : 0 ≤ k ∧ k < 2147483648) (hL : L < 2147483648) : Met l yL_cell (qWds (.code yL_cell cL_cell 2 (some .int))) rmZ (va_Pc [.ref b, .int (iI k)] (fun U => va_X b L xs U U.heap ∧ b < U.heap.size)) (va_Qi (fun (_ : Int32) (_ : Unit) => True) (fun _ _ => True) noA0) 0 0 noA0 := by
  refine Met.ofW (cc := cL_cell) (maxL := 2) (ret := some .int) (by decide +kernel) rfl ?_
  intro p e s m args below meth c s₁ B hml hv
  obtain ⟨rfl, hX, hbl⟩ := hv
  have hx := B.exec
  have hb := B.bytes
  have hr := B.returns
  have hts0 := atoms_spec (ws := qWds (.code yL_cell cL_cell 2 (some .int))) B.pre
  have hts := fun w (h : w ∈ qAW) => hts0 w (List.mem_cons_of_mem _ h)
  have hown : s.vm.findClass RL = some m.cls := findClass_of_methodNamed B.named
  have hlocks := B.notSynchronized
  have hS : va_S noA0 s.heap s.heap [] := va_S.rf
  have hl := lv_entry ([.ref b, .int (iI k)]) (n := 2) (Nat.le_of_ble_eq_true rfl)
  rw [lg_entry_eq]
  generalize (lg_sl ([.ref b, .int (iI k)]) ++ List.replicate (2 - (lg_sl ([.ref b, .int (iI k)])).length) Slot.unset).toArray = ls at hl ⊢
  have hl : lv_has ls 2 [(0, .ref b), (1, .int (iI k))] := hl
  refine lv_iload_n hx hb dL_cell_0 rfl (lv_at hl 1 rfl) ?_
  refine lv_aload_n hx hb dL_cell_1 rfl (lv_at hl 0 rfl) ?_
  refine va_slen hx hb hX hbl (fun h => h) hS dL_cell_2 ?_
  have eL : Int32.ofNat L = iI (L : Int) := Int32.ofInt_eq_ofNat.symm
  rw [eL]
  refine lv_icmp_ge (tgt := 12) hx hb dL_cell_3 (by decide) (fun cg => ?_) (fun cg => ?_)
  · refine lv_ldc hx hb hown (hts _ cn_7) dL_cell_12 ?_
    refine lv_iload_n hx hb dL_cell_14 rfl (lv_at hl 1 rfl) ?_
    refine lv_imul hx hb dL_cell_15 ?_
    refine lv_sipush (v := iI 227) hx hb dL_cell_16 (by decide +kernel) ?_
    refine lv_iadd hx hb dL_cell_19 ?_
    exact W.iret hx hb hr (fun t ht hW => ⟨⟨_, (), rfl, trivial, trivial⟩, hS.F ht⟩) hS.2.2 dL_cell_20
  · have hkL : k < (L : Int) := by
      have h2 := mt (iI_le (a := (L : Int)) (b := k) (by omega) (by omega)).mpr cg
      omega
    refine lv_aload_n hx hb dL_cell_6 rfl (lv_at hl 0 rfl) ?_
    refine lv_iload_n hx hb dL_cell_7 rfl (lv_at hl 1 rfl) ?_
    refine va_sld hx hb hX hbl (fun h => h) hS (iI_in ⟨hk.1, hkL⟩ hL) dL_cell_8 ?_
    refine lv_goto (tgt := 20) hx hb dL_cell_9 (by decide) ?_
    exact W.iret hx hb hr (fun t ht hW => ⟨⟨_, (), rfl, trivial, trivial⟩, hS.F ht⟩) hS.2.2 dL_cell_20
section PUR
variable {p : Program} {l : Launch} {e : Env} {R : Room} {s : State} {m : MethodId} {args : Array Value} {below : List Frame} {meth : Method} {c : Code} {H : Heap} {locs : List Loc} {cells slots : Nat} {Q : State → Prop}
variable {cc : ByteArray} {pc nL : Nat} {ls : Array Slot} {rest : List Value} {A : Nat → Prop} {H0 : Heap}
theorem c_low (S : CallFix p m c cc nL s args qAW RL) {v n : Int} (hn : 0 < n ∧ n < 2147483648) (hfr : 1 ≤ R.frames) (hlo : 40 ≤ R.locals) (hls : ls.size = nL) (hcat : (rest.map fun v => v.category).sum ≤ 8) (hdg : decode cc pc = .ok (.invokestatic 139, 3)) (hcl : cells ≤ R.cells) (hsl : slots ≤ R.slots) (hS : va_S A H0 H locs)
    (kk : ∀ (H1 : Heap) (locs1 : List Loc), H.size ≤ H1.size → (∀ q : Nat, q < H.size → H1[q]? = H[q]?) → va_S A H0 H1 locs1 → W p l e R s m args below meth c H1 locs1 cells slots Q (F0 m (pc + 3) ls (.int (iI (lowI v n)) :: rest))) : W p l e R s m args below meth c H locs cells slots Q (F0 m pc ls (.int (iI n) :: .int (iI v) :: rest)) := by
  have hts := S.2.2.2.2
  obtain ⟨-, m1, m2, m4, m5, m6⟩ := mL_low
  have hrun := va_runS (Ts := qAW) (As := [.int (iI v), .int (iI n)]) (rest := rest) (g := F0 m pc ls (.int (iI n) :: .int (iI v) :: rest)) (H := H) (l := l) (below := below) (meth := meth) (e := e) (R := R) (locs := locs) (cells := cells) (slots := slots) S (low_M l v n hn) ⟨callB_of (ws' := qAW) 2 hts (qWds_good m1) rfl rfl rfl (hts _ m4) (hts _ ml_L_139) m5 ⟨hfr, by show 8 + (2 + 11) + 0 ≤ R.locals; omega⟩, hts _ m2⟩ ⟨fun _ _ _ _ q => q, fun U hU hW => ⟨rfl, trivial⟩⟩ rfl rfl hls rfl (lv_room hcat) hdg ⟨hcl, hsl⟩
  refine va_calli hrun hS (fun _ _ h => h.elim) (fun _ h => h.elim) (fun r u t H1 locs1 ht hvm hp hB hz hk hS1 => ?_)
  subst hp
  exact kk H1 locs1 hz (fun q hq => hk q hq (fun h => h)) hS1
theorem c_cell (S : CallFix p m c cc nL s args qAW RL) {b L : Nat} {xs : Nat → Int32} {k : Int} (hk0 : 0 ≤ k ∧ k < 2147483648) (hL : L < 2147483648) (hX : va_X b L xs s H0) (hbl : b < H0.size) (hbA : ¬ A b) (hfr : 1 ≤ R.frames) (hlo : 40 ≤ R.locals) (hls : ls.size = nL) (hcat : (rest.map fun v => v.category).sum ≤ 8) (hdg : decode cc pc = .ok (.invokestatic 135, 3)) (hcl : cells ≤ R.cells) (hsl : slots ≤ R.slots) (hS : va_S A H0 H locs)
    (kk : ∀ (z : Int) (H1 : Heap) (locs1 : List Loc), (-2147483648 ≤ z ∧ z < 2147483648) → H.size ≤ H1.size → (∀ q : Nat, q < H.size → H1[q]? = H[q]?) → va_S A H0 H1 locs1 → W p l e R s m args below meth c H1 locs1 cells slots Q (F0 m (pc + 3) ls (.int (iI z) :: rest))) : W p l e R s m args below meth c H locs cells slots Q (F0 m pc ls (.int (iI k) :: .ref b :: rest)) := by
  have hts := S.2.2.2.2
  obtain ⟨-, m1, m2, m4, m5, m6⟩ := mL_cell
  have hXH : va_X b L xs s H := hX.kept (hS.2.1 b hbl hbA)
  have hrun := va_runS (Ts := qAW) (As := [.ref b, .int (iI k)]) (rest := rest) (g := F0 m pc ls (.int (iI k) :: .ref b :: rest)) (H := H) (l := l) (below := below) (meth := meth) (e := e) (R := R) (locs := locs) (cells := cells) (slots := slots) S (cell_M l b L xs k hk0 hL) ⟨callB_of (ws' := qAW) 2 hts (qWds_good m1) rfl rfl rfl (hts _ m4) (hts _ ml_L_135) m5 ⟨hfr, by show 8 + (2 + 11) + 0 ≤ R.locals; omega⟩, hts _ m2⟩ ⟨fun _ U g mk q => ⟨q.1, va_X.moved (u := U) (U := U.calling g mk _) (Vm.Alike.refl U.vm) q.2.1, q.2.2⟩, fun U hU hW => ⟨rfl, by rw [hU]; exact hXH.moved hW.alike, by rw [hU]; exact Nat.lt_of_lt_of_le hbl hS.1⟩⟩ rfl rfl hls rfl (lv_room hcat) hdg ⟨hcl, hsl⟩
  refine va_calli hrun hS (fun _ _ h => h.elim) (fun _ h => h.elim) (fun r u t H1 locs1 ht hvm hp hB hz hk hS1 => ?_)
  rw [iI_of r]
  exact kk r.toInt H1 locs1 (iI_rng r) hz (fun q hq => hk q hq (fun h => h)) hS1
end PUR
section LR2
variable {X : qEnv} {ω : qOm} {own : String} {cc : ByteArray} {nL : Nat} {ret : Option FieldType} {T : List ExceptionTableEntry} {fr mc k : Nat} {Q : State → Prop} {g : qHp} {pc : Nat} {ls : List (Nat × Value)} {st : List Value}
theorem qDy_kept {ω : qOm} {g : qHp} {H H1 : Heap} (h : qDy ω g H) (hk : ∀ q : Nat, q < H.size → H1[q]? = H[q]?) : qDy ω g H1 := ⟨h.1.kept (fun j q hj => hk q.1 (h.1 j q hj).lt), h.2⟩
theorem q_low (C : qCx X ω RL cc nL ret T fr mc) {v n : Int} (hn : 0 < n ∧ n < 2147483648) (hcat : (st.map fun v => v.category).sum ≤ 8) (hd : decode cc pc = .ok (.invokestatic 139, 3)) (hfr : 1 ≤ fr) (hk : k ≤ mc) (kk : qT X ω nL k Q g (pc + 3) ls (.int (iI (lowI v n)) :: st)) : qT X ω nL k Q g pc ls (.int (iI n) :: .int (iI v) :: st) := by
  obtain ⟨p, l, e, R, s, m, args, below, meth, c⟩ := X
  obtain ⟨hx, hb, hr, hml, hown, hts, hlk0, htb, hlt, hSt, hfR, hlR, hcR, hsR⟩ := C
  intro H locs la hw hS hl
  exact c_low ⟨hx, hb, hml, hown, hts⟩ hn (by omega) (by omega) hl.1 hcat hd (by omega) (by omega) hS (fun H1 locs1 hz hk hS1 => kk H1 locs1 la (qDy_kept hw hk) hS1 hl)
theorem q_cell (C : qCx X ω RL cc nL ret T fr mc) {b L : Nat} {xs : Nat → Int32} (S : qSc X ω b L xs) {a : Int} (ha : 0 ≤ a ∧ a < 2147483648) (hL : L < 2147483648) (hcat : (st.map fun v => v.category).sum ≤ 8) (hd : decode cc pc = .ok (.invokestatic 135, 3)) (hfr : 1 ≤ fr) (hk : k ≤ mc) (kk : ∀ z : Int, -2147483648 ≤ z → z < 2147483648 → qT X ω nL k Q g (pc + 3) ls (.int (iI z) :: st)) : qT X ω nL k Q g pc ls (.int (iI a) :: .ref b :: st) := by
  obtain ⟨p, l, e, R, s, m, args, below, meth, c⟩ := X
  obtain ⟨hx, hb, hr, hml, hown, hts, hlk0, htb, hlt, hSt, hfR, hlR, hcR, hsR⟩ := C
  obtain ⟨s1, s2, s3⟩ := S
  intro H locs la hw hS hl
  exact c_cell ⟨hx, hb, hml, hown, hts⟩ ha hL s1 s2 (show ¬ ω.2.2.2 ≤ b from Nat.not_le.mpr s3) (by omega) (by omega) hl.1 hcat hd (by omega) (by omega) hS (fun z H1 locs1 hzr hz hk hS1 => kk z hzr.1 hzr.2 H1 locs1 la (qDy_kept hw hk) hS1 hl)
theorem lI_mul (a b : Int) : lI a * lI b = lI (a * b) := (Int64.ofInt_mul a b).symm
theorem q_lmul (C : qCx X ω own cc nL ret T fr mc) {a b : Int} (hd : decode cc pc = .ok (.lmul, 1)) (kk : qT X ω nL k Q g (pc + 1) ls (.long (lI (a * b)) :: st)) : qT X ω nL k Q g pc ls (.long (lI b) :: .long (lI a) :: st) := by
  obtain ⟨p, l, e, R, s, m, args, below, meth, c⟩ := X
  obtain ⟨hx, hb, -⟩ := C
  intro H locs la hw hS hl
  exact lv_lmul hx hb hd (by rw [lI_mul]; exact kk H locs la hw hS hl)
theorem q_ldc2 (C : qCx X ω own cc nL ret T fr mc) {i : Nat} {w : Int64} (a : Int) (hw0 : w = lI a) (hc : Cond.constantLong own i w ∈ qAW) (hd : decode cc pc = .ok (.ldc2_w i, 3)) (kk : qT X ω nL k Q g (pc + 3) ls (.long (lI a) :: st)) : qT X ω nL k Q g pc ls st := by
  subst hw0
  obtain ⟨p, l, e, R, s, m, args, below, meth, c⟩ := X
  obtain ⟨hx, hb, hr, hml, hown, hts, -⟩ := C
  intro H locs la hw hS hl
  exact lv_ldc2 hx hb hown (hts _ hc) hd (kk H locs la hw hS hl)
theorem q_lcmp_same (C : qCx X ω own cc nL ret T fr mc) {w : Int64} (hd : decode cc pc = .ok (.lcmp, 1)) (kk : qT X ω nL k Q g (pc + 1) ls (.int (iI 0) :: st)) : qT X ω nL k Q g pc ls (.long w :: .long w :: st) := by
  obtain ⟨p, l, e, R, s, m, args, below, meth, c⟩ := X
  obtain ⟨hx, hb, -⟩ := C
  intro H locs la hw hS hl
  have e : lg_cmp w w = iI 0 := by
    have h := lg_cmp_lI (a := w.toInt) (b := w.toInt) ⟨Int64.le_toInt w, Int64.toInt_lt w⟩ ⟨Int64.le_toInt w, Int64.toInt_lt w⟩
    have e1 : lI w.toInt = w := Int64.ofInt_toInt w
    rw [e1] at h
    rw [h]
    unfold qCmp
    rw [if_neg (by omega), if_pos rfl]
  exact W.lcmp hx hb hd (by rw [e]; exact kk H locs la hw hS hl)
/-- an end with a long as it is -/
theorem q_lretR (C : qCx X ω own cc nL (some .long) T fr mc) {Post : Option Value → qHp → Prop} {PX : String → qHp → Prop} {r : Int} (hd : decode cc pc = .ok (.lreturn, 1)) (hk : k ≤ mc) (hp : Post (some (.long (lI r))) g) : qT X ω nL k (qEnd X ω Post PX mc) g pc ls [.long (lI r)] := q_lreturn C rfl hk hd hp
/-- the names of the classes that the law catches -/
def ctN : Nat → String
  | 98 => xIO
  | 100 => xIA
  | 102 => xIS
  | 104 => xUO
  | _ => xNS
def ctL : List Nat := [98, 100, 102, 104, 106]
theorem ct_ok : ∀ i ∈ ctL, Cond.classLink RL i (ctN i) ∈ qAW ∧ ctN i ∈ qX5 := by
  intro i hi
  unfold ctL at hi
  simp only [List.mem_cons, List.not_mem_nil, or_false] at hi
  rcases hi with rfl | rfl | rfl | rfl | rfl
  · exact ⟨qm 200 (by decide +kernel) rfl, List.mem_of_getElem? (i := 0) rfl⟩
  · exact ⟨qm 201 (by decide +kernel) rfl, List.mem_of_getElem? (i := 1) rfl⟩
  · exact ⟨qm 202 (by decide +kernel) rfl, List.mem_of_getElem? (i := 3) rfl⟩
  · exact ⟨qm 203 (by decide +kernel) rfl, List.mem_of_getElem? (i := 2) rfl⟩
  · exact ⟨qm 204 (by decide +kernel) rfl, List.mem_of_getElem? (i := 4) rfl⟩
/-- an entry that E at pc passes by -/
def pasT (pc : Nat) (E : String) (z : ExceptionTableEntry) : Bool := !(covers z pc) || (ctL.contains z.catchType && !(ctN z.catchType == E))
theorem q_catchN (C : qCx X ω RL cc nL ret T fr mc) {E : String} (i : Nat) (x : ExceptionTableEntry) (hT : T[i]? = some x) (hp : (T.take i).all (pasT pc E) = true) (hE : E ∈ qX5) (hcast : Cond.castable E E ∈ qNg) (hx : covers x pc = true) (hct : ctL.contains x.catchType = true) (hn : ctN x.catchType = E) {h : Nat} (hh : x.handlerPc = h) (kk : ∀ q : Nat, qT X ω nL k Q g h ls [.ref q]) : qTx X ω nL k Q g pc ls st E := by
  obtain ⟨p, l, e, R, s, m, args, below, meth, c⟩ := X
  obtain ⟨hx0, hb, hr, hml, hown, hts, hlk0, htb, hlt, hSt, hfR, hlR, hcR, hsR⟩ := C
  intro H locs la q ce hw hS hl hce hcv hcl
  obtain ⟨-, -, -, -, hng, hnc, -⟩ := hSt
  have hmem : x.catchType ∈ ctL := by simpa using hct
  obtain ⟨k1, k2⟩ := ct_ok _ hmem
  rw [hn] at k1
  have h0 : ∀ i ∈ ctL, i ≠ 0 := by decide
  have hi : i < T.length := (List.getElem?_eq_some_iff.mp hT).1
  have hsp : T = T.take i ++ x :: T.drop (i + 1) := by
    have e1 := List.take_append_drop i T
    have e2 := List.drop_eq_getElem_cons hi
    have e3 : T[i] = x := (List.getElem?_eq_some_iff.mp hT).2
    rw [e2, e3] at e1
    exact e1.symm
  subst hh
  refine vx_catch hown (T.take i) x (T.drop (i + 1)) (htb.trans hsp) (fun z hz => ?_) hx (h0 _ hmem) (hts _ k1) (va_Nw.use (qNg_tabs hcast) (hng _ hcast)) hce hcv hcl (kk q H locs la hw hS hl)
  have hz2 := List.all_eq_true.mp hp z hz
  unfold pasT at hz2
  rw [Bool.or_eq_true] at hz2
  rcases hz2 with hz2 | hz2
  · exact Or.inl (by cases hc : covers z pc with | false => rfl | true => rw [hc] at hz2; cases hz2)
  · rw [Bool.and_eq_true] at hz2
    have hm2 : z.catchType ∈ ctL := by simpa using hz2.1
    obtain ⟨c1, c2⟩ := ct_ok _ hm2
    have hne : E ≠ ctN z.catchType := fun q => by
      have h3 := hz2.2
      rw [← q] at h3
      simp at h3
    exact Or.inr ⟨h0 _ hm2, ctN z.catchType, hts _ c1, hnc E hE _ c2 hne⟩
end LR2
theorem cst_xIO : Cond.castable xIO xIO ∈ qNg := List.mem_filter.mpr ⟨List.mem_of_getElem? (i := 317) (by decide +kernel), rfl⟩
theorem x5_xIO : xIO ∈ qX5 := List.mem_of_getElem? (i := 0) rfl
theorem cst_xIA : Cond.castable xIA xIA ∈ qNg := List.mem_filter.mpr ⟨List.mem_of_getElem? (i := 211) (by decide +kernel), rfl⟩
theorem x5_xIA : xIA ∈ qX5 := List.mem_of_getElem? (i := 1) rfl
theorem cst_xUO : Cond.castable xUO xUO ∈ qNg := List.mem_filter.mpr ⟨List.mem_of_getElem? (i := 350) (by decide +kernel), rfl⟩
theorem x5_xUO : xUO ∈ qX5 := List.mem_of_getElem? (i := 2) rfl
theorem cst_xIS : Cond.castable xIS xIS ∈ qNg := List.mem_filter.mpr ⟨List.mem_of_getElem? (i := 285) (by decide +kernel), rfl⟩
theorem x5_xIS : xIS ∈ qX5 := List.mem_of_getElem? (i := 3) rfl
theorem cst_xNS : Cond.castable xNS xNS ∈ qNg := List.mem_filter.mpr ⟨List.mem_of_getElem? (i := 438) (by decide +kernel), rfl⟩
theorem x5_xNS : xNS ∈ qX5 := List.mem_of_getElem? (i := 4) rfl
/-- an int taken for a char -/
def chI (a : Int) : Int := (((iI a).toUInt32 % 65536).toInt32).toInt
theorem chI_v (a : Int) : ((iI a).toUInt32 % 65536).toInt32 = iI (chI a) := iI_of _
theorem chI_rng (a : Int) : 0 ≤ chI a ∧ chI a < 65536 := by
  have h : ∀ y : UInt32, y.toNat < 65536 → 0 ≤ (y.toInt32).toInt ∧ (y.toInt32).toInt < 65536 := by
    intro y hy
    have e : y = UInt32.ofNat y.toNat := (UInt32.ofNat_toNat).symm
    rw [e, UInt32.toInt32_ofNat', Int32.toInt_ofNat_of_lt (by omega)]
    omega
  refine h _ ?_
  rw [UInt32.toNat_mod]
  exact Nat.mod_lt _ (by decide)
theorem chI_112 : chI 112 = 112 := by decide +kernel
theorem chI_108 : chI 108 = 108 := by decide +kernel
theorem chI_120 : chI 120 = 120 := by decide +kernel
def shI (x n : Int) : Int := (iI x >>> (iI n &&& 31)).toInt
theorem shI_v (x n : Int) : iI x >>> (iI n &&& 31) = iI (shI x n) := iI_of _
def anI (x y : Int) : Int := (iI x &&& iI y).toInt
theorem anI_v (x y : Int) : iI x &&& iI y = iI (anI x y) := iI_of _
theorem anI_r (x y : Int) : -2147483648 ≤ anI x y ∧ anI x y < 2147483648 := iI_rng _
