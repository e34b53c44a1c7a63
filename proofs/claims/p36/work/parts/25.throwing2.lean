/-! 'throw new NoSuchElementException("text")' -/
section NXT
variable {p : Program} {l : Launch} {e : Env} {R : Room} {s : State} {m : MethodId} {args : Array Value} {below : List Frame} {meth : Method} {c : Code} {H : Heap} {locs : List Loc} {cells slots : Nat} {ls : Array Slot} {rest : List Value} {Qc : Array Value → State → Outcome → State → Prop} {XC : String → State → State → Prop} {free : Addr → Prop}
theorem nx_throw {cc : ByteArray} {pc : Nat} (hexec : p.tables.exec = Jvm.exec) (hb : c.code = cc) (hl : l.stackTraces = false) {own cls text Y : String} {r : List String} {ik is ic ix mc ms sa wd : Nat} {rx : ByteArray} {A : Nat → Prop}
    (x0 : decode rx 0 = .ok (.aload_n 0, 1)) (x1 : decode rx 1 = .ok (.aload_n 1, 1)) (x2 : decode rx 2 = .ok (.invokespecial ix, 3)) (x5 : decode rx 5 = .ok (.return_, 1))
    (hown : s.vm.findClass own = some m.cls) (hcls : Bundle.fit cls = true) (hY : Bundle.fit Y = true) (hr : ∀ n ∈ r, Bundle.fit n = true)
    (hk : (Cond.classLink own ik cls).before args s = true) (hini : (Cond.initialized cls).before args s = true) (hstr : vk_R own is text sa s) (hat : ∀ w ∈ nx_at own ic cls Y ix rx r, w.before args s = true)
    (hgood : ∀ w ∈ Cond.classLink own ik cls :: Cond.initialized cls :: nx_at own ic cls Y ix rx r, vx_ot w = true)
    (hU : vx_Zq Bundle.tN "UNASSIGNED_STACK" Bundle.steD A s s.heap) (hN : vx_Zq Bundle.tN "SUPPRESSED_SENTINEL" Bundle.listD A s s.heap) (hS : va_S A s.heap H locs) (hsize : ls.size = c.maxLocals)
    (d0 : decode cc pc = .ok (.new ik, 3)) (d3 : decode cc (pc + 3) = .ok (.dup, 1)) (d4 : (decode cc (pc + 4) = .ok (.ldc is, 2) ∧ wd = 2) ∨ (decode cc (pc + 4) = .ok (.ldc_w is, 3) ∧ wd = 3)) (d6 : decode cc (pc + 4 + wd) = .ok (.invokespecial ic, 3)) (d9 : decode cc (pc + 4 + wd + 3) = .ok (.athrow, 1))
    (hout : ∀ x ∈ c.exceptionTable.toList, covers x (pc + 4 + wd + 3) = false)
    (hRframes : r.length + 4 < R.frames) (hRlocals : (rest.map fun v => v.category).sum + (13 * (r.length + 2) + 43) ≤ R.locals) (hRcells : cells + 1 ≤ R.cells) (hRslots : slots + 6 ≤ R.slots) (hlocks : meth.locks = false)
    (hx : ∀ t : State, s.vm.Alike t.vm → H.size ≤ t.heap.size → (∀ q : Nat, q < H.size → t.heap[q]? = H[q]?) → XC cls s t)
    (hf : ∀ z ∈ locs, free z.base) (hc : cells + 1 ≤ mc) (hs : slots + 6 ≤ ms) :
    W p l e R s m args below meth c H locs cells slots (vx_MQ below Qc XC args s mc ms free) (F0 m pc ls rest) := by
  intro T hT X
  have htr : e.platform.stackTraces = false := (show e.platform.stackTraces = l.stackTraces by rw [X.admits.platform]).trans hl
  have Yb := vx_rebase X (R' := { frames := R.frames, locals := R.locals, cells := 1, slots := 6 }) (Nat.le_refl _) (Nat.le_refl _) hRcells hRslots
  obtain ⟨s', hA⟩ : ∃ z, z = (T.setVm s.vm).setFrames (.invoking m args :: below) := ⟨_, rfl⟩
  rw [← hA] at Yb
  have hvm : s'.vm = s.vm := by rw [hA]; rfl
  have hhp : s'.heap = H := by rw [hA]; exact hT
  have hW0 : s.WarmedH s'.vm := by rw [hvm]; exact State.WarmedH.refl s
  have hat' : ∀ w ∈ nx_at own ic cls Y ix rx r, w.before args s' = true := fun w hw => vx_ot_at hW0 hvm.symm (hgood w (List.mem_cons_of_mem _ (List.mem_cons_of_mem _ hw))) (hat w hw)
  have hk' : (Cond.classLink own ik cls).before args s' = true := vx_ot_at hW0 hvm.symm (hgood _ List.mem_cons_self) hk
  have hini' : (Cond.initialized cls).before args s' = true := vx_ot_at hW0 hvm.symm (hgood _ (List.mem_cons_of_mem _ List.mem_cons_self)) hini
  have hU' : vx_Zq Bundle.tN "UNASSIGNED_STACK" Bundle.steD A s' s'.heap := by rw [hhp]; exact vx_Zq.moved hW0.alike (hU.kept hS.2.1)
  have hN' : vx_Zq Bundle.tN "SUPPRESSED_SENTINEL" Bundle.listD A s' s'.heap := by rw [hhp]; exact vx_Zq.moved hW0.alike (hN.kept hS.2.1)
  have h : ∀ w ∈ nx_own own ic cls Y ix rx r, w.before args s' = true := vx_own hat' (vx_isRefq hU'.1) (vx_isRefq hN'.1) hU'.2.word hN'.2.word
  have hown' : s'.vm.findClass own = some m.cls := by rw [hvm]; exact hown
  have hins : (Cond.instantiable cls 6).before args s' = true := h _ (by simp [nx_own])
  obtain ⟨vm₁, cX, kX, hfX, hkX, -, -, X₁, st1⟩ := Yb.newCold hexec (own := own) (C := cls) (index := ik) (n := 6) hown' hk' hins hini'
    (g := F0 m pc ls rest) rfl (by rw [hb]; exact d0) (Nat.le_refl _) (Nat.le_refl _)
  generalize hT1 : (T.setVm vm₁).pushCell { cls := cX, slots := kX.instanceTypes.map defaultValue, vm := .none } = T1 at X₁ st1
  have hcat : (Value.ref T.heap.size).category = 1 := rfl
  have hcellA : T1.heap[T.heap.size]? = some (freshCell cX kX) := by rw [← hT1]; exact State.heap_pushCell_size _ _
  have d3' : decode c.code (pc + 3) = .ok (.dup, 1) := by rw [hb]; exact d3
  have hstr' : vk_R own is text sa s' := vk_R.warm hW0 hstr
  obtain ⟨U, hsteps, hrun, hend, hW, hsame, ce, hce, hO, hOv⟩ := nx_ctor X₁ hexec htr x0 x1 x2 x5 (own := own) (cls := cls) (Y := Y) (r := r) (ic := ic) hown' hcls hY hr h (fun x hx => nomatch hx) hfX hkX hcellA (by rw [hhp, hT]; exact Nat.le_refl _) (msg := .ref sa) rfl
    (g := { method := m, pc := pc + 4 + wd, locals := ls, stack := .ref sa :: .ref T.heap.size :: .ref T.heap.size :: rest, locked := none }) rfl hsize rfl rfl (rest := rest) rfl
    (by rw [hb]; exact d6) (by rw [hb]; exact d9) hout hRframes (by simp only [List.map_cons, List.sum_cons, hcat]; omega) hlocks
  obtain ⟨f1, f2⟩ := vx_frame hsame
  rw [hhp] at f1 f2
  have hWs : s.WarmedH U.vm := State.WarmedH.trans hW0 hW
  have hcl : s.vm.findClass cls = some ce.cls := by
    rw [hvm] at hO
    exact hO
  have hall : s.sameButNew ({ U with vm := s.vm } : State) locs mc ms := by
    subst hA
    obtain ⟨e1, e2⟩ := hsame
    rw [State.setFrames_setFrames] at e1
    have h2 : (T.setVm s.vm).sameButNew ({ U with vm := s.vm } : State) [] (0 + 1) (0 + 6) := ⟨e1, e2⟩
    have h3 := X.same.trans h2
    rw [List.append_nil] at h3
    exact h3.mono hc hs
  refine ⟨U, ?_, .threw T.heap.size, hrun, hend, Or.inr ⟨T.heap.size, rfl, cls, ce, locs, hx U hWs.alike f1 (fun q hq => f2 q hq (fun z hz => nomatch hz)), hce, hOv, hcl, hWs, hall, hf⟩⟩
  refine st1 _ ?_
  show Steps p.tables e below (T1.setTop { method := m, pc := pc + 3, locals := ls, stack := .ref T.heap.size :: rest, locked := none }) _
  jvm_step X₁.here [X₁.here.top, hexec, d3', Value.category]
  rcases d4 with ⟨d4, rfl⟩ | ⟨d4, rfl⟩
  · exact X₁.ldcString hexec (own := own) (text := text) (index := is) (a := sa) hown' hstr'.1 hstr'.2
      (g := { method := m, pc := pc + 4, locals := ls, stack := .ref T.heap.size :: .ref T.heap.size :: rest, locked := none }) rfl (by rw [hb]; exact d4) _ hsteps
  · exact X₁.ldcStringW hexec (own := own) (text := text) (index := is) (a := sa) hown' hstr'.1 hstr'.2
      (g := { method := m, pc := pc + 4, locals := ls, stack := .ref T.heap.size :: .ref T.heap.size :: rest, locked := none }) rfl (by rw [hb]; exact d4) _ hsteps
end NXT
theorem nxb_0 : decode prog_18_method_4_code 0 = .ok (.aload_n 0, 1) := by decide +kernel
theorem nxb_1 : decode prog_18_method_4_code 1 = .ok (.aload_n 1, 1) := by decide +kernel
theorem nxb_2 : decode prog_18_method_4_code 2 = .ok (.invokespecial 13, 3) := by decide +kernel
theorem nxb_5 : decode prog_18_method_4_code 5 = .ok (.return_, 1) := by decide +kernel
abbrev nxL : List Cond := nx_at RX5 121 "java/util/NoSuchElementException" "java/lang/RuntimeException" 13 prog_18_method_4_code ["java/lang/Exception"]
theorem ta_NoSuchElementException : ∀ w ∈ nxL, w ∈ qAW ∨ w ∈ qNg := by
  have h : nxL.all (fun w => decide (w ∈ lw_tbl) && (goodWord w || qNgw w)) = true := by decide +kernel
  intro w hw
  have h1 := List.all_eq_true.mp h w hw
  simp only [Bool.and_eq_true, Bool.or_eq_true, decide_eq_true_eq] at h1
  rcases h1 with ⟨h1, h2 | h2⟩
  · exact Or.inl (List.mem_filter.mpr ⟨h1, h2⟩)
  · exact Or.inr (List.mem_filter.mpr ⟨h1, h2⟩)
theorem tg_NoSuchElementException : ∀ w ∈ Cond.classLink RX5 117 "java/util/NoSuchElementException" :: Cond.initialized "java/util/NoSuchElementException" :: nxL, vx_ot w = true := by decide +kernel
section NXQ
variable {X : qEnv} {ω : qOm} {own : String} {cc : ByteArray} {nL : Nat} {ret : Option FieldType} {T : List ExceptionTableEntry} {fr mc k : Nat} {Q : State → Prop} {g : qHp} {pc : Nat} {ls : List (Nat × Value)} {st : List Value} {Post : Option Value → qHp → Prop} {PX : String → qHp → Prop}
theorem q_throwN0 (C : qCx X ω own cc nL ret [] fr mc) {is wd : Nat} (text : String) (own_eq : own = "Quaylock") (hstr : (is, text) ∈ qSr)
    (d0 : decode cc pc = .ok (.new 117, 3)) (d3 : decode cc (pc + 3) = .ok (.dup, 1)) (d4 : (decode cc (pc + 4) = .ok (.ldc is, 2) ∧ wd = 2) ∨ (decode cc (pc + 4) = .ok (.ldc_w is, 3) ∧ wd = 3)) (d6 : decode cc (pc + 4 + wd) = .ok (.invokespecial 121, 3)) (d9 : decode cc (pc + 4 + wd + 3) = .ok (.athrow, 1))
    (hfr : 6 ≤ fr) (hcat : (st.map fun v => v.category).sum ≤ 8) (hmc : k + 1 ≤ mc) (hp : PX "java/util/NoSuchElementException" g) : qT X ω nL k (qEnd X ω Post PX mc) g pc ls st := by
  obtain ⟨p, l, e, R, s, m, args, below, meth, c⟩ := X
  obtain ⟨hx, hb, hr, hml, hown, hts, hlk0, htb, hlt, hSt, hfR, hlR, hcR, hsR⟩ := C
  intro H locs la hw hS hl
  obtain ⟨hK, hz1, hz2, hstrs, hng, -⟩ := hSt
  obtain ⟨sa, hsa⟩ := hstrs _ hstr
  subst own_eq
  refine nx_throw (Y := "java/lang/RuntimeException") (r := ["java/lang/Exception"]) (ix := 13) (rx := prog_18_method_4_code) (text := text) (sa := sa) (wd := wd) (A := qA ω) hx hb hlt nxb_0 nxb_1 nxb_2 nxb_5 hown (by decide +kernel) (by decide +kernel) (by decide +kernel) (hts _ tk_NoSuchElementException) (hts _ ti_NoSuchElementException) hsa (fun w h => ?_) tg_NoSuchElementException hz1 hz2 hS (hl.1.trans hml.symm) d0 d3 d4 d6 d9 (fun x hx => by rw [htb] at hx; cases hx) (by simp only [List.length_cons, List.length_nil]; omega) (by simp only [List.length_cons, List.length_nil]; omega) (by omega) (by omega) hlk0 (fun t ht hz hq => ⟨g, hp, ⟨hw.1.kept (fun j q hj => hq q.1 (hw.1 j q hj).lt), hw.2⟩, ⟨Nat.le_trans hS.1 hz, fun q h1 h2 => by rw [hq q (Nat.lt_of_lt_of_le h1 hS.1)]; exact hS.2.1 q h1 h2⟩⟩) hS.2.2 (by omega) (by omega)
  rcases ta_NoSuchElementException w h with h | h
  · exact hts w h
  · exact va_Nw.use (qNg_tabs h) (hng w h)
theorem q_throwN (C : qCx X ω own cc nL ret [] fr mc) {is : Nat} (text : String) (own_eq : own = "Quaylock") (hstr : (is, text) ∈ qSr)
    (d0 : decode cc pc = .ok (.new 117, 3)) (d3 : decode cc (pc + 3) = .ok (.dup, 1)) (d4 : decode cc (pc + 4) = .ok (.ldc is, 2)) (d6 : decode cc (pc + 6) = .ok (.invokespecial 121, 3)) (d9 : decode cc (pc + 9) = .ok (.athrow, 1))
    (hfr : 6 ≤ fr) (hcat : (st.map fun v => v.category).sum ≤ 8) (hmc : k + 1 ≤ mc) (hp : PX "java/util/NoSuchElementException" g) : qT X ω nL k (qEnd X ω Post PX mc) g pc ls st :=
  q_throwN0 C text own_eq hstr d0 d3 (Or.inl ⟨d4, rfl⟩) d6 d9 hfr hcat hmc hp
theorem q_throwNW (C : qCx X ω own cc nL ret [] fr mc) {is : Nat} (text : String) (own_eq : own = "Quaylock") (hstr : (is, text) ∈ qSr)
    (d0 : decode cc pc = .ok (.new 117, 3)) (d3 : decode cc (pc + 3) = .ok (.dup, 1)) (d4 : decode cc (pc + 4) = .ok (.ldc_w is, 3)) (d6 : decode cc (pc + 7) = .ok (.invokespecial 121, 3)) (d9 : decode cc (pc + 10) = .ok (.athrow, 1))
    (hfr : 6 ≤ fr) (hcat : (st.map fun v => v.category).sum ≤ 8) (hmc : k + 1 ≤ mc) (hp : PX "java/util/NoSuchElementException" g) : qT X ω nL k (qEnd X ω Post PX mc) g pc ls st :=
  q_throwN0 C text own_eq hstr d0 d3 (Or.inr ⟨d4, rfl⟩) d6 d9 hfr hcat hmc hp
end NXQ
