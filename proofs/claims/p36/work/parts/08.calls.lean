/-! entry, ends, calls, throws of the small machine -/
theorem qNgw_tabs {w : Cond} (h : qNgw w = true) : w.onTables = true := by
  cases w <;> first | rfl | (simp [qNgw] at h)
theorem qNg_tabs {w : Cond} (h : w ∈ qNg) : w.onTables = true := qNgw_tabs (List.mem_filter.mp h).2
theorem qNgw_warm {s U : State} (hW : s.WarmedH U.vm) {w : Cond} (h : qNgw w = true) (hZ : va_Nw w s) : va_Nw w U := by
  cases w with
  | castable C D => exact va_Nw.warmC hW hZ
  | declares x => exact va_Nw.warmD hW hZ
  | methodLinkNest a i x h => exact va_Nw.warmM hW hZ
  | _ => simp [qNgw] at h
theorem qSt_warm {ω : qOm} {s U : State} {H : Heap} {locs : List Loc} (h : qSt ω s) (hS : va_S (qA ω) s.heap H locs) (hU : U.heap = H) (hW : s.WarmedH U.vm) : qSt ω U := by
  obtain ⟨hK, hz1, hz2, hstr, hng, hnc, hz⟩ := h
  refine ⟨va_K.moved hW.alike hK, ?_, ?_, fun q hq => ?_, fun w hw => qNgw_warm hW (List.mem_filter.mp hw).2 (hng w hw), fun E hE F hF hne => va_Nc.moved hW.alike (hnc E hE F hF hne), ?_⟩
  · rw [hU]; exact vx_Zq.moved hW.alike (hz1.kept hS.2.1)
  · rw [hU]; exact vx_Zq.moved hW.alike (hz2.kept hS.2.1)
  · obtain ⟨a, ha⟩ := hstr q hq
    exact ⟨a, vk_R.warm hW ha⟩
  · rw [hU]; exact Nat.le_trans hz hS.1
theorem qSt_same {ω : qOm} {U : State} (g : JFrame) (mk : MethodId) (a : Array Value) (h : qSt ω U) : qSt ω (U.calling g mk a) := by
  obtain ⟨hK, hz1, hz2, hstr, hng, hnc, hz⟩ := h
  refine ⟨va_K.moved (u := U) (U := U.calling g mk a) (Vm.Alike.refl U.vm) hK, vx_Zq.moved (u := U) (U := U.calling g mk a) (Vm.Alike.refl U.vm) hz1, vx_Zq.moved (u := U) (U := U.calling g mk a) (Vm.Alike.refl U.vm) hz2, fun q hq => ?_, fun w hw => va_Nw.same (u := U) (U := U.calling g mk a) (qNg_tabs hw) rfl (hng w hw), fun E hE F hF hne => va_Nc.moved (u := U) (U := U.calling g mk a) (Vm.Alike.refl U.vm) (hnc E hE F hF hne), hz⟩
  obtain ⟨a, ha⟩ := hstr q hq
  exact ⟨a, vk_R.same rfl ha⟩
theorem qBlind {ω : qOm} {g0 : qHp} {av : List Value} : FrameBlind (va_Pc av (fun U => qSt ω U ∧ qDy ω g0 U.heap)) := fun _ _ g mk q => ⟨q.1, qSt_same g mk _ q.2.1, q.2.2⟩
theorem qAW_good : GoodIn qAW qAW := fun _ hw => ⟨hw, good_of_word (List.mem_filter.mp hw).2⟩
theorem qWds_good {cd : Cond} (h : cd ∈ qAW) : GoodIn qAW (qWds cd) := fun w hw => by
  rcases List.mem_cons.mp hw with rfl | hw
  · exact qAW_good w h
  · exact qAW_good w hw
/-- a contract, for every launch without stack traces -/
def qC (y : MethodName) (cd : Cond) (fr mc : Nat) (av : (Nat → Nat) → List Value) (g : qHp) (Post : Option Value → qHp → Prop) (PX : String → qHp → Prop) : Prop := ∀ l : Launch, l.stackTraces = false → qCt l y cd fr mc av g Post PX
def qMth (y : MethodName) (cd : Cond) (bytes : ByteArray) (maxL : Nat) (rt : Option FieldType) (n : Nat) : Prop := cd = .code y bytes maxL rt ∧ cd ∈ qAW ∧ Cond.instanceMethod y ∈ qAW ∧ Cond.selects y.cls y y ∈ qAW ∧ Cond.initialized y.cls ∈ qAW ∧ (y.cls ≠ "java/lang/invoke/MethodHandle" ∧ y.cls ≠ "java/lang/invoke/VarHandle" ∧ (parseMethodDescriptor y.desc).map (fun d => d.parameters.length) = some n) ∧ maxL ≤ 21
def qMts (y : MethodName) (cd : Cond) (bytes : ByteArray) (maxL : Nat) (rt : Option FieldType) (n : Nat) : Prop := cd = .code y bytes maxL rt ∧ cd ∈ qAW ∧ Cond.static y ∈ qAW ∧ Cond.initialized y.cls ∈ qAW ∧ (y.cls ≠ "java/lang/invoke/MethodHandle" ∧ y.cls ≠ "java/lang/invoke/VarHandle" ∧ (parseMethodDescriptor y.desc).map (fun d => d.parameters.length) = some n) ∧ maxL ≤ 21
/-- with an exception of class E thrown over the frame -/
def qTx (X : qEnv) (ω : qOm) (nL k : Nat) (Q : State → Prop) (g : qHp) (pc : Nat) (ls : List (Nat × Value)) (st : List Value) (E : String) : Prop := match X with
  | (p, l, e, R, s, m, args, below, meth, c) => ∀ (H : Heap) (locs : List Loc) (la : Array Slot) (q : Nat) (ce : Cell), qDy ω g H → va_S (qA ω) s.heap H locs → lv_has la nL ls → H[q]? = some ce → ce.vm = .none → s.vm.findClass E = some ce.cls → vx_W p l e R s m args below meth c H locs k (6 * k) Q (F0 m pc la st) q
/-- a body -/
theorem q_meth {y : MethodName} {bytes : ByteArray} {maxL : Nat} {ret : Option FieldType} {fr mc : Nat} {av : (Nat → Nat) → List Value} {g : qHp} {Post : Option Value → qHp → Prop} {PX : String → qHp → Prop} {own : String} (hy : plainName y.cls = true) (hown : y.cls = own) (hlen : ∀ ad, (lg_sl (av ad)).length ≤ maxL)
    (body : ∀ (X : qEnv) (ω : qOm), qCx X ω own bytes maxL ret [] fr mc → qT X ω maxL 0 (qEnd X ω Post PX mc) g 0 (lv_args 0 (av ω.1)) []) : qC y (.code y bytes maxL ret) fr mc av g Post PX := by
  intro l hlt ω
  refine vx_ofW (ws' := qAW) hy rfl ?_
  intro p e s m args below meth c s₁ B hml htab hv
  obtain ⟨rfl, hSt, hDy⟩ := hv
  have hts := atoms_spec (ws := qWds (.code y bytes maxL ret)) B.pre
  have h := body (p, l, e, qRm fr mc, s, m, (av ω.1).toArray, below, meth, c) ω ⟨B.exec, B.bytes, B.returns, hml, hown ▸ findClass_of_methodNamed B.named, fun w hw => hts w (List.mem_cons_of_mem _ hw), B.notSynchronized, List.eq_nil_iff_forall_not_mem.mpr fun x hx => htab x hx, hlt, hSt, Nat.le_refl _, Nat.le_refl _, Nat.le_refl _, Nat.le_refl _⟩
  rw [lg_entry_eq]
  exact h s.heap [] _ hDy va_S.rf (lv_entry (av ω.1) (hlen ω.1))
section QC
variable {X : qEnv} {ω : qOm} {own : String} {cc : ByteArray} {nL : Nat} {ret : Option FieldType} {T : List ExceptionTableEntry} {fr mc k : Nat} {Q : State → Prop} {g : qHp} {pc : Nat} {ls : List (Nat × Value)} {st : List Value}
variable {Post : Option Value → qHp → Prop} {PX : String → qHp → Prop}
theorem q_ret_post {ω : qOm} {s t : State} {H : Heap} {locs : List Loc} {args : Array Value} {v : Option Value} (hw : qDy ω g H) (hS : va_S (qA ω) s.heap H locs) (ht : t.heap = H) (hp : Post v g) : qQc ω Post args s (.returned v) t := ⟨v, g, rfl, hp, by rw [ht]; exact hw, hS.F ht⟩
theorem q_ireturn (C : qCx X ω own cc nL ret T fr mc) {r : Int} {ty : FieldType} (hret : ret = some ty) (hnar : narrow ty (.int (iI r)) = .int (iI r)) (hk : k ≤ mc) (hd : decode cc pc = .ok (.ireturn, 1)) (hp : Post (some (.int (iI r))) g) : qT X ω nL k (qEnd X ω Post PX mc) g pc ls [.int (iI r)] := by
  obtain ⟨p, l, e, R, s, m, args, below, meth, c⟩ := X
  obtain ⟨hx, hb, hr, hml, hown, hts, hlk, -⟩ := C
  intro H locs la hw hS hl
  refine W.widen hk (Nat.mul_le_mul_left 6 hk) (vx_ret ?_)
  exact W.zret hx hb (hr.trans hret) hnar (fun t ht _ => q_ret_post hw hS ht hp) hS.2.2 hd hlk
theorem q_return (C : qCx X ω own cc nL ret T fr mc) (hret : ret = none) (hk : k ≤ mc) (hd : decode cc pc = .ok (.return_, 1)) (hp : Post none g) : qT X ω nL k (qEnd X ω Post PX mc) g pc ls [] := by
  obtain ⟨p, l, e, R, s, m, args, below, meth, c⟩ := X
  obtain ⟨hx, hb, hr, hml, hown, hts, hlk, -⟩ := C
  intro H locs la hw hS hl
  refine W.widen hk (Nat.mul_le_mul_left 6 hk) (vx_ret ?_)
  exact W.vret hx hb (hr.trans hret) (fun t ht _ => q_ret_post hw hS ht hp) hS.2.2 hd hlk
theorem q_lreturn (C : qCx X ω own cc nL ret T fr mc) {r : Int} (hret : ret = some .long) (hk : k ≤ mc) (hd : decode cc pc = .ok (.lreturn, 1)) (hp : Post (some (.long (lI r))) g) : qT X ω nL k (qEnd X ω Post PX mc) g pc ls [.long (lI r)] := by
  obtain ⟨p, l, e, R, s, m, args, below, meth, c⟩ := X
  obtain ⟨hx, hb, hr, hml, hown, hts, hlk, -⟩ := C
  intro H locs la hw hS hl
  refine W.widen hk (Nat.mul_le_mul_left 6 hk) (vx_ret ?_)
  exact W.lret hx hb (hr.trans hret) (fun t ht _ => q_ret_post hw hS ht hp) hS.2.2 hd hlk
theorem q_freturn (C : qCx X ω own cc nL ret T fr mc) {r : UInt32} (hret : ret = some .float) (hk : k ≤ mc) (hd : decode cc pc = .ok (.freturn, 1)) (hp : Post (some (.float r)) g) : qT X ω nL k (qEnd X ω Post PX mc) g pc ls [.float r] := by
  obtain ⟨p, l, e, R, s, m, args, below, meth, c⟩ := X
  obtain ⟨hx, hb, hr, hml, hown, hts, hlk, -⟩ := C
  intro H locs la hw hS hl
  refine W.widen hk (Nat.mul_le_mul_left 6 hk) (vx_ret ?_)
  exact W.fret hx hb (hr.trans hret) (fun t ht _ => q_ret_post hw hS ht hp) hS.2.2 hd hlk
/-! the usual ends -/
theorem q_iretI (C : qCx X ω own cc nL (some .int) T fr mc) {P : Int → qHp → Prop} {r : Int} (hd : decode cc pc = .ok (.ireturn, 1)) (hr : -2147483648 ≤ r ∧ r < 2147483648) (hk : k ≤ mc) (hp : P r g) : qT X ω nL k (qEnd X ω (qPi P) PX mc) g pc ls [.int (iI r)] := q_ireturn C rfl rfl hk hd ⟨r, rfl, hr, hp⟩
theorem nar_B {r : Int} (h : r = 0 ∨ r = 1) : narrow .boolean (.int (iI r)) = .int (iI r) := by rcases h with rfl | rfl <;> decide +kernel
theorem nar_C {w : Int} (h : 0 ≤ w ∧ w < 65536) : narrow .char (.int (iI w)) = .int (iI w) := by
  obtain ⟨n, rfl⟩ : ∃ n : Nat, w = n := ⟨w.toNat, by omega⟩
  exact (pk_charN (q := n) (by omega)).1
theorem q_iretZ (C : qCx X ω own cc nL (some .boolean) T fr mc) {P : Int → qHp → Prop} {r : Int} (hd : decode cc pc = .ok (.ireturn, 1)) (hr : r = 0 ∨ r = 1) (hk : k ≤ mc) (hp : P r g) : qT X ω nL k (qEnd X ω (qPi P) PX mc) g pc ls [.int (iI r)] := q_ireturn C rfl (nar_B hr) hk hd ⟨r, rfl, by omega, hp⟩
theorem q_iretC (C : qCx X ω own cc nL (some .char) T fr mc) {P : Int → qHp → Prop} {r : Int} (hd : decode cc pc = .ok (.ireturn, 1)) (hr : 0 ≤ r ∧ r < 65536) (hk : k ≤ mc) (hp : P r g) : qT X ω nL k (qEnd X ω (qPi P) PX mc) g pc ls [.int (iI r)] := q_ireturn C rfl (nar_C hr) hk hd ⟨r, rfl, by omega, hp⟩
theorem q_retV (C : qCx X ω own cc nL none T fr mc) {P : qHp → Prop} (hd : decode cc pc = .ok (.return_, 1)) (hk : k ≤ mc) (hp : P g) : qT X ω nL k (qEnd X ω (qPv P) PX mc) g pc ls [] := q_return C rfl hk hd ⟨rfl, hp⟩
theorem q_lretL (C : qCx X ω own cc nL (some .long) T fr mc) {P : Int → qHp → Prop} {r : Int} (hd : decode cc pc = .ok (.lreturn, 1)) (hr : -9223372036854775808 ≤ r ∧ r < 9223372036854775808) (hk : k ≤ mc) (hp : P r g) : qT X ω nL k (qEnd X ω (qPl P) PX mc) g pc ls [.long (lI r)] := q_lreturn C rfl hk hd ⟨r, rfl, hr, hp⟩
theorem q_fretF (C : qCx X ω own cc nL (some .float) T fr mc) {P : UInt32 → qHp → Prop} {r : UInt32} (hd : decode cc pc = .ok (.freturn, 1)) (hk : k ≤ mc) (hp : P r g) : qT X ω nL k (qEnd X ω (qPf P) PX mc) g pc ls [.float r] := q_freturn C rfl hk hd ⟨r, rfl, hp⟩
/-- an exception that isn't caught here -/
theorem q_xout (C : qCx X ω own cc nL ret [] fr mc) {E : String} (hk : k ≤ mc) (hp : PX E g) : qTx X ω nL k (qEnd X ω Post PX mc) g pc ls st E := by
  obtain ⟨p, l, e, R, s, m, args, below, meth, c⟩ := X
  obtain ⟨hx, hb, hr, hml, hown, hts, hlk, htb, -⟩ := C
  intro H locs la q ce hw hS hl hce hcv hcl
  exact vx_out (fun x hx => by rw [htb] at hx; cases hx) hlk hce hcv hcl (fun t ht _ => ⟨g, hp, by rw [ht]; exact hw, hS.F ht⟩) hS.2.2 hk (Nat.mul_le_mul_left 6 hk)
/-- a call that has been set up -/
theorem q_run {p : Program} {l : Launch} {e : Env} {R : Room} {s : State} {m : MethodId} {args : Array Value} {below : List Frame} {meth : Method} {c : Code} {H : Heap} {locs : List Loc} {la : Array Slot} {rest : List Value} {a : Array Value} {mc' : Nat}
    (hr : vx_Run p l e R s m args below meth c H locs k (6 * k) mc' (6 * mc') (F0 m pc la st) rest (qQc ω Post a) (qXc ω PX) (qA ω)) (hS : va_S (qA ω) s.heap H locs) (hl : lv_has la nL ls)
    (kk : ∀ v g', Post v g' → qT (p, l, e, R, s, m, args, below, meth, c) ω nL (k + mc') Q g' (pc + 3) ls (v.toList ++ rest))
    (kx : ∀ E g', PX E g' → qTx (p, l, e, R, s, m, args, below, meth, c) ω nL (k + mc') Q g' pc ls rest E) : W p l e R s m args below meth c H locs k (6 * k) Q (F0 m pc la st) := by
  have keep : ∀ {st₀ t T' : State} {L : List Loc}, st₀.heap = H → T'.heap = t.heap → (∀ q ∈ L, qA ω q.base) → va_F (qA ω) st₀ t → va_S (qA ω) s.heap T'.heap (locs ++ L) := by
    intro st₀ t T' L h0 e1 hL hF
    obtain ⟨hz, hk⟩ := hF
    rw [h0] at hz hk
    refine ⟨Nat.le_trans hS.1 (by rw [e1]; exact hz), fun q h1 h2 => by rw [e1, hk q (Nat.lt_of_lt_of_le h1 hS.1) h2]; exact hS.2.1 q h1 h2, fun q hq => ?_⟩
    rcases List.mem_append.mp hq with h | h
    · exact hS.2.2 q h
    · exact hL q h
  intro T hT X
  rcases hr T hT X with ⟨v, st₀, t, T', L, h0, X', hL, e1, e2, ⟨v', g', hv, hp, hd, hF⟩, st⟩ | ⟨q, st₀, t, T', L, E, ce, h0, X', hL, e1, e2, ⟨g', hp, hd, hF⟩, hce, hcv, hcl, st⟩
  · cases hv
    rw [← Nat.mul_add] at X'
    obtain ⟨t2, a1, b1⟩ := kk v g' hp T'.heap (locs ++ L) la (by rw [e1]; exact hd) (keep h0 e1 hL hF) hl T' rfl X'
    exact ⟨t2, st t2 a1, b1⟩
  · rw [← Nat.mul_add] at X'
    obtain ⟨t2, a1, b1⟩ := kx E g' hp T'.heap (locs ++ L) la q ce (by rw [e1]; exact hd) (keep h0 e1 hL hF) hl (by rw [e1]; exact hce) hcv hcl T' rfl X'
    exact ⟨t2, st.trans a1, b1⟩
theorem qPre {p : Program} {l : Launch} {e : Env} {R : Room} {s : State} {H : Heap} {locs : List Loc} {av : List Value} (hSt : qSt ω s) (hS : va_S (qA ω) s.heap H locs) (hw : qDy ω g H) : PreS s H (va_Pc av (fun U => qSt ω U ∧ qDy ω g U.heap)) av := ⟨qBlind, fun U hU hW => ⟨rfl, qSt_warm hSt hS hU hW, by rw [hU]; exact hw⟩⟩
theorem q_callV0 (C : qCx X ω own cc nL ret T fr mc) {y : MethodName} {cd : Cond} {bytes : ByteArray} {maxL fr' mc' n idx b ci N : Nat} {rt : Option FieldType} {av : (Nat → Nat) → List Value} {Post' : Option Value → qHp → Prop} {PX' : String → qHp → Prop} {As rest : List Value} {ds : List qFd} {Cn : String} {TT : u_T}
    (hM : qC y cd fr' mc' av g Post' PX') (M : qMth y cd bytes maxL rt n) (hlk : Cond.methodLink own idx y ∈ qAW) (hav : av ω.1 = .ref (ω.1 b) :: As) (hst : st = As.reverse ++ .ref (ω.1 b) :: rest) (hn : As.length = n) (hcat : (rest.map fun v => v.category).sum ≤ 8) (hd : decode cc pc = .ok (.invokevirtual idx, 3)) (hfr : fr' < fr) (hmc : k + mc' ≤ mc)
    (hlay : qLay b = .inr (ci, ds)) (hb38 : b < 24) (hc : vwCl[ci]? = some (Cn, TT, N)) (hCn : y.cls = Cn)
    (kk : ∀ v g', Post' v g' → qT X ω nL (k + mc') Q g' (pc + 3) ls (v.toList ++ rest)) (kx : ∀ E g', PX' E g' → qTx X ω nL (k + mc') Q g' pc ls rest E) : qT X ω nL k Q g pc ls st := by
  obtain ⟨p, l, e, R, s, m, args, below, meth, c⟩ := X
  obtain ⟨hx, hb, hr, hml, hown, hts, hlk0, htb, hlt, hSt, hfR, hlR, hcR, hsR⟩ := C
  obtain ⟨rfl, m1, m2, m3, m4, m5, m6⟩ := M
  intro H locs la hw hS hl
  have he : (qWs ω.1 ω.2.1 g)[b]? = some (ω.1 b, .inr (ci, qFs ω.1 (g b) 0 ds)) := by
    rw [qWs_get _ _ _ hb38]
    unfold qCe
    rw [hlay]
  have hrec := va_recv hSt.1 hw.1 hc he
  have hrun : vx_Run p l e R s m args below meth c H locs k (6 * k) mc' (6 * mc') (F0 m pc la st) rest (qQc ω Post' (Value.ref (ω.1 b) :: As).toArray) (qXc ω PX') (qA ω) := vx_runV (Ts := qAW) (mc := mc') (ms := 6 * mc') (C := Cn) (As := As) (rest := rest) (b := ω.1 b) (g := F0 m pc la st) (nL := nL) ⟨hx, hb, hml, hown, hts⟩ (hM l hlt ω)
    (cw := ⟨callB_of (ws' := qAW) n hts (qWds_good m1) rfl rfl rfl (hts _ m4) (hts _ hlk) m5 ⟨by show fr' + 1 ≤ R.frames; omega, by show 8 + (maxL + 11) + 40 * fr' ≤ R.locals; omega⟩, hts _ m2, by rw [← hCn]; exact hts _ m3⟩)
    ⟨qBlind, hrec, fun U hU hW => ⟨by rw [hav], qSt_warm hSt hS hU hW, by rw [hU]; exact hw⟩⟩ rfl hn hl.1 hst (lv_room hcat) hd ⟨by omega, by omega⟩
  exact q_run hrun hS hl kk kx
theorem q_callS0 (C : qCx X ω own cc nL ret T fr mc) {y : MethodName} {cd : Cond} {bytes : ByteArray} {maxL fr' mc' n idx : Nat} {rt : Option FieldType} {av : (Nat → Nat) → List Value} {Post' : Option Value → qHp → Prop} {PX' : String → qHp → Prop} {As rest : List Value}
    (hM : qC y cd fr' mc' av g Post' PX') (M : qMts y cd bytes maxL rt n) (hlk : Cond.methodLink own idx y ∈ qAW) (hav : av ω.1 = As) (hst : st = As.reverse ++ rest) (hn : As.length = n) (hcat : (rest.map fun v => v.category).sum ≤ 8) (hd : decode cc pc = .ok (.invokestatic idx, 3)) (hfr : fr' < fr) (hmc : k + mc' ≤ mc)
    (kk : ∀ v g', Post' v g' → qT X ω nL (k + mc') Q g' (pc + 3) ls (v.toList ++ rest)) (kx : ∀ E g', PX' E g' → qTx X ω nL (k + mc') Q g' pc ls rest E) : qT X ω nL k Q g pc ls st := by
  obtain ⟨p, l, e, R, s, m, args, below, meth, c⟩ := X
  obtain ⟨hx, hb, hr, hml, hown, hts, hlk0, htb, hlt, hSt, hfR, hlR, hcR, hsR⟩ := C
  obtain ⟨rfl, m1, m2, m4, m5, m6⟩ := M
  intro H locs la hw hS hl
  have hrun : vx_Run p l e R s m args below meth c H locs k (6 * k) mc' (6 * mc') (F0 m pc la st) rest (qQc ω Post' As.toArray) (qXc ω PX') (qA ω) := vx_runS (Ts := qAW) (mc := mc') (ms := 6 * mc') (As := As) (rest := rest) (g := F0 m pc la st) (nL := nL) ⟨hx, hb, hml, hown, hts⟩ (hM l hlt ω)
    (cw := ⟨callB_of (ws' := qAW) n hts (qWds_good m1) rfl rfl rfl (hts _ m4) (hts _ hlk) m5 ⟨by show fr' + 1 ≤ R.frames; omega, by show 8 + (maxL + 11) + 40 * fr' ≤ R.locals; omega⟩, hts _ m2⟩)
    ⟨qBlind, fun U hU hW => ⟨by rw [hav], qSt_warm hSt hS hU hW, by rw [hU]; exact hw⟩⟩ rfl hn hl.1 hst (lv_room hcat) hd ⟨by omega, by omega⟩
  exact q_run hrun hS hl kk kx
/-- throw new E("text") -/
theorem q_throw (C : qCx X ω own cc nL ret [] fr mc) {ik is ic : Nat} (cls text : String) (own_eq : own = "Quaylock") (hcls : Bundle.fit cls = true) (hk : Cond.classLink own ik cls ∈ qAW) (hini : Cond.initialized cls ∈ qAW) (hstr : (is, text) ∈ qSr) (hat : ∀ w ∈ vx_atS own ic cls ["java/lang/RuntimeException", "java/lang/Exception"], w ∈ qAW ∨ w ∈ qNg)
    (hgood : ∀ w ∈ Cond.classLink own ik cls :: Cond.initialized cls :: vx_atS own ic cls ["java/lang/RuntimeException", "java/lang/Exception"], vx_ot w = true)
    (d0 : decode cc pc = .ok (.new ik, 3)) (d3 : decode cc (pc + 3) = .ok (.dup, 1)) (d4 : decode cc (pc + 4) = .ok (.ldc is, 2)) (d6 : decode cc (pc + 6) = .ok (.invokespecial ic, 3)) (d9 : decode cc (pc + 9) = .ok (.athrow, 1))
    (hfr : 6 ≤ fr) (hcat : (st.map fun v => v.category).sum ≤ 8) (hmc : k + 1 ≤ mc) (hp : PX cls g) : qT X ω nL k (qEnd X ω Post PX mc) g pc ls st := by
  obtain ⟨p, l, e, R, s, m, args, below, meth, c⟩ := X
  obtain ⟨hx, hb, hr, hml, hown, hts, hlk0, htb, hlt, hSt, hfR, hlR, hcR, hsR⟩ := C
  intro H locs la hw hS hl
  obtain ⟨hK, hz1, hz2, hstrs, hng, -⟩ := hSt
  obtain ⟨sa, hsa⟩ := hstrs _ hstr
  subst own_eq
  refine vx_throwS (names := ["java/lang/RuntimeException", "java/lang/Exception"]) (text := text) (sa := sa) (A := qA ω) hx hb hlt hown hcls (by decide +kernel) (hts _ hk) (hts _ hini) hsa (fun w h => ?_) hgood hz1 hz2 hS (hl.1.trans hml.symm) d0 d3 d4 d6 d9 (fun x hx => by rw [htb] at hx; cases hx) (by simp only [List.length_cons, List.length_nil]; omega) (by simp only [List.length_cons, List.length_nil]; omega) (by omega) (by omega) hlk0 (fun t ht hz hq => ⟨g, hp, ⟨hw.1.kept (fun j q hj => hq q.1 (hw.1 j q hj).lt), hw.2⟩, ⟨Nat.le_trans hS.1 hz, fun q h1 h2 => by rw [hq q (Nat.lt_of_lt_of_le h1 hS.1)]; exact hS.2.1 q h1 h2⟩⟩) hS.2.2 (by omega) (by omega)
  rcases hat w h with h | h
  · exact hts w h
  · exact va_Nw.use (qNg_tabs h) (hng w h)
theorem q_throwW (C : qCx X ω own cc nL ret [] fr mc) {ik is ic : Nat} (cls text : String) (own_eq : own = "Quaylock") (hcls : Bundle.fit cls = true) (hk : Cond.classLink own ik cls ∈ qAW) (hini : Cond.initialized cls ∈ qAW) (hstr : (is, text) ∈ qSr) (hat : ∀ w ∈ vx_atS own ic cls ["java/lang/RuntimeException", "java/lang/Exception"], w ∈ qAW ∨ w ∈ qNg)
    (hgood : ∀ w ∈ Cond.classLink own ik cls :: Cond.initialized cls :: vx_atS own ic cls ["java/lang/RuntimeException", "java/lang/Exception"], vx_ot w = true)
    (d0 : decode cc pc = .ok (.new ik, 3)) (d3 : decode cc (pc + 3) = .ok (.dup, 1)) (d4 : decode cc (pc + 4) = .ok (.ldc_w is, 3)) (d7 : decode cc (pc + 7) = .ok (.invokespecial ic, 3)) (d10 : decode cc (pc + 10) = .ok (.athrow, 1))
    (hfr : 6 ≤ fr) (hcat : (st.map fun v => v.category).sum ≤ 8) (hmc : k + 1 ≤ mc) (hp : PX cls g) : qT X ω nL k (qEnd X ω Post PX mc) g pc ls st := by
  obtain ⟨p, l, e, R, s, m, args, below, meth, c⟩ := X
  obtain ⟨hx, hb, hr, hml, hown, hts, hlk0, htb, hlt, hSt, hfR, hlR, hcR, hsR⟩ := C
  intro H locs la hw hS hl
  obtain ⟨hK, hz1, hz2, hstrs, hng, -⟩ := hSt
  obtain ⟨sa, hsa⟩ := hstrs _ hstr
  subst own_eq
  refine vx_throwSW (names := ["java/lang/RuntimeException", "java/lang/Exception"]) (text := text) (sa := sa) (A := qA ω) hx hb hlt hown hcls (by decide +kernel) (hts _ hk) (hts _ hini) hsa (fun w h => ?_) hgood hz1 hz2 hS (hl.1.trans hml.symm) d0 d3 d4 d7 d10 (fun x hx => by rw [htb] at hx; cases hx) (by simp only [List.length_cons, List.length_nil]; omega) (by simp only [List.length_cons, List.length_nil]; omega) (by omega) (by omega) hlk0 (fun t ht hz hq => ⟨g, hp, ⟨hw.1.kept (fun j q hj => hq q.1 (hw.1 j q hj).lt), hw.2⟩, ⟨Nat.le_trans hS.1 hz, fun q h1 h2 => by rw [hq q (Nat.lt_of_lt_of_le h1 hS.1)]; exact hS.2.1 q h1 h2⟩⟩) hS.2.2 (by omega) (by omega)
  rcases hat w h with h | h
  · exact hts w h
  · exact va_Nw.use (qNg_tabs h) (hng w h)
end QC
