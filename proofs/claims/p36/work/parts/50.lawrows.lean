/-! rows for the law: a body with handlers, a call of one, catching, the script -/
theorem q_methH {y : MethodName} {bytes : ByteArray} {maxL : Nat} {ret : Option FieldType} {hh : List (Nat × Nat × Nat × Nat)} {fr mc : Nat} {av : (Nat → Nat) → List Value} {g : qHp} {Post : Option Value → qHp → Prop} {PX : String → qHp → Prop} {own : String} (hy : plainName y.cls = true) (hown : y.cls = own) (hlen : ∀ ad, (lg_sl (av ad)).length ≤ maxL)
    (body : ∀ (X : qEnv) (ω : qOm), qCx X ω own bytes maxL ret (tableOf hh) fr mc → qT X ω maxL 0 (qEnd X ω Post PX mc) g 0 (lv_args 0 (av ω.1)) []) : qC y (.codeWith y bytes maxL ret hh) fr mc av g Post PX := by
  intro l hlt ω
  refine vx_ofWH (hh := hh) (ws' := qAW) hy rfl ?_
  intro p e s m args below meth c s₁ B hml hv
  obtain ⟨rfl, hSt, hDy⟩ := hv
  have hts := atoms_spec (ws := qWds (.codeWith y bytes maxL ret hh)) B.pre
  have htab := vx_table (x := y) B (hts _ List.mem_cons_self)
  have h := body (p, l, e, qRm fr mc, s, m, (av ω.1).toArray, below, meth, c) ω ⟨B.exec, B.bytes, B.returns, hml, hown ▸ findClass_of_methodNamed B.named, fun w hw => hts w (List.mem_cons_of_mem _ hw), B.notSynchronized, htab, hlt, hSt, Nat.le_refl _, Nat.le_refl _, Nat.le_refl _, Nat.le_refl _⟩
  rw [lg_entry_eq]
  exact h s.heap [] _ hDy va_S.rf (lv_entry (av ω.1) (hlen ω.1))
def qMtH (y : MethodName) (bytes : ByteArray) (maxL : Nat) (rt : Option FieldType) (hh : List (Nat × Nat × Nat × Nat)) (n : Nat) : Prop := Cond.codeWith y bytes maxL rt hh ∈ qAW ∧ Cond.static y ∈ qAW ∧ Cond.initialized y.cls ∈ qAW ∧ (y.cls ≠ "java/lang/invoke/MethodHandle" ∧ y.cls ≠ "java/lang/invoke/VarHandle" ∧ (parseMethodDescriptor y.desc).map (fun d => d.parameters.length) = some n) ∧ maxL ≤ 21
section LR
variable {X : qEnv} {ω : qOm} {own : String} {cc : ByteArray} {nL : Nat} {ret : Option FieldType} {T : List ExceptionTableEntry} {fr mc k : Nat} {Q : State → Prop} {g : qHp} {pc : Nat} {ls : List (Nat × Value)} {st : List Value}
variable {y : MethodName} {cd : Cond} {bytes : ByteArray} {maxL fr' mc' n idx b ci N : Nat} {rt : Option FieldType} {hh : List (Nat × Nat × Nat × Nat)} {av : (Nat → Nat) → List Value} {PX' : String → qHp → Prop} {As rest : List Value} {ds : List qFd} {Cn : String} {TT : u_T} {G : qHp}
theorem q_callSH (C : qCx X ω own cc nL ret T fr mc) {Post' : Option Value → qHp → Prop}
    (hM : qC y (.codeWith y bytes maxL rt hh) fr' mc' av g Post' PX') (M : qMtH y bytes maxL rt hh n) (hlk : Cond.methodLink own idx y ∈ qAW) (hav : av ω.1 = As) (hst : st = As.reverse ++ rest) (hn : As.length = n) (hcat : (rest.map fun v => v.category).sum ≤ 8) (hd : decode cc pc = .ok (.invokestatic idx, 3)) (hfr : fr' < fr) (hmc : k + mc' ≤ mc)
    (kk : ∀ v g', Post' v g' → qT X ω nL (k + mc') Q g' (pc + 3) ls (v.toList ++ rest)) (kx : ∀ E g', PX' E g' → qTx X ω nL (k + mc') Q g' pc ls rest E) : qT X ω nL k Q g pc ls st := by
  obtain ⟨p, l, e, R, s, m, args, below, meth, c⟩ := X
  obtain ⟨hx, hb, hr, hml, hown, hts, hlk0, htb, hlt, hSt, hfR, hlR, hcR, hsR⟩ := C
  obtain ⟨m1, m2, m4, m5, m6⟩ := M
  intro H locs la hw hS hl
  have hcw : vx_CSW R s args own idx y bytes maxL rt hh (qWds (.codeWith y bytes maxL rt hh)) (qRm fr' mc') mc' (6 * mc') n :=
    ⟨⟨rfl, rfl, by show fr' + 1 ≤ R.frames; omega, by show 8 + (maxL + 11) + 40 * fr' ≤ R.locals; omega, pay_in hts (qWds_good m1), List.mem_cons_self⟩, hts _ m1, hts _ m4, ⟨m5.1, m5.2.1⟩, fun sig h => by
      have h2 := m5.2.2
      rw [h] at h2
      exact (Option.some.inj h2).symm, hts _ hlk, hts _ m2⟩
  have hrun : vx_Run p l e R s m args below meth c H locs k (6 * k) mc' (6 * mc') (F0 m pc la st) rest (qQc ω Post' As.toArray) (qXc ω PX') (qA ω) := vx_runSX (Ts := qAW) (mc := mc') (ms := 6 * mc') (As := As) (rest := rest) (g := F0 m pc la st) (nL := nL) ⟨hx, hb, hml, hown, hts⟩ (hM l hlt ω) hcw
    ⟨qBlind, fun U hU hW => ⟨by rw [hav], qSt_warm hSt hS hU hW, by rw [hU]; exact hw⟩⟩ rfl hn hl.1 hst (lv_room hcat) hd ⟨by omega, by omega⟩
  exact q_run hrun hS hl kk kx
/-- a helper of the law that answers an int, and throws nothing -/
theorem q_SHi (C : qCx X ω own cc nL ret T fr mc) {P : Int → qHp → Prop} (hM : qC y (.codeWith y bytes maxL rt hh) fr' mc' av g (qPi P) qNo) (M : qMtH y bytes maxL rt hh n) (hlk : Cond.methodLink own idx y ∈ qAW) (hd : decode cc pc = .ok (.invokestatic idx, 3)) (hfr : fr' < fr) (hk : k + mc' ≤ mc) (hav : av ω.1 = As) (hst : st = As.reverse ++ rest) (hn : As.length = n) (hcat : (rest.map fun v => v.category).sum ≤ 8) (kk : ∀ (r : Int) (g' : qHp), -2147483648 ≤ r → r < 2147483648 → P r g' → qT X ω nL (k + mc') Q g' (pc + 3) ls (.int (iI r) :: rest)) : qT X ω nL k Q g pc ls st :=
  q_callSH C hM M hlk hav hst hn hcat hd hfr hk (fun v g' hp => by obtain ⟨r, rfl, hr, hp⟩ := hp; exact kk r g' hr.1 hr.2 hp) (fun E g' h => h.elim)
/-- a call on an object that may throw, in a body with handlers -/
theorem q_ViT (C : qCx X ω own cc nL ret T fr mc) {P : Int → qHp → Prop} (hM : qC y cd fr' mc' av g (qPi P) PX') (M : qMth y cd bytes maxL rt n) (hlk : Cond.methodLink own idx y ∈ qAW) (hd : decode cc pc = .ok (.invokevirtual idx, 3)) (hfr : fr' < fr) (hk : k + mc' ≤ mc) (hav : av ω.1 = .ref (ω.1 b) :: As) (hst : st = As.reverse ++ .ref (ω.1 b) :: rest) (hn : As.length = n) (hcat : (rest.map fun v => v.category).sum ≤ 8) (hlay : qLay b = .inr (ci, ds)) (hb38 : b < 24) (hc : vwCl[ci]? = some (Cn, TT, N)) (hCn : y.cls = Cn) (kx : ∀ E g', PX' E g' → qTx X ω nL (k + mc') Q g' pc ls rest E) (kk : ∀ (r : Int) (g' : qHp), -2147483648 ≤ r → r < 2147483648 → P r g' → qT X ω nL (k + mc') Q g' (pc + 3) ls (.int (iI r) :: rest)) : qT X ω nL k Q g pc ls st :=
  q_callV0 C hM M hlk hav hst hn hcat hd hfr hk hlay hb38 hc hCn (fun v g' hp => by obtain ⟨r, rfl, hr, hp⟩ := hp; exact kk r g' hr.1 hr.2 hp) kx
theorem q_VfT (C : qCx X ω own cc nL ret T fr mc) {P : UInt32 → qHp → Prop} (hM : qC y cd fr' mc' av g (qPf P) PX') (M : qMth y cd bytes maxL rt n) (hlk : Cond.methodLink own idx y ∈ qAW) (hd : decode cc pc = .ok (.invokevirtual idx, 3)) (hfr : fr' < fr) (hk : k + mc' ≤ mc) (hav : av ω.1 = .ref (ω.1 b) :: As) (hst : st = As.reverse ++ .ref (ω.1 b) :: rest) (hn : As.length = n) (hcat : (rest.map fun v => v.category).sum ≤ 8) (hlay : qLay b = .inr (ci, ds)) (hb38 : b < 24) (hc : vwCl[ci]? = some (Cn, TT, N)) (hCn : y.cls = Cn) (kx : ∀ E g', PX' E g' → qTx X ω nL (k + mc') Q g' pc ls rest E) (kk : ∀ (r : UInt32) (g' : qHp), P r g' → qT X ω nL (k + mc') Q g' (pc + 3) ls (.float r :: rest)) : qT X ω nL k Q g pc ls st :=
  q_callV0 C hM M hlk hav hst hn hcat hd hfr hk hlay hb38 hc hCn (fun v g' hp => by obtain ⟨r, rfl, hp⟩ := hp; exact kk r g' hp) kx
/-- caught here -/
theorem q_catch (C : qCx X ω own cc nL ret T fr mc) {E : String} (pre : List ExceptionTableEntry) (x : ExceptionTableEntry) (suf : List ExceptionTableEntry) (hT : T = pre ++ x :: suf) (hE : E ∈ qX5) (hpass : ∀ z ∈ pre, z.catchType ≠ 0 ∧ ∃ nm : String, Cond.classLink own z.catchType nm ∈ qAW ∧ nm ∈ qX5 ∧ E ≠ nm) (hx : covers x pc = true) (h0 : x.catchType ≠ 0)
    (hlink : Cond.classLink own x.catchType E ∈ qAW) (hcast : Cond.castable E E ∈ qNg) {h : Nat} (hh : x.handlerPc = h) (kk : ∀ q : Nat, qT X ω nL k Q g h ls [.ref q]) : qTx X ω nL k Q g pc ls st E := by
  obtain ⟨p, l, e, R, s, m, args, below, meth, c⟩ := X
  obtain ⟨hx0, hb, hr, hml, hown, hts, hlk0, htb, hlt, hSt, hfR, hlR, hcR, hsR⟩ := C
  intro H locs la q ce hw hS hl hce hcv hcl
  obtain ⟨-, -, -, -, hng, hnc, -⟩ := hSt
  subst hh
  exact vx_catch hown pre x suf (htb.trans hT) (fun z hz => by
    obtain ⟨z1, nm, z2, z3, z4⟩ := hpass z hz
    exact Or.inr ⟨z1, nm, hts _ z2, hnc E hE nm z3 z4⟩) hx h0 (hts _ hlink) (va_Nw.use (qNg_tabs hcast) (hng _ hcast)) hce hcv hcl (kk q H locs la hw hS hl)
/-- the script -/
def sI (xs : Nat → Int32) (a : Int) : Int := (xs a.toNat).toInt
theorem sI_rng (xs : Nat → Int32) (a : Int) : -2147483648 ≤ sI xs a ∧ sI xs a < 2147483648 := iI_rng _
def qSc (X : qEnv) (ω : qOm) (b L : Nat) (xs : Nat → Int32) : Prop := match X with
  | (_, _, _, _, s, _, _, _, _, _) => va_X b L xs s s.heap ∧ b < s.heap.size ∧ b < ω.2.2.2
theorem q_sld (C : qCx X ω own cc nL ret T fr mc) {L : Nat} {xs : Nat → Int32} (S : qSc X ω b L xs) {a : Int} (ha : 0 ≤ a ∧ a < L) (hL : L < 2147483648) (hd : decode cc pc = .ok (.iaload, 1)) (kk : qT X ω nL k Q g (pc + 1) ls (.int (iI (sI xs a)) :: st)) : qT X ω nL k Q g pc ls (.int (iI a) :: .ref b :: st) := by
  obtain ⟨p, l, e, R, s, m, args, below, meth, c⟩ := X
  obtain ⟨hx0, hb, -⟩ := C
  obtain ⟨s1, s2, s3⟩ := S
  intro H locs la hw hS hl
  refine va_sld hx0 hb s1 s2 (show ¬ ω.2.2.2 ≤ b from Nat.not_le.mpr s3) hS (iI_in ha hL) hd ?_
  have e : xs (iI a).toNatClampNeg = iI (sI xs a) := by
    rw [iI_cl ⟨ha.1, by omega⟩]
    exact iI_of _
  rw [e]
  exact kk H locs la hw hS hl
theorem q_slen (C : qCx X ω own cc nL ret T fr mc) {L : Nat} {xs : Nat → Int32} (S : qSc X ω b L xs) (hd : decode cc pc = .ok (.arraylength, 1)) (kk : qT X ω nL k Q g (pc + 1) ls (.int (iI (L : Int)) :: st)) : qT X ω nL k Q g pc ls (.ref b :: st) := by
  obtain ⟨p, l, e, R, s, m, args, below, meth, c⟩ := X
  obtain ⟨hx0, hb, -⟩ := C
  obtain ⟨s1, s2, s3⟩ := S
  intro H locs la hw hS hl
  refine va_slen hx0 hb s1 s2 (show ¬ ω.2.2.2 ≤ b from Nat.not_le.mpr s3) hS hd ?_
  have e : Int32.ofNat L = iI (L : Int) := Int32.ofInt_eq_ofNat.symm
  rw [e]
  exact kk H locs la hw hS hl
end LR
/-! what a helper answers -/
def hlQ (Es : List String) (P : Int → qHp → Prop) (X : String → qHp → Prop) (k : Int) (g' : qHp) : Prop := (k = 0 ∧ ∃ r h1, P r h1 ∧ g' = qUp h1 36 0 r) ∨ (∃ E, X E g' ∧ xcd Es 1 E k)
def xin : List String → String → Prop
  | [], _ => False
  | F :: l, E => E = F ∨ xin l E
