/-! constructors: rows over a list of cells -/
/-- the classes of the arrays, by kind -/
def cyOK (cy : Nat → ClassId) (U : State) : Prop := ∀ t : Nat, (t = 0 ∨ t = 1 ∨ t = 3) → U.vm.findClass ("[" ++ (qFt t).toString) = some (cy t) ∧ ArrOfT U (cy t) (qFt t)
theorem cyOK.moved {cy : Nat → ClassId} {u U : State} (hvm : u.vm.Alike U.vm) (h : cyOK cy u) : cyOK cy U := fun t ht => ⟨by rw [hvm.findClass]; exact (h t ht).1, arrOfT_moved hvm (h t ht).2⟩
theorem cyOK.K {D : va_G} {cy : Nat → ClassId} {U : State} (h : cyOK cy U) (hK : va_K D vwCl [] U) : va_K D vwCl (qTys cy) U := by
  refine ⟨hK.1, fun k q hk => ?_⟩
  match k, hk with
  | 0, hk => cases hk; exact ⟨(h 0 (by decide)).2, (h 0 (by decide)).1⟩
  | 1, hk => cases hk; exact ⟨(h 1 (by decide)).2, (h 1 (by decide)).1⟩
  | 2, hk => cases hk; exact ⟨(h 0 (by decide)).2, (h 0 (by decide)).1⟩
  | 3, hk => cases hk; exact ⟨(h 3 (by decide)).2, (h 3 (by decide)).1⟩
  | 4, hk => cases hk; exact ⟨(h 0 (by decide)).2, (h 0 (by decide)).1⟩
  | k + 5, hk => simp [qTys] at hk
theorem lI_0 : (0 : Int64) = lI 0 := by decide +kernel
theorem dI_0 : (0 : UInt64) = UInt64.ofNat (0 : Int).toNat := by decide +kernel
abbrev zR : Int → Int := fun _ => 0
theorem zA (cA : ClassId) : ∀ (t n : Nat), t < 5 → vp_cell cA (qAr t n zR) = arrV cA n (fun _ => defaultValue (qFt t))
  | 0, n, _ => by
    show arrV cA n (fun _ => Value.int (iI 0)) = arrV cA n (fun _ => Value.int 0)
    rw [iI_0]
  | 1, n, _ => by
    show arrV cA n (fun _ => Value.int (iI 0)) = arrV cA n (fun _ => Value.int 0)
    rw [iI_0]
  | 2, n, _ => by
    show arrV cA n (fun _ => Value.int (iI 0)) = arrV cA n (fun _ => Value.int 0)
    rw [iI_0]
  | 3, n, _ => by
    show arrV cA n (fun _ => Value.long (lI 0)) = arrV cA n (fun _ => Value.long 0)
    rw [lI_0]
  | 4, n, _ => by
    show arrV cA n (fun _ => Value.double (UInt64.ofNat (0 : Int).toNat)) = arrV cA n (fun _ => Value.double 0)
    rw [← dI_0]
  | t + 5, n, h => by omega
section CR
variable {p : Program} {l : Launch} {e : Env} {R : Room} {s : State} {m : MethodId} {args : Array Value} {below : List Frame} {meth : Method} {c : Code} {H : Heap} {locs : List Loc} {cells slots : Nat} {Q : State → Prop}
variable {cc : ByteArray} {pc : Nat} {ls : Array Slot} {rest : List Value} {D : va_G} {ws : va_W} {A : Nat → Prop} {H0 : Heap} {cy : Nat → ClassId}
theorem c_newa (hexec : p.tables.exec = Jvm.exec) (hb : c.code = cc) {atype : ArrayType} (t : Nat) (ht : t = 0 ∨ t = 1 ∨ t = 3) (hty : newarray.typeOf atype = qFt t) (harr : (Cond.arrayClass (qFt t)).before args s = true) (hcy : cyOK cy s) (hP : va_P D vwCl ws H) (hD : va_D A ws) (hS : va_S A H0 H locs) (hA : ∀ q, H0.size ≤ q → A q)
    {n : Int32} {N' : Nat} (hn : ¬ n < 0) (hN : n.toNatClampNeg = N') (hbytes : N' * componentBytes (qFt t) ≤ 536870912) (hcells : cells + 1 ≤ R.cells) (hslots : slots + N' ≤ R.slots) (hdg : decode cc pc = .ok (.newarray atype, 2))
    (kk : ∀ (q : Nat) (H1 : Heap), va_P D vwCl (ws ++ [(q, .inl (cy t, qAr t N' zR))]) H1 → va_D A (ws ++ [(q, .inl (cy t, qAr t N' zR))]) → va_S A H0 H1 locs →
      W p l e R s m args below meth c H1 locs (cells + 1) (slots + N') Q (F0 m (pc + 2) ls (.ref q :: rest))) : W p l e R s m args below meth c H locs cells slots Q (F0 m pc ls (.int n :: rest)) := by
  refine va_newaK hexec hb (atype := atype) (by rw [hty]; exact harr) rfl hdg rfl hn hN (by rw [hty]; exact hbytes) hcells hslots rfl fun H1 cA e1 z1 o1 hAr hNm => ?_
  have ec : cA = cy t := by
    rw [hty] at hNm
    exact Option.some.inj (hNm.symm.trans (hcy t ht).1)
  subst ec
  have hk : ∀ (k : Nat) (x : Nat × va_E), ws[k]? = some x → H1[x.1]? = H[x.1]? := fun k x hx => o1 x.1 ((hP k x hx).lt)
  refine kk H.size H1 ((hP.kept hk).app (fun k x hx => ?_)) (hD.push hP rfl (hA _ hS.1)) ⟨Nat.le_trans hS.1 (by omega), fun x h1 h2 => (o1 x (Nat.lt_of_lt_of_le h1 hS.1)).trans (hS.2.1 x h1 h2), hS.2.2⟩
  have hz : k < 1 := (List.getElem?_eq_some_iff.mp hx).1
  rw [show k = 0 by omega] at hx
  cases hx
  show H1[H.size]? = some (vp_cell (cy t) (qAr t N' zR))
  rw [zA (cy t) t N' (by omega), ← hty]
  exact e1
/-- a constructor's start, and its contract: the cells wc, and what they are behind it with those that came -/
def cPre (D : va_G) (cy : Nat → ClassId) (wc : va_W) (sz : Nat) (U : State) : Prop := U.heap.size = sz ∧ va_P D vwCl wc U.heap ∧ va_K D vwCl (qTys cy) U ∧ cyOK cy U ∧ (∀ w ∈ qNg, va_Nw w U) ∧ va_D (fun _ => True) wc
def cCt (l : Launch) (y : MethodName) (cd : Cond) (fr mc ms : Nat) (D : va_G) (cy : Nat → ClassId) (av : List Value) (wc : va_W) (w1 : (Nat → Nat) → va_W) : Prop := ∀ sz, Met l y (qWds cd) ({ frames := fr, cells := mc, slots := ms, locals := 40 * fr } : Room) (va_Pc av (cPre D cy wc sz)) (va_Qv (fun _ : Nat → Nat => True) (fun u t => va_P D vwCl (w1 u) t.heap ∧ va_D (va_A wc sz) (w1 u)) (va_A wc sz)) mc ms (va_A wc sz)
theorem cBlind {wc : va_W} {sz : Nat} {av : List Value} : FrameBlind (va_Pc av (cPre D cy wc sz)) := fun a U g mk q => by
  obtain ⟨q0, q1, qP, qK, qy, qn, qD⟩ := q
  exact ⟨q0, q1, qP, va_K.moved (u := U) (U := U.calling g mk a) (Vm.Alike.refl U.vm) qK, qy.moved (u := U) (U := U.calling g mk a) (Vm.Alike.refl U.vm), fun w hw => va_Nw.same (u := U) (U := U.calling g mk a) (qNg_tabs hw) rfl (qn w hw), qD⟩
def cOn (l : Launch) (y : MethodName) (cd : Cond) (bytes : ByteArray) (maxL n : Nat) : Prop := cd = .code y bytes maxL none ∧ cd ∈ qAW ∧ Cond.instanceMethod y ∈ qAW ∧ Cond.initialized y.cls ∈ qAW ∧ (y.cls ≠ "java/lang/invoke/MethodHandle" ∧ y.cls ≠ "java/lang/invoke/VarHandle" ∧ (parseMethodDescriptor y.desc).map (fun d => d.parameters.length) = some n) ∧ y.name = "<init>"
theorem c_call0 {y : MethodName} {bytes : ByteArray} {maxL fr' mc' ms' : Nat} {As av : List Value} {b : Nat} {wc wr : va_W} {w1 : (Nat → Nat) → va_W} {st : List Value}
    (hM : cCt l y (.code y bytes maxL none) fr' mc' ms' D cy av wc w1)
    (hrun : ∀ sz, Met l y (qWds (.code y bytes maxL none)) ({ frames := fr', cells := mc', slots := ms', locals := 40 * fr' } : Room) (va_Pc av (cPre D cy wc sz)) (va_Qv (fun _ : Nat → Nat => True) (fun u t => va_P D vwCl (w1 u) t.heap ∧ va_D (va_A wc sz) (w1 u)) (va_A wc sz)) mc' ms' (va_A wc sz) → PreS s H (va_Pc av (cPre D cy wc sz)) (.ref b :: As) → sz = H.size →
      va_Run p l e R s m args below meth c H locs cells slots mc' ms' (F0 m pc ls st) rest (va_Qv (fun _ : Nat → Nat => True) (fun u t => va_P D vwCl (w1 u) t.heap ∧ va_D (va_A wc sz) (w1 u)) (va_A wc sz) (Value.ref b :: As).toArray) (va_A wc sz))
    (hK : va_K D vwCl (qTys cy) s) (hcy : cyOK cy s) (hng : ∀ w ∈ qNg, va_Nw w s) (hP : va_P D vwCl ws H) (hD : va_D A ws) (hS : va_S A H0 H locs) (hA : ∀ q, H0.size ≤ q → A q)
    (isC isR : List Nat) (hav : av = .ref b :: As) (hC1 : isC.filterMap (fun i => ws[i]?) = wc) (hC : isC.map (fun i => ws[i]?) = wc.map some) (hnC : va_nd isC = true) (hR : isR.map (fun i => ws[i]?) = wr.map some) (hn : va_nd isR = true) (hdis : ∀ i ∈ isR, i ∉ isC)
    (kk : ∀ (u : Nat → Nat) (H1 : Heap) (locs1 : List Loc), va_P D vwCl (wr ++ w1 u) H1 → va_D A (wr ++ w1 u) → va_S A H0 H1 locs1 → W p l e R s m args below meth c H1 locs1 (cells + mc') (slots + ms') Q (F0 m (pc + 3) ls rest)) : W p l e R s m args below meth c H locs cells slots Q (F0 m pc ls st) := by
  have hPc := hP.sub (ws' := wc) isC hC1
  have hDc := hD.sub (ws' := wc) isC hnC hC
  have hFc := va_free (wc := wc) hD hS hA isC hC
  refine va_callv (hrun H.size (hM H.size) ⟨cBlind, fun U hU hW => ⟨by rw [hav], by rw [hU], by rw [hU]; exact hPc, va_K.moved hW.alike hK, hcy.moved hW.alike, fun w hw => qNgw_warm hW (List.mem_filter.mp hw).2 (hng w hw), hDc.weaken (fun _ _ _ _ => trivial)⟩⟩ rfl) hS (fun q _ h => hFc q h) hFc (fun u t H1 locs1 ht hvm hw hB hz1 hk1 hS1 => ?_)
  obtain ⟨hP1, hD1⟩ := hB
  rw [ht] at hP1
  obtain ⟨hP2, hD2⟩ := va_join hP hD isC isR hC hR hn hdis hk1 hFc hP1 hD1
  exact kk u H1 locs1 hP2 hD2 hS1
/-- a constructor that can be seen -/
theorem c_callI {y : MethodName} {bytes : ByteArray} {maxL nL fr' mc' ms' n idx : Nat} {own : String} {As av : List Value} {b : Nat} {wc wr : va_W} {w1 : (Nat → Nat) → va_W} {st : List Value}
    (S : CallFix p m c cc nL s args qAW own) (hM : cCt l y (.code y bytes maxL none) fr' mc' ms' D cy av wc w1) (M : cOn l y (.code y bytes maxL none) bytes maxL n) (hlk : Cond.methodLink own idx y ∈ qAW)
    (hfr : fr' + 1 ≤ R.frames) (hlo : 8 + (maxL + 11) + 40 * fr' ≤ R.locals) (hst : st = As.reverse ++ .ref b :: rest) (hnn : As.length = n) (hls : ls.size = nL) (hcat : (rest.map fun v => v.category).sum ≤ 8) (hdg : decode cc pc = .ok (.invokespecial idx, 3)) (hcl : cells + mc' ≤ R.cells) (hsl : slots + ms' ≤ R.slots)
    (hK : va_K D vwCl (qTys cy) s) (hcy : cyOK cy s) (hng : ∀ w ∈ qNg, va_Nw w s) (hP : va_P D vwCl ws H) (hD : va_D A ws) (hS : va_S A H0 H locs) (hA : ∀ q, H0.size ≤ q → A q)
    (isC isR : List Nat) (hav : av = .ref b :: As) (hC1 : isC.filterMap (fun i => ws[i]?) = wc) (hC : isC.map (fun i => ws[i]?) = wc.map some) (hnC : va_nd isC = true) (hR : isR.map (fun i => ws[i]?) = wr.map some) (hn : va_nd isR = true) (hdis : ∀ i ∈ isR, i ∉ isC)
    (kk : ∀ (u : Nat → Nat) (H1 : Heap) (locs1 : List Loc), va_P D vwCl (wr ++ w1 u) H1 → va_D A (wr ++ w1 u) → va_S A H0 H1 locs1 → W p l e R s m args below meth c H1 locs1 (cells + mc') (slots + ms') Q (F0 m (pc + 3) ls rest)) : W p l e R s m args below meth c H locs cells slots Q (F0 m pc ls st) := by
  have hts := S.2.2.2.2
  obtain ⟨-, m1, m2, m4, m5, m6⟩ := M
  refine c_call0 hM (fun sz hMt hPre hsz => ?_) hK hcy hng hP hD hS hA isC isR hav hC1 hC hnC hR hn hdis kk
  exact va_runI (Ts := qAW) (As := As) (rest := rest) (g := F0 m pc ls st) S hMt ⟨callB_of (ws' := qAW) n hts (qWds_good m1) rfl rfl rfl (hts _ m4) (hts _ hlk) m5 ⟨hfr, hlo⟩, m6, hts _ m2⟩ hPre rfl hnn hls hst (lv_room hcat) hdg ⟨hcl, hsl⟩
/-- a nest mate's constructor -/
theorem c_callN {y : MethodName} {bytes : ByteArray} {maxL nL fr' mc' ms' n idx : Nat} {own host : String} {As av : List Value} {b : Nat} {wc wr : va_W} {w1 : (Nat → Nat) → va_W} {st : List Value}
    (S : CallFix p m c cc nL s args qAW own) (hM : cCt l y (.code y bytes maxL none) fr' mc' ms' D cy av wc w1) (M : cOn l y (.code y bytes maxL none) bytes maxL n) (hlk : Cond.methodLinkNest own idx y host ∈ qNg)
    (hfr : fr' + 1 ≤ R.frames) (hlo : 8 + (maxL + 11) + 40 * fr' ≤ R.locals) (hst : st = As.reverse ++ .ref b :: rest) (hnn : As.length = n) (hls : ls.size = nL) (hcat : (rest.map fun v => v.category).sum ≤ 8) (hdg : decode cc pc = .ok (.invokespecial idx, 3)) (hcl : cells + mc' ≤ R.cells) (hsl : slots + ms' ≤ R.slots)
    (hK : va_K D vwCl (qTys cy) s) (hcy : cyOK cy s) (hng : ∀ w ∈ qNg, va_Nw w s) (hP : va_P D vwCl ws H) (hD : va_D A ws) (hS : va_S A H0 H locs) (hA : ∀ q, H0.size ≤ q → A q)
    (isC isR : List Nat) (hav : av = .ref b :: As) (hC1 : isC.filterMap (fun i => ws[i]?) = wc) (hC : isC.map (fun i => ws[i]?) = wc.map some) (hnC : va_nd isC = true) (hR : isR.map (fun i => ws[i]?) = wr.map some) (hn : va_nd isR = true) (hdis : ∀ i ∈ isR, i ∉ isC)
    (kk : ∀ (u : Nat → Nat) (H1 : Heap) (locs1 : List Loc), va_P D vwCl (wr ++ w1 u) H1 → va_D A (wr ++ w1 u) → va_S A H0 H1 locs1 → W p l e R s m args below meth c H1 locs1 (cells + mc') (slots + ms') Q (F0 m (pc + 3) ls rest)) : W p l e R s m args below meth c H locs cells slots Q (F0 m pc ls st) := by
  have hts := S.2.2.2.2
  obtain ⟨-, m1, m2, m4, m5, m6⟩ := M
  refine c_call0 hM (fun sz hMt hPre hsz => ?_) hK hcy hng hP hD hS hA isC isR hav hC1 hC hnC hR hn hdis kk
  exact va_runIN (Ts := qAW) (As := As) (rest := rest) (g := F0 m pc ls st) S hMt ⟨va_cnB (ws' := qAW) n hts (qWds_good m1) rfl rfl rfl (hng _ hlk) (hts _ m4) m5 ⟨hfr, hlo⟩, m6, hts _ m2⟩ hPre rfl hnn hls hst (lv_room hcat) hdg ⟨hcl, hsl⟩
end CR
