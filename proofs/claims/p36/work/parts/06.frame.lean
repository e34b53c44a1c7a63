/-! THE SMALL MACHINE: all cells of the law's run in one numbered world; numbers are Ints; a method's walk over (heap, pc, locals, stack) -/
def iI (x : Int) : Int32 := Int32.ofInt x
def lI (x : Int) : Int64 := Int64.ofInt x
abbrev qHp : Type := Nat → Int → Int
abbrev qFd : Type := Nat ⊕ Bool
abbrev qLy : Type := (Nat × Nat) ⊕ (Nat × List qFd)
/-- what cell k is: an array (kind, length), or an object (class, fields: a cell named for good, or a number: int, long) -/
def qLay : Nat → qLy := fun k => match k with
  | 0 => .inr (5, [.inl 1, .inl 5, .inl 15, .inl 18, .inr false, .inr false, .inr true])
  | 1 => .inr (0, [.inl 2, .inl 3, .inl 4, .inr false])
  | 2 => .inl (0, 20)
  | 3 => .inl (1, 20)
  | 4 => .inl (0, 20)
  | 5 => .inr (4, [.inl 1, .inl 6, .inl 7, .inl 8, .inl 9, .inr false, .inr false])
  | 6 => .inl (0, 4)
  | 7 => .inl (0, 4)
  | 8 => .inl (0, 16)
  | 9 => .inl (0, 20)
  | 10 => .inr (4, [.inl 1, .inl 11, .inl 12, .inl 13, .inl 14, .inr false, .inr false])
  | 11 => .inl (0, 4)
  | 12 => .inl (0, 4)
  | 13 => .inl (0, 16)
  | 14 => .inl (0, 20)
  | 15 => .inr (3, [.inl 5, .inl 10, .inl 16, .inr true])
  | 16 => .inr (2, [.inl 17, .inr false])
  | 17 => .inl (3, 1024)
  | 18 => .inr (1, [.inl 19, .inl 20, .inl 21, .inl 22, .inr false])
  | 19 => .inl (0, 30)
  | 20 => .inl (0, 30)
  | 21 => .inl (0, 30)
  | 22 => .inl (1, 30)
  | _ => .inl (0, 4)
/-- what a cell's numbers lie between -/
def qRng : Nat → Int → Int × Int := fun k j => match k with
  | 0 => bif j == 4 then (0, 999) else bif j == 5 then (-2147483648, 2147483647) else (-9223372036854775808, 9223372036854775807)
  | 1 => (0, 20)
  | 2 => (0, 30)
  | 3 => (0, 65535)
  | 4 => (0, 1000)
  | 5 => bif j == 5 then (0, 4) else (-2147483648, 2147483647)
  | 6 => (0, 4)
  | 7 => (0, 4)
  | 8 => (0, 19)
  | 9 => (-1, 3)
  | 10 => bif j == 5 then (0, 4) else (-2147483648, 2147483647)
  | 11 => (0, 4)
  | 12 => (0, 4)
  | 13 => (0, 19)
  | 14 => (-1, 3)
  | 15 => (0, 1099511627775)
  | 16 => (0, 1024)
  | 17 => (0, 1099511627775)
  | 18 => (0, 30)
  | 19 => (0, 19)
  | 20 => (0, 999)
  | 21 => (0, 2)
  | 22 => (0, 65535)
  | _ => (0, 4)
def qNm (g : qHp) : Prop := ∀ k j, (qRng k j).1 ≤ g k j ∧ g k j ≤ (qRng k j).2
def qUp (g : qHp) (k : Nat) (j v : Int) : qHp := fun k' j' => if k' = k ∧ j' = j then v else g k' j'
def qFv (ad : Nat → Nat) (r : Int → Int) (j : Nat) : qFd → Value := fun d => match d with
  | .inl t => .ref (ad t)
  | .inr true => .long (lI (r j))
  | .inr false => .int (iI (r j))
def qFs (ad : Nat → Nat) (r : Int → Int) : Nat → List qFd → List Value
  | _, [] => []
  | j, d :: ds => qFv ad r j d :: qFs ad r (j + 1) ds
def qAr (t n : Nat) (r : Int → Int) : vp_A := match t with
  | 3 => (n, .inr (.inl fun j => lI (r j)))
  | 4 => (n, .inr (.inr (.inr (.inl fun j => UInt64.ofNat (r j).toNat))))
  | _ => (n, .inl fun j => iI (r j))
def qFt (t : Nat) : FieldType := match t with
  | 0 => .int
  | 1 => .char
  | 2 => .boolean
  | 3 => .long
  | _ => .double
abbrev qOm : Type := (Nat → Nat) × (Nat → ClassId) × va_G × Nat
def qCe (ad : Nat → Nat) (cy : Nat → ClassId) (g : qHp) (k : Nat) : va_E := match qLay k with
  | .inl a => .inl (cy a.1, qAr a.1 a.2 (g k))
  | .inr o => .inr (o.1, qFs ad (g k) 0 o.2)
def qWs (ad : Nat → Nat) (cy : Nat → ClassId) (g : qHp) : va_W := (List.range 24).map (fun k => (ad k, qCe ad cy g k))
def qTys (cy : Nat → ClassId) : List (ClassId × FieldType) := [(cy 0, .int), (cy 1, .char), (cy 0, .int), (cy 3, .long), (cy 0, .int)]
/-- the tables' good words; those that want a warming of their own -/
def qAW : List Cond := lw_tbl.filter goodWord
def qNgw : Cond → Bool
  | .castable .. => true
  | .declares .. => true
  | .methodLinkNest .. => true
  | _ => false
def qNg : List Cond := lw_tbl.filter qNgw
def qX5 : List String := ["java/lang/IndexOutOfBoundsException", "java/lang/IllegalArgumentException", "java/lang/UnsupportedOperationException", "java/lang/IllegalStateException", "java/util/NoSuchElementException"]
def qSr : List (Nat × String) := [(119, "there is no box at this level"), (122, "there is no such kind of hold"), (128, "the hour is not behind this one and at most 1000"), (140, "the box has no hold"), (159, "the box cannot be moved there"), (176, "there is no plan"), (193, "the hour is not behind this one, or greater than 999"), (198, "the box has a hold that lasts in this hour"), (206, "the box has an appointment, or the lane has one for the hour"), (211, "30 appointments have been booked"), (222, "the appointment is not booked"), (232, "the box has no booked appointment"), (234, "the hour is not between 0 and 999"), (239, "there is no such hour up to 999"), (241, "the hours are not between 1 and 24, or go beyond 999"), (260, "there is no such stack"), (263, "there is no such box in the yard"), (265, "there is no such lane"), (267, "there is no such appointment"), (272, "the plan has no such move"), (43, "the reach is not between 1 and 4"), (54, "there are 4 stacks"), (65, "the weight is not between 1 and 30"), (77, "the box cannot be put onto the stack"), (86, "8 boxes are in the yard, or 20 have come")]
abbrev qA (ω : qOm) : Nat → Prop := fun q => ω.2.2.2 ≤ q
def qSt (ω : qOm) (s : State) : Prop := va_K ω.2.2.1 vwCl (qTys ω.2.1) s ∧ vx_Zq Bundle.tN "UNASSIGNED_STACK" Bundle.steD (qA ω) s s.heap ∧ vx_Zq Bundle.tN "SUPPRESSED_SENTINEL" Bundle.listD (qA ω) s s.heap ∧ (∀ q ∈ qSr, ∃ a, vk_R "Quaylock" q.1 q.2 a s) ∧ (∀ w ∈ qNg, va_Nw w s) ∧ (∀ E ∈ qX5, ∀ F ∈ qX5, E ≠ F → va_Nc E F s) ∧ ω.2.2.2 ≤ s.heap.size
def qDy (ω : qOm) (g : qHp) (H : Heap) : Prop := va_P ω.2.2.1 vwCl (qWs ω.1 ω.2.1 g) H ∧ va_D (qA ω) (qWs ω.1 ω.2.1 g) ∧ qNm g
abbrev qEnv : Type := Program × Launch × Env × Room × State × MethodId × Array Value × List Frame × Method × Code
/-- a method's walk stands here: its code, its tables, its world's names -/
def qCx (X : qEnv) (ω : qOm) (own : String) (cc : ByteArray) (nL : Nat) (ret : Option FieldType) (T : List ExceptionTableEntry) (fr mc : Nat) : Prop := match X with
  | (p, l, _, R, s, m, args, _, meth, c) => p.tables.exec = Jvm.exec ∧ c.code = cc ∧ meth.sig.returnType = ret ∧ c.maxLocals = nL ∧ s.vm.findClass own = some m.cls ∧ (∀ w ∈ qAW, w.before args s = true) ∧ meth.locks = false ∧ c.exceptionTable.toList = T ∧ l.stackTraces = false ∧ qSt ω s ∧ fr ≤ R.frames ∧ 40 * fr ≤ R.locals ∧ mc ≤ R.cells ∧ 6 * mc ≤ R.slots
def lkp : List (Nat × Value) → Nat → Option Value
  | [], _ => none
  | q :: t, i => bif q.1 == i then some q.2 else lkp t i
def sto1 (ls : List (Nat × Value)) (i : Nat) (v : Value) : List (Nat × Value) := (i, v) :: ls.filter (fun q => !(q.1 == i) && !(q.1 + 1 == i && q.2.category == 2))
def sto2 (ls : List (Nat × Value)) (i : Nat) (v : Value) : List (Nat × Value) := (i, v) :: ls.filter (fun q => !(q.1 == i) && (!(q.1 == i + 1) && !(q.1 + 1 == i && q.2.category == 2)))
def lsub (ls : List (Nat × Value)) : List (Nat × Value) → Prop
  | [] => True
  | q :: t => lkp ls q.1 = some q.2 ∧ lsub ls t
/-- the walk: from every state with this heap, at this pc, with these locals and this stack, the machine comes to Q; k: cells that may have come -/
def qT (X : qEnv) (ω : qOm) (nL k : Nat) (Q : State → Prop) (g : qHp) (pc : Nat) (ls : List (Nat × Value)) (st : List Value) : Prop := match X with
  | (p, l, e, R, s, m, args, below, meth, c) => ∀ (H : Heap) (locs : List Loc) (la : Array Slot), qDy ω g H → va_S (qA ω) s.heap H locs → lv_has la nL ls → W p l e R s m args below meth c H locs k (6 * k) Q (F0 m pc la st)
def qQc (ω : qOm) (Post : Option Value → qHp → Prop) : Array Value → State → Outcome → State → Prop := fun _ st oc t => ∃ v g', oc = .returned v ∧ Post v g' ∧ qDy ω g' t.heap ∧ va_F (qA ω) st t
def qXc (ω : qOm) (PX : String → qHp → Prop) : String → State → State → Prop := fun E st t => ∃ g', PX E g' ∧ qDy ω g' t.heap ∧ va_F (qA ω) st t
def qRm (fr mc : Nat) : Room := { frames := fr, cells := mc, slots := 6 * mc, locals := 40 * fr }
/-- the words of every method: its own code, then the tables' -/
def qWds (cd : Cond) : List Cond := cd :: qAW
/-- a method's contract: from every heap g of the small machine, with these arguments, it returns with Post, or throws with PX -/
def qCt (l : Launch) (y : MethodName) (cd : Cond) (fr mc : Nat) (av : (Nat → Nat) → List Value) (g : qHp) (Post : Option Value → qHp → Prop) (PX : String → qHp → Prop) : Prop := ∀ ω : qOm, vx_Met l y (qWds cd) (qRm fr mc) (va_Pc (av ω.1) (fun U => qSt ω U ∧ qDy ω g U.heap)) (qQc ω Post) (qXc ω PX) mc (6 * mc) (qA ω)
def qEnd (X : qEnv) (ω : qOm) (Post : Option Value → qHp → Prop) (PX : String → qHp → Prop) (mc : Nat) : State → Prop := match X with
  | (_, _, _, _, s, _, args, below, _, _) => vx_MQ below (qQc ω Post) (qXc ω PX) args s mc (6 * mc) (qA ω)
def qPi (P : Int → qHp → Prop) : Option Value → qHp → Prop := fun v g => ∃ r : Int, v = some (.int (iI r)) ∧ (-2147483648 ≤ r ∧ r < 2147483648) ∧ P r g
def qPl (P : Int → qHp → Prop) : Option Value → qHp → Prop := fun v g => ∃ r : Int, v = some (.long (lI r)) ∧ (-9223372036854775808 ≤ r ∧ r < 9223372036854775808) ∧ P r g
def qPf (P : UInt32 → qHp → Prop) : Option Value → qHp → Prop := fun v g => ∃ r : UInt32, v = some (.float r) ∧ P r g
def qPv (P : qHp → Prop) : Option Value → qHp → Prop := fun v g => v = none ∧ P g
def qNo : String → qHp → Prop := fun _ _ => False
/-! plain facts -/
theorem iI_add (a b : Int) : iI a + iI b = iI (a + b) := (Int32.ofInt_add a b).symm
theorem iI_sub (a b : Int) : iI a - iI b = iI (a - b) := (Int32.ofInt_sub a b).symm
theorem iI_mul (a b : Int) : iI a * iI b = iI (a * b) := (Int32.ofInt_mul a b).symm
theorem lI_add (a b : Int) : lI a + lI b = lI (a + b) := (Int64.ofInt_add a b).symm
theorem lI_sub (a b : Int) : lI a - lI b = lI (a - b) := (Int64.ofInt_sub a b).symm
theorem iI_t {a : Int} (h : -2147483648 ≤ a ∧ a < 2147483648) : (iI a).toInt = a := Int32.toInt_ofInt_of_le (by omega) (by omega)
theorem lI_t {a : Int} (h : -9223372036854775808 ≤ a ∧ a < 9223372036854775808) : (lI a).toInt = a := Int64.toInt_ofInt_of_le (by omega) (by omega)
theorem iI_of (x : Int32) : x = iI x.toInt := (Int32.ofInt_toInt x).symm
theorem iI_rng (x : Int32) : -2147483648 ≤ x.toInt ∧ x.toInt < 2147483648 := ⟨Int32.le_toInt x, Int32.toInt_lt x⟩
theorem iI_lt {a b : Int} (ha : -2147483648 ≤ a ∧ a < 2147483648) (hb : -2147483648 ≤ b ∧ b < 2147483648) : iI a < iI b ↔ a < b := by rw [Int32.lt_iff_toInt_lt, iI_t ha, iI_t hb]
theorem iI_le {a b : Int} (ha : -2147483648 ≤ a ∧ a < 2147483648) (hb : -2147483648 ≤ b ∧ b < 2147483648) : iI a ≤ iI b ↔ a ≤ b := by rw [Int32.le_iff_toInt_le, iI_t ha, iI_t hb]
theorem iI_eq {a b : Int} (ha : -2147483648 ≤ a ∧ a < 2147483648) (hb : -2147483648 ≤ b ∧ b < 2147483648) : iI a = iI b ↔ a = b := by rw [← Int32.toInt_inj, iI_t ha, iI_t hb]
theorem iI_0 : (0 : Int32) = iI 0 := by decide +kernel
theorem iI_cl {a : Int} (h : 0 ≤ a ∧ a < 2147483648) : (iI a).toNatClampNeg = a.toNat := Int32.toNatClampNeg_ofInt_of_le (by omega) (by omega)
theorem iI_in {a : Int} {n : Nat} (h : 0 ≤ a ∧ a < n) (hn : n < 2147483648) : vp_in (iI a) n := by
  rw [vp_in_iff, iI_t (by omega)]
  exact h
theorem iI_l {a : Int} (h : -2147483648 ≤ a ∧ a < 2147483648) : (iI a).toInt64 = lI a := Int32.toInt64_ofInt (by show (-2147483648 : Int) ≤ a; omega) (by show a ≤ (2147483647 : Int); omega)
theorem lI_i (a : Int) : (lI a).toInt32 = iI a := Int64.toInt32_ofInt
theorem qUp_s (g : qHp) (k : Nat) (j v : Int) : qUp g k j v k j = v := by simp [qUp]
theorem qUp_k {g : qHp} {k k' : Nat} {j j' v : Int} (h : k' ≠ k) : qUp g k j v k' j' = g k' j' := by simp [qUp, h]
theorem qUp_j {g : qHp} {k k' : Nat} {j j' v : Int} (h : j' ≠ j) : qUp g k j v k' j' = g k' j' := by simp [qUp, h]
theorem qUp_row {g : qHp} {k k' : Nat} {j v : Int} (h : k' ≠ k) : qUp g k j v k' = g k' := by funext x; exact qUp_k h
theorem qUp_nm {g : qHp} {k : Nat} {j v : Int} (h : qNm g) (hv : (qRng k j).1 ≤ v ∧ v ≤ (qRng k j).2) : qNm (qUp g k j v) := by
  intro k' j'
  by_cases e : k' = k ∧ j' = j
  · obtain ⟨rfl, rfl⟩ := e
    rw [qUp_s]; exact hv
  · have : qUp g k j v k' j' = g k' j' := by simp [qUp, e]
    rw [this]; exact h k' j'
theorem qWs_get (ad : Nat → Nat) (cy : Nat → ClassId) (g : qHp) {k : Nat} (h : k < 24) : (qWs ad cy g)[k]? = some (ad k, qCe ad cy g k) := by
  simp [qWs, List.getElem?_map, List.getElem?_range h]
theorem qCe_k {ad : Nat → Nat} {cy : Nat → ClassId} {g : qHp} {k k' : Nat} {j v : Int} (h : k' ≠ k) : qCe ad cy (qUp g k j v) k' = qCe ad cy g k' := by
  unfold qCe
  rw [qUp_row h]
theorem qWs_set {ad : Nat → Nat} {cy : Nat → ClassId} {g : qHp} {k : Nat} {j v : Int} (h : k < 24) : (qWs ad cy g).set k (ad k, qCe ad cy (qUp g k j v) k) = qWs ad cy (qUp g k j v) := by
  apply List.ext_getElem?
  intro i
  by_cases hi : i = k
  · subst hi
    rw [List.getElem?_set_self (by simp [qWs]; exact h), qWs_get _ _ _ h]
  · rw [List.getElem?_set_ne (Ne.symm hi)]
    simp only [qWs, List.getElem?_map]
    cases hr : (List.range 24)[i]? with
    | none => rfl
    | some a =>
      have ha : a = i := by
        have h2 := List.getElem?_eq_some_iff.mp hr
        obtain ⟨h3, h4⟩ := h2
        rw [List.getElem_range] at h4
        exact h4.symm
      subst ha
      simp only [Option.map_some]
      rw [qCe_k hi]
theorem qFs_get (ad : Nat → Nat) (r : Int → Int) : ∀ (ds : List qFd) (o i : Nat) (d : qFd), ds[i]? = some d → (qFs ad r o ds)[i]? = some (qFv ad r (o + i) d)
  | [], _, _, _, h => by simp at h
  | e :: ds, o, 0, d, h => by
    simp at h
    subst h
    simp [qFs]
  | e :: ds, o, i + 1, d, h => by
    simp only [List.getElem?_cons_succ] at h
    simp only [qFs, List.getElem?_cons_succ]
    rw [qFs_get ad r ds (o + 1) i d h]
    congr 2
    omega
theorem qFs_len (ad : Nat → Nat) (r : Int → Int) : ∀ (ds : List qFd) (o : Nat), (qFs ad r o ds).length = ds.length
  | [], _ => rfl
  | e :: ds, o => by simp [qFs, qFs_len ad r ds (o + 1)]
theorem qFs_eq (ad : Nat → Nat) (r r' : Int → Int) : ∀ (ds : List qFd) (o : Nat), (∀ i : Nat, o ≤ i → r' i = r i) → qFs ad r' o ds = qFs ad r o ds
  | [], _, _ => rfl
  | e :: ds, o, h => by
    simp only [qFs]
    rw [qFs_eq ad r r' ds (o + 1) (fun i hi => h i (by omega))]
    have e1 : qFv ad r' o e = qFv ad r o e := by
      unfold qFv
      rw [h o (Nat.le_refl o)]
    rw [e1]
theorem qFs_set (ad : Nat → Nat) (r : Int → Int) (v : Int) : ∀ (ds : List qFd) (o i : Nat) (b : Bool), ds[i]? = some (.inr b) → (qFs ad r o ds).set i (qFv ad (fun j => if j = ((o + i : Nat) : Int) then v else r j) (o + i) (.inr b)) = qFs ad (fun j => if j = ((o + i : Nat) : Int) then v else r j) o ds
  | [], _, _, _, h => by simp at h
  | e :: ds, o, 0, b, h => by
    simp at h
    subst h
    simp only [qFs, List.set_cons_zero, Nat.add_zero]
    congr 1
    refine (qFs_eq ad r _ ds (o + 1) ?_).symm
    intro i hi
    have : ¬ ((i : Int) = (o : Int)) := by omega
    simp [this]
  | e :: ds, o, i + 1, b, h => by
    simp only [List.getElem?_cons_succ] at h
    have h2 := qFs_set ad r v ds (o + 1) i b h
    have e0 : o + (i + 1) = o + 1 + i := by omega
    rw [e0]
    simp only [qFs, List.set_cons_succ]
    rw [h2]
    congr 1
    have hne : ¬ ((o : Int) = ((o + 1 + i : Nat) : Int)) := by omega
    cases e with
    | inl t => rfl
    | inr b2 => cases b2 <;> simp only [qFv, if_neg hne]
theorem lkp_at {la : Array Slot} {nL : Nat} {ls : List (Nat × Value)} (h : lv_has la nL ls) {i : Nat} {v : Value} (hk : lkp ls i = some v) : la[i]? = some (.val v) := by
  have key : ∀ l : List (Nat × Value), lkp l i = some v → (i, v) ∈ l := by
    intro l
    induction l with
    | nil => intro h; cases h
    | cons q t ih =>
      intro h
      unfold lkp at h
      cases hq : (q.1 == i) with
      | true =>
        rw [hq] at h
        cases h
        have : q.1 = i := by simpa using hq
        subst this
        exact List.mem_cons_self
      | false =>
        rw [hq] at h
        exact List.mem_cons_of_mem _ (ih h)
  exact h.2.2 (i, v) (key ls hk)
theorem lsub_has {la : Array Slot} {nL : Nat} {ls : List (Nat × Value)} (h : lv_has la nL ls) : ∀ {l' : List (Nat × Value)}, lsub ls l' → lv_has la nL l' := by
  intro l' hl
  refine ⟨h.1, h.2.1, ?_⟩
  induction l' with
  | nil => intro q hq; cases hq
  | cons a t ih =>
    intro q hq
    rcases List.mem_cons.mp hq with rfl | hq
    · exact lkp_at h hl.1
    · exact ih hl.2 q hq
