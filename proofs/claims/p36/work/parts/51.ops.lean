/-! the law's operations over the abstract yard -/
section OPS
variable {V V' : qHp} {S S' : St}
theorem bkB_spec (V : qHp) (x : Int) : bkAB V x = -1 ∨ (0 ≤ bkAB V x ∧ bkAB V x < V 0 5 ∧ V 8 (bkAB V x) = 98 ∧ V 5 (bkAB V x) = x) := by
  rcases fstB_spec (fun i => decide (V 8 i = 98) && decide (V 5 i = x)) (V 0 5) with ⟨q, -⟩ | ⟨q1, q2, q3, -⟩
  · exact Or.inl q
  · rw [Bool.and_eq_true] at q3
    exact Or.inr ⟨q1, q2, of_decide_eq_true q3.1, of_decide_eq_true q3.2⟩
theorem fst_new {p p' : Int → Bool} {c : Int} (h0 : 0 ≤ c) (h : fstB p c = -1) (he : ∀ i, 0 ≤ i → i < c → p' i = p i) (hc : p' c = true) : fstB p' (c + 1) = c := by
  have hp : ∀ i, 0 ≤ i → i < c → p i = false := by
    rcases fstB_spec p c with ⟨-, q⟩ | ⟨q, -⟩
    · exact q
    · omega
  rcases fstB_spec p' (c + 1) with ⟨-, q⟩ | ⟨q1, q2, q3, -⟩
  · have := q c h0 (by omega)
    rw [hc] at this
    cases this
  · by_cases z : fstB p' (c + 1) < c
    · rw [he _ q1 z, hp _ q1 z] at q3
      cases q3
    · omega
/-! a stack more -/
theorem op_addStack {rc k r v : Int} (J : aJ V S) (I : aI V S) (h : sp_addStack rc V S k r V' S') (he : v = ecd [-1002, -1003] k r) (hr : 1 ≤ rc ∧ rc ≤ 4) (hc : V 0 3 < 4) : v = V 0 3 ∧ aI V' S' ∧ V' 0 3 = V 0 3 + 1 ∧ V' 0 4 = V 0 4 ∧ V' 0 5 = V 0 5 ∧ V' 0 1 = V 0 1 ∧ V' 1 (V 0 3) = rc ∧ ∀ s, s ≠ V 0 3 → V' 1 s = V 1 s := by
  rcases q_M2 h he with ⟨a, -⟩ | ⟨-, a, -⟩ | ⟨-, -, rfl, rfl, rfl⟩
  · exact absurd hr a
  · omega
  · have e : ∀ k, k ≠ 0 → k ≠ 1 → qUp (qUp V 0 3 (V 0 3 + 1)) 1 (V 0 3) rc k = V k := fun k h0 h1 => by rw [qUp_row h1, qUp_row h0]
    have e0 : ∀ j, j ≠ 3 → qUp (qUp V 0 3 (V 0 3 + 1)) 1 (V 0 3) rc 0 j = V 0 j := fun j hj => by rw [qUp_k (by decide), qUp_j hj]
    refine ⟨rfl, aI_eq I (e 2 (by decide) (by decide)) (e 3 (by decide) (by decide)) (e 4 (by decide) (by decide)) (e0 0 (by decide)) (e0 4 (by decide)), by rw [qUp_k (by decide), qUp_s], e0 4 (by decide), e0 5 (by decide), e0 1 (by decide), qUp_s _ _ _ _, fun s hs => by rw [qUp_j hs, qUp_k (by decide)]⟩
/-- what every operation of the law's loop keeps -/
def opK (V : qHp) (S : St) (told dn dm : Int) (V' : qHp) (S' : St) : Prop := aI V' S' ∧ V' 0 3 = V 0 3 ∧ V' 1 = V 1 ∧ V' 0 4 = V 0 4 + dn ∧ V' 0 5 = V 0 5 + dm ∧ (V 0 1 ≤ V' 0 1 ∧ V' 0 1 ≤ V 0 1 + 48) ∧ (told < 0 → V' = V ∧ S' = S)
theorem opK_no {told : Int} (I : aI V S) (h1 : V' = V) (h2 : S' = S) : opK V S told 0 0 V' S' := by
  subst h1 h2
  exact ⟨I, rfl, rfl, by omega, by omega, by omega, fun _ => ⟨rfl, rfl⟩⟩
/-! a box comes -/
theorem op_addBox {w s k r v : Int} (J : aJ V S) (I : aI V S) (O' : aOK V' S') (h : sp_addBox w s V S k r V' S') (he : v = ecd [-1001, -1002, -1004, -1003] k r) : (v < 0 ∧ opK V S v 0 0 V' S') ∨ (0 ≤ v ∧ opK V S v 1 0 V' S' ∧ v = V 0 4 ∧ aq3 S' v = s ∧ aq5 S' v = 0 ∧ aq10 V' S' v = 45) := by
  rcases q_M4 h he with ⟨a, h1, h2⟩ | ⟨c1, c2, ⟨c3, c4⟩, -, rfl, rfl, rfl⟩
  · exact Or.inl ⟨by omega, opK_no I h1 h2⟩
  · obtain ⟨J1, J2, J3, J4, J5, J6, J7, J8⟩ := J
    have e : ∀ k, k ≠ 0 → k ≠ 2 → qUp (qUp V 0 4 (V 0 4 + 1)) 2 (V 0 4) w k = V k := fun k h0 h1 => by rw [qUp_row h1, qUp_row h0]
    have e0 : ∀ j, j ≠ 4 → qUp (qUp V 0 4 (V 0 4 + 1)) 2 (V 0 4) w 0 j = V 0 j := fun j hj => by rw [qUp_k (by decide), qUp_j hj]
    have e4 : qUp (qUp V 0 4 (V 0 4 + 1)) 2 (V 0 4) w 0 4 = V 0 4 + 1 := by rw [qUp_k (by decide), qUp_s]
    have ew : ∀ x, x ≠ V 0 4 → qUp (qUp V 0 4 (V 0 4 + 1)) 2 (V 0 4) w 2 x = V 2 x := fun x hx => by rw [qUp_j hx, qUp_k (by decide)]
    have ew2 : qUp (qUp V 0 4 (V 0 4 + 1)) 2 (V 0 4) w 2 (V 0 4) = w := qUp_s _ _ _ _
    have hne : ∀ u x, x ∈ S u → x ≠ V 0 4 := fun u x hx => by
      have := (I.2.1 x ⟨u, hx⟩).2
      omega
    have hps : pshS S s (V 0 4) s = V 0 4 :: S s := by unfold pshS; rw [if_pos rfl]
    have hpo : ∀ u, u ≠ s → pshS S s (V 0 4) u = S u := fun u hu => by unfold pshS; rw [if_neg hu]
    have hmem : V 0 4 ∈ pshS S s (V 0 4) s := by rw [hps]; exact List.mem_cons_self
    have hin : inS (pshS S s (V 0 4)) (V 0 4) := ⟨s, hmem⟩
    have hso := so_of O'.1 O'.2.2.1 hmem
    refine Or.inr ⟨by omega, ⟨⟨fun u => ?_, fun x hx => ?_, ?_⟩, e0 3 (by decide), e 1 (by decide) (by decide), e4, by rw [e0 5 (by decide)]; omega, by rw [e0 1 (by decide)]; omega, fun q => by omega⟩, rfl, ?_, ?_, ?_⟩
    · by_cases us : u = s
      · rw [us, hps]
        refine ⟨fun y hy => ?_, srt_w (fun x hx => ew x (hne s x hx)) (I.1 s)⟩
        obtain ⟨l, hl⟩ := hd_cons hy
        rw [ew2, ew y (hne s y (by rw [hl]; exact List.mem_cons_self))]
        exact c4 y hy
      · rw [hpo u us]
        exact srt_w (fun x hx => ew x (hne u x hx)) (I.1 u)
    · rw [e4]
      obtain ⟨u, hu⟩ := hx
      have hx2 : x = V 0 4 ∨ inS S x := by
        by_cases us : u = s
        · rw [us, hps] at hu
          rcases List.mem_cons.mp hu with q | q
          · exact Or.inl q
          · exact Or.inr ⟨s, q⟩
        · rw [hpo u us] at hu
          exact Or.inr ⟨u, hu⟩
      rcases hx2 with q | q
      · rw [q, ew2]
        omega
      · have q2 := I.2.1 x q
        rw [ew x (by omega)]
        omega
    · rw [e 3 (by decide) (by decide), e 4 (by decide) (by decide), e0 0 (by decide)]
      exact I.2.2
    · unfold aq3
      rw [ifP_t hin]
      exact hso
    · unfold aq5
      rw [ifP_t hin, hso, hps]
      unfold ixO
      rw [if_pos rfl]
      rfl
    · unfold aq10
      rw [ifP_t hin, e 3 (by decide) (by decide)]
      exact J8 _ (Int.le_refl _)
/-! holds -/
theorem op_hold {x kd ut k r v : Int} (J : aJ V S) (I : aI V S) (h : sp_hold x kd ut V S k r V' S') (he : v = ecd [-1001, -1002] k r) : opK V S v 0 0 V' S' ∧ (0 ≤ v → kd = 112 ∨ kd = 108) ∧ (v = 1 → 0 ≤ aq23 V S x ∧ aq22 V' (aq23 V S x) = 103) := by
  rcases q_M2 h he with ⟨-, a, h1, h2⟩ | ⟨-, -, a, h1, h2⟩ | ⟨c1, ⟨c2, c3⟩, ⟨⟨-, a, h1⟩ | ⟨a0, a, h1⟩, rfl⟩⟩
  · exact ⟨opK_no I h1 h2, fun q => by omega, fun q => by omega⟩
  · exact ⟨opK_no I h1 h2, fun q => by omega, fun q => by omega⟩
  · subst h1
    have e : ∀ k, k ≠ 3 → k ≠ 4 → qUp (qUp V 3 x kd) 4 x ut k = V k := fun k h0 h1 => by rw [qUp_row h1, qUp_row h0]
    have e0 := e 0 (by decide) (by decide)
    refine ⟨⟨⟨by rw [e 2 (by decide) (by decide)]; exact I.1, by rw [e 2 (by decide) (by decide), e0]; exact I.2.1, fun y hy => ?_⟩, by rw [e0], e 1 (by decide) (by decide), by rw [e0]; omega, by rw [e0]; omega, by rw [e0]; omega, fun q => by omega⟩, fun _ => c2, fun q => by omega⟩
    rw [e0]
    by_cases yx : y = x
    · rw [yx, qUp_s]
      exact c3.1
    · rw [qUp_k (by decide), qUp_j yx] at hy
      rw [qUp_j yx, qUp_k (by decide)]
      exact I.2.2 y hy
  · subst h1
    have e : ∀ k, k ≠ 3 → k ≠ 4 → k ≠ 8 → qUp (qUp (qUp V 3 x kd) 4 x ut) 8 (bkAB V x) 103 k = V k := fun k h0 h1 h2 => by rw [qUp_row h2, qUp_row h1, qUp_row h0]
    have e0 := e 0 (by decide) (by decide) (by decide)
    have hb := (bkB_spec V x).resolve_left a0.1
    have e23 : aq23 V S' x = bkAB V x := by
      unfold aq23
      rw [ifP_t c1, ifP_t a0.1]
    refine ⟨⟨⟨by rw [e 2 (by decide) (by decide) (by decide)]; exact I.1, by rw [e 2 (by decide) (by decide) (by decide), e0]; exact I.2.1, fun y hy => ?_⟩, by rw [e0], e 1 (by decide) (by decide) (by decide), by rw [e0]; omega, by rw [e0]; omega, by rw [e0]; omega, fun q => by omega⟩, fun _ => c2, fun q => ⟨by rw [e23]; exact hb.1, ?_⟩⟩
    · rw [e0]
      by_cases yx : y = x
      · rw [yx, qUp_k (by decide), qUp_s]
        exact c3.1
      · rw [qUp_k (by decide), qUp_k (by decide), qUp_j yx] at hy
        rw [qUp_k (by decide), qUp_j yx, qUp_k (by decide)]
        exact I.2.2 y hy
    · unfold aq22
      rw [e23, e0, ifP_t ⟨hb.1, hb.2.1⟩, qUp_s]
theorem op_release {x k r v : Int} (J : aJ V S) (I : aI V S) (h : sp_release x V S k r V' S') (he : v = ecd [-1001, -1003] k r) : opK V S v 0 0 V' S' := by
  rcases q_M2 h he with ⟨-, a, h1, h2⟩ | ⟨-, -, a, h1, h2⟩ | ⟨c1, c2, rfl, rfl, rfl⟩
  · exact opK_no I h1 h2
  · exact opK_no I h1 h2
  · have h0 := I.2.2 x c2
    have hj := J.2.2.2.1.1
    have e : ∀ k, k ≠ 3 → k ≠ 4 → qUp (qUp V 3 x 45) 4 x 0 k = V k := fun k h0 h1 => by rw [qUp_row h1, qUp_row h0]
    have e0 := e 0 (by decide) (by decide)
    refine ⟨⟨by rw [e 2 (by decide) (by decide)]; exact I.1, by rw [e 2 (by decide) (by decide), e0]; exact I.2.1, fun y hy => ?_⟩, by rw [e0], e 1 (by decide) (by decide), by rw [e0]; omega, by rw [e0]; omega, by rw [e0]; omega, fun q => by omega⟩
    rw [e0]
    by_cases yx : y = x
    · rw [yx, qUp_k (by decide), qUp_s] at hy
      exact absurd rfl hy
    · rw [qUp_k (by decide), qUp_j yx] at hy
      rw [qUp_j yx, qUp_k (by decide)]
      exact I.2.2 y hy
/-! moves -/
theorem why_iff {x s : Int} (O : aOK V S) (c1 : inS S x ∧ isT V s) : aq13 V S x s = 45 ↔ okM (V 0 3) (V 1) (V 2) (pinA V) S (soS S x) s x := by
  have hm := in_so O.1 O.2.2.1 c1.1
  have hr := O.2.2.1.2.2.2.2 _ _ hm
  have key : ∀ v, whyA V S x s v → (v = 45 ↔ okM (V 0 3) (V 1) (V 2) (pinA V) S (soS S x) s x) := by
    intro v hv
    rcases hv with ⟨p, e⟩ | ⟨p, ⟨q, e⟩ | ⟨q, ⟨u, e⟩ | ⟨u, ⟨w, e⟩ | ⟨w, ⟨z, e⟩ | ⟨z, e⟩⟩⟩⟩⟩
    · exact ⟨fun h => by omega, fun h => absurd h.2.2.2.2.2.1 p⟩
    · exact ⟨fun h => by omega, fun h => absurd q (of_decide_eq_false h.2.2.2.2.2.2.1)⟩
    · exact ⟨fun h => by omega, fun h => absurd u h.2.2.2.2.1⟩
    · refine ⟨fun h => by omega, fun h => ?_⟩
      have := h.2.2.2.2.2.2.2.1
      unfold hgt at w
      omega
    · exact ⟨fun _ => ⟨hr.1, hr.2, c1.2.1, c1.2.2, u, p, decide_eq_false q, w, z⟩, fun _ => e⟩
    · exact ⟨fun h => by omega, fun h => absurd h.2.2.2.2.2.2.2.2 z⟩
  have hex : ∃ v, whyA V S x s v := by
    by_cases p : (S (soS S x)).head? = some x
    · by_cases q : V 3 x = 112
      · exact ⟨112, Or.inr ⟨p, Or.inl ⟨q, rfl⟩⟩⟩
      · by_cases u : soS S x = s
        · exact ⟨115, Or.inr ⟨p, Or.inr ⟨q, Or.inl ⟨u, rfl⟩⟩⟩⟩
        · by_cases w : V 1 s ≤ hgt S s
          · exact ⟨102, Or.inr ⟨p, Or.inr ⟨q, Or.inr ⟨u, Or.inl ⟨w, rfl⟩⟩⟩⟩⟩
          · by_cases z : bearS V S s (V 2 x)
            · exact ⟨45, Or.inr ⟨p, Or.inr ⟨q, Or.inr ⟨u, Or.inr ⟨by omega, Or.inl ⟨z, rfl⟩⟩⟩⟩⟩⟩
            · exact ⟨119, Or.inr ⟨p, Or.inr ⟨q, Or.inr ⟨u, Or.inr ⟨by omega, Or.inr ⟨z, rfl⟩⟩⟩⟩⟩⟩
    · exact ⟨116, Or.inl ⟨p, rfl⟩⟩
  unfold aq13
  rw [ifP_t c1]
  exact key _ (Classical.epsilon_spec hex)
theorem op_move {x s k r v : Int} (J : aJ V S) (I : aI V S) (O' : aOK V' S') (hm : 0 ≤ V 0 1 ∧ V 0 1 ≤ 1000000) (h : sp_move x s V S k r V' S') (he : v = ecd [-1001, -1004] k r) : opK V S v 0 0 V' S' ∧ ((v < 0 ∧ aq13 V S x s ≠ 45) ∨ (0 ≤ v ∧ aq13 V S x s = 45 ∧ aq3 S' x = s ∧ aq5 S' x = 0)) := by
  rcases q_M2 h he with ⟨c, a, h1, h2⟩ | ⟨c, c2, a, h1, h2⟩ | ⟨c1, c2, rfl, rfl, rfl⟩
  · refine ⟨opK_no I h1 h2, Or.inl ⟨by omega, ?_⟩⟩
    unfold aq13
    rw [ifP_f c]
    decide
  · exact ⟨opK_no I h1 h2, Or.inl ⟨by omega, fun q => c2 ((why_iff J.1 c).mp q)⟩⟩
  · have ew : w32 (V 0 1 + 1) = V 0 1 + 1 := w32_id (by omega)
    rw [ew] at O' ⊢
    have e : ∀ k, k ≠ 0 → qUp V 0 1 (V 0 1 + 1) k = V k := fun k h0 => by rw [qUp_row h0]
    have e0 : ∀ j, j ≠ 1 → qUp V 0 1 (V 0 1 + 1) 0 j = V 0 j := fun j hj => by rw [qUp_j hj]
    have hne : soS S x ≠ s := c2.2.2.2.2.1
    have hs : doM S (soS S x) s x s = x :: S s := doM_t (Ne.symm hne)
    have hmem : x ∈ doM S (soS S x) s x s := by rw [hs]; exact List.mem_cons_self
    have hin : inS (doM S (soS S x) s x) x := ⟨s, hmem⟩
    have hso := so_of O'.1 O'.2.2.1 hmem
    refine ⟨⟨aI_eq ⟨srt_do c2 I.1, fun y hy => I.2.1 y ((inS_do c2).mp hy), I.2.2⟩ (e 2 (by decide)) (e 3 (by decide)) (e 4 (by decide)) (e0 0 (by decide)) (e0 4 (by decide)), e0 3 (by decide), e 1 (by decide), by rw [e0 4 (by decide)]; omega, by rw [e0 5 (by decide)]; omega, by rw [qUp_s]; omega, fun q => by omega⟩, Or.inr ⟨by omega, (why_iff J.1 c1).mpr c2, ?_, ?_⟩⟩
    · unfold aq3
      rw [ifP_t hin]
      exact hso
    · unfold aq5
      rw [ifP_t hin, hso, hs]
      unfold ixO
      rw [if_pos rfl]
      rfl
end OPS
