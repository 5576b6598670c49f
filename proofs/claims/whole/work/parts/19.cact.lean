/-! ===== the class: a flock acts; a step of all ===== -/
theorem up_id (P : Nat → Nat) (i : Nat) : up P i (P i) = P := by
  funext j
  unfold up
  by_cases e : j = i
  · rw [if_pos e, e]
  · rw [if_neg e]
theorem and_lt {a b n : Nat} (h : a < 2 ^ n) : a &&& b < 2 ^ n := Nat.lt_of_le_of_lt Nat.and_le_left h
theorem evC_place {P : Nat → Nat} {f v : Nat} (hf : f < 5) : evC (up P f v) = evR (nI (pkS (up P f v))) (lN (pkL (fun i => P (15 + i)))) (lN (pkL (fun i => P (5 + i)))) (lN (pkL (fun i => P (10 + i)))) (nI (P 20)) (nI (P 21)) := by
  unfold evC
  rw [up_sk P (k := 15) (n := f) (v := v) (i := 0) (fun j hj => by omega), up_sk P (k := 5) (n := f) (v := v) (i := 0) (fun j hj => by omega), up_sk P (k := 10) (n := f) (v := v) (i := 0) (fun j hj => by omega), up_n _ _ (show 20 ≠ f by omega), up_n _ _ (show 21 ≠ f by omega)]
theorem c_act {σ : qH} {x p : Nat} {z : Int32} {T P : Nat → Nat} (hx : σ.1 x = some (evC P)) (h : σ.1 p = some (planC T z)) (hxp : p ≠ x) (hT : WT T) (hP : WP T P) {f : Nat} (hf : f < T 1) :
    q_call 57 [.ref x, .ref p, .int (nI f)] σ = some (some (.int (nI (eat T P f))), q_upd σ x (evC (actP T P f))) := by
  obtain ⟨t0, t1, t2, t5, t6, t7, t8, t9⟩ := id hT
  obtain ⟨p0, p1, p5, p6, p7, p8⟩ := id hP
  have hf5 : f < 5 := by omega
  have hr := p0 f hf
  have hr5 : P f < 5 := by omega
  have hP20 : P 20 < 2 ^ 31 := Nat.lt_of_lt_of_le p7 (Nat.le_trans (pow_le5 t0) (by decide))
  have hle := (p5 (P f) hr5).2.2
  have hd15 := (t5 (P f) hr5).2.2.1
  have hp5 := pow_le5 t0
  have hxe : σ.1 x = some (evR (nI (pkS P)) (lN (pkL (fun i => P (15 + i)))) (lN (pkL (fun i => P (5 + i)))) (lN (pkL (fun i => P (10 + i)))) (nI (P 20)) (nI (P 21))) := hx
  -- the end of a move, by the mask A
  have mv : ∀ A, A < 2 ^ T 0 → ∀ b : Bool, b = !(P 20).testBit (P f) → (∀ q, q < T 0 → A.testBit q = cand T P (P f) b q) → moves T P f = true →
      q_run 57 80 [(0, .ref x), (2, .int (nI f)), (5, .int (nI A))] [] σ = some (some (.int (nI (eat T P f))), q_upd σ x (evC (actP T P f))) := by
    intro A hA b hb hq hm
    have e2 : eat T P f = 0 := if_pos hm
    have e3 : actP T P f = up P f ((bey T P (P f) (!(P 20).testBit (P f))).getD (P f)) := if_pos hm
    have hbey : (if A = 0 then none else some (low A)) = bey T P (P f) b := by
      rw [low_F t0 hA]
      exact lowF_congr fun j _ hj => hq j (by omega)
    rw [e2, e3, ← hb, ← hbey, e_57_80]
    by_cases h0 : A = 0
    · rw [if_pos (by rw [h0]), if_pos h0, e_57_102]
      show _ = some (some (Value.int (nI 0)), q_upd σ x (evC (up P f (P f))))
      rw [up_id, u_self hx]
    · have hl := low_spec (show A < 32 by omega) h0
      rw [if_neg (fun q => h0 ((nI_eq (by omega) (by decide)).mp q)), if_neg h0, ev_places hxe, q_obS, c_lowest (by omega) h0, q_cIS, q_obS]
      dsimp only
      rw [c_withSpot (hP.p8 hT) hf5 (by omega), q_cIS, q_obS]
      dsimp only
      rw [evp_places hxe, q_obS, e_57_102, show (some (low A)).getD (P f) = low A from rfl, evC_place hf5]
  have tail : moves T P f = true → ∀ d : Bool, d = (P 20).testBit (P f) → q_run 57 43 [(0, .ref x), (1, .ref p), (2, .int (nI f)), (3, .int (nI (P f))), (4, .int (nI d.toNat))] [] σ = some (some (.int (nI (eat T P f))), q_upd σ x (evC (actP T P f))) := by
    intro hm d hd
    rw [e_57_43, pl_doors h, q_obS, c_lane hT.l.2.2.1 hr5, q_cIS, q_obS]
    dsimp only
    rw [ev_places hxe, q_obS, ev_dogs hxe, q_obS, c_openRooms h hT hP, q_cIS, q_obS]
    dsimp only
    rw [nx_and]
    cases d with
    | true =>
      rw [if_neg (show ¬ nI (true.toNat) = nI 0 by decide)]
      refine mv _ (and_lt hd15) false (by rw [← hd]; rfl) (fun q hq => ?_) hm
      rw [Nat.testBit_and, bits_tb]
      simp [cand, hq]
    | false =>
      rw [if_pos (show nI (false.toNat) = nI 0 from rfl), c_carpeted hx hP, q_cIS, q_obS]
      dsimp only
      rw [nx_and]
      refine mv _ (and_lt (and_lt hd15)) true (by rw [← hd]; rfl) (fun q hq => ?_) hm
      rw [Nat.testBit_and, Nat.testBit_and, bits_tb, bits_tb]
      simp [cand, hq, show q < 5 by omega]
  rw [k_57 hx, e_57_0, ev_places hxe, q_obS, c_spot (hP.p8 hT) hf5, q_cIS, q_obS]
  dsimp only
  rw [ev_dogs hxe, q_obS, c_has hP20 (by omega), q_cIS, q_obS]
  dsimp only
  cases hd : (P 20).testBit (P f) with
  | true =>
    rw [if_neg (show ¬ nI (true.toNat) = nI 0 by decide)]
    exact tail (by unfold moves; rw [hd]; rfl) true hd.symm
  | false =>
    rw [if_pos (show nI (false.toNat) = nI 0 from rfl), ev_carpets hxe, q_obS, c_lane hP.l.2.2 hr5, q_cIS, q_obS]
    dsimp only
    by_cases hc : P (15 + P f) ≤ 0
    · rw [if_pos (nI_le hc (by omega))]
      exact tail (by unfold moves; rw [Nat.le_zero.mp hc]; simp) false hd.symm
    · rw [if_neg (fun q => hc ((nI_leI (by omega) (by omega)).mp q)), c_graze hx h hxp hT hP hf (by unfold moves; rw [hd]; simp; omega), q_cIS, q_obS]
theorem c_pass {σ : qH} {x p : Nat} {z : Int32} {T P : Nat → Nat} (hx : σ.1 x = some (evC P)) (h : σ.1 p = some (planC T z)) (hxp : p ≠ x) (hT : WT T) (hP : WP T P) :
    q_call 58 [.ref x, .ref p] σ = some (some (.int (nI (stepE T P (T 1)))), q_upd σ x (evC (stepP T P (T 1)))) := by
  rw [k_58 hx, e_58_0]
  have hh := q_for (fun i => q_run 58 4 [(0, .ref x), (1, .ref p), (2, .int (nI (stepE T P i))), (3, .int (nI i))] [] (q_upd σ x (evC (stepP T P i)))) (T 1) (fun i hi => by
    have hxa : (q_upd σ x (evC (stepP T P i))).1 x = some (evC (stepP T P i)) := u_s ..
    have hpa : (q_upd σ x (evC (stepP T P i))).1 p = some (planC T z) := (u_n _ _ hxp).trans h
    have := hT.2.1
    rw [e_58_4, pl_flocks hpa, q_obS, if_neg (nI_ge hi (by omega)), c_act hxa hpa hxp hT (hP.step hT i (by omega)) hi, q_cIS, q_obS, u_u, nI_add, nI_add]
    rfl)
  rw [show stepP T P 0 = P from rfl, u_self hx] at hh
  refine Eq.trans hh ?_
  have hpa : (q_upd σ x (evC (stepP T P (T 1)))).1 p = some (planC T z) := (u_n _ _ hxp).trans h
  have := hT.2.1
  rw [e_58_4, pl_flocks hpa, q_obS, if_pos (nI_le (Nat.le_refl _) (by omega))]
