/-! ===== the class: rooms, open rooms, a flock acts, a step ===== -/
theorem bits_step {c : Nat → Bool} {i : Nat} (hi : i < 5) : nI (bits c i) ||| (nI 1 <<< (nI i &&& 31)) = nI (bits c i ||| 2 ^ i) := by
  have := Nat.pow_le_pow_right (show 0 < 2 by decide) (show i ≤ 5 by omega)
  rw [n_shl (by omega) (by omega), Nat.one_mul, n_or]
theorem c_flocksIn {σ : qH} {p : Nat} {z : Int32} {T P : Nat → Nat} (h : σ.1 p = some (planC T z)) (hT : WT T) (hP : WP T P) {r : Nat} (hr : r < 2 ^ 31) :
    q_call 50 [.ref p, .int (nI (pkS P)), .int (nI r)] σ = some (some (.int (nI (inR T P r))), σ) := by
  have t1 := hT.2.1
  rw [k_50 h, e_50_0]
  refine (q_for (fun i => q_run 50 5 [(0, .ref p), (1, .int (nI (pkS P))), (2, .int (nI r)), (3, .int (nI (bits (fun f => P f == r) i))), (4, .int (nI i))] [] σ) (T 1) (fun i hi => ?_)).trans ?_
  · have hPi := hP.p8 hT i (by omega)
    rw [e_50_5, pl_flocks h, q_obS, if_neg (nI_ge hi (by omega)), c_spot (hP.p8 hT) (by omega), q_cIS, q_obS, e_50_31, e_50_31, nI_add]
    dsimp only
    by_cases hc : P i = r
    · rw [if_pos (by rw [hc]), bits_step (by omega), bits_t (c := fun f => P f == r) (by simpa using hc)]
    · rw [if_neg (fun q => hc ((nI_eq (by omega) hr).mp q)), bits_f (c := fun f => P f == r) (by simpa using hc)]
  · rw [e_50_5, pl_flocks h, q_obS, if_pos (nI_le (Nat.le_refl _) (by omega))]
    rfl
def strF (T P : Nat → Nat) : Nat := bits (fun f => !(P f == T (20 + f))) (T 1)
theorem c_strays {σ : qH} {p : Nat} {z : Int32} {T P : Nat → Nat} (h : σ.1 p = some (planC T z)) (hT : WT T) (hP : WP T P) :
    q_call 75 [.ref p, .int (nI (pkS P))] σ = some (some (.int (nI (strF T P))), σ) := by
  have t1 := hT.2.1
  rw [k_75 h, e_75_0]
  refine (q_for (fun i => q_run 75 4 [(0, .ref p), (1, .int (nI (pkS P))), (2, .int (nI (bits (fun f => !(P f == T (20 + f))) i))), (3, .int (nI i))] [] σ) (T 1) (fun i hi => ?_)).trans ?_
  · have hPi := hP.p8 hT i (by omega)
    have hTi := hT.l.2.2.2.2.2 i (by omega)
    rw [e_75_4, pl_flocks h, q_obS, if_neg (nI_ge hi (by omega)), c_spot (hP.p8 hT) (by omega), q_cIS, q_obS]
    dsimp only
    rw [pl_homes h, q_obS, c_spot hT.l.2.2.2.2.2 (by omega), q_cIS, q_obS, e_75_34, e_75_34, nI_add]
    dsimp only
    by_cases hc : P i = T (20 + i)
    · rw [if_pos (by rw [hc]), bits_f (c := fun f => !(P f == T (20 + f))) (by simpa using hc)]
    · rw [if_neg (fun q => hc ((nI_eq (by omega) (by omega)).mp q)), bits_step (by omega), bits_t (c := fun f => !(P f == T (20 + f))) (by simpa using hc)]
  · rw [e_75_4, pl_flocks h, q_obS, if_pos (nI_le (Nat.le_refl _) (by omega))]
    rfl
theorem pkL_inc (g : Nat → Nat) {r : Nat} (hr : r < 5) : pkL g + 2 ^ (8 * r) = pkL (up g r (g r + 1)) := by
  unfold pkL up
  rcases i5 hr with rfl | rfl | rfl | rfl | rfl <;> simp <;> omega
theorem c_openRooms {σ : qH} {p : Nat} {z : Int32} {T P : Nat → Nat} (h : σ.1 p = some (planC T z)) (hT : WT T) (hP : WP T P) :
    q_call 54 [.ref p, .int (nI (pkS P)), .int (nI (P 20))] σ = some (some (.int (nI (bits (opn T P) (T 0)))), σ) := by
  obtain ⟨t0, t1, t2, t5, t6, t7, t8, t9⟩ := id hT
  have hP20 : P 20 < 2 ^ 31 := Nat.lt_of_lt_of_le hP.2.2.2.2.1 (Nat.le_trans (pow_le5 t0) (by decide))
  have hc5 : ∀ i, i ≤ 5 → ∀ r, r < 5 → cnt (fun f => P f == r) i < 256 := fun i hi r _ => by have := cnt_le (fun f => P f == r) i; omega
  rw [k_54 h, e_54_0]
  have h1 := q_for (fun i => q_run 54 5 [(0, .ref p), (1, .int (nI (pkS P))), (2, .int (nI (P 20))), (3, .long (lN (pkL (fun r => cnt (fun f => P f == r) i)))), (5, .int (nI i))] [] σ) (T 1) (fun i hi => by
    have hPi := hP.p8 hT i (by omega)
    have hP5 : P i < 5 := by have := hP.1 i hi; omega
    rw [e_54_5, pl_flocks h, q_obS, if_neg (nI_ge hi (by omega)), c_spot (hP.p8 hT) (by omega), q_cIS, q_obS, nI_add]
    dsimp only
    rw [pk_mul, wb_shl 1 (k := 8 * P i) (by omega), Nat.one_mul, lN_add, pkL_inc _ hP5]
    congr 8
    refine pkL_congr fun r hr => ?_
    show up (fun r => cnt (fun f => P f == r) i) (P i) _ r = cnt (fun f => P f == r) i + (P i == r).toNat
    by_cases e : r = P i
    · subst e; rw [up_s]; simp
    · rw [up_n _ _ e]
      have : (P i == r) = false := by simpa using fun q => e q.symm
      rw [this]; rfl)
  refine Eq.trans h1 ?_
  rw [e_54_5, pl_flocks h, q_obS, if_pos (nI_le (Nat.le_refl _) (by omega))]
  refine (q_for (fun i => q_run 54 40 [(0, .ref p), (2, .int (nI (P 20))), (3, .long (lN (pkL (fun r => cnt (fun f => P f == r) (T 1))))), (5, .int (nI (bits (opn T P) i))), (6, .int (nI i))] [] σ) (T 0) (fun i hi => ?_)).trans ?_
  · have e85 : ∀ c, c = opn T P i → q_run 54 85 [(0, .ref p), (2, .int (nI (P 20))), (3, .long (lN (pkL (fun r => cnt (fun f => P f == r) (T 1))))), (5, .int (if c = true then nI (bits (opn T P) i ||| 2 ^ i) else nI (bits (opn T P) i))), (6, .int (nI i))] [] σ = q_run 54 40 [(0, .ref p), (2, .int (nI (P 20))), (3, .long (lN (pkL (fun r => cnt (fun f => P f == r) (T 1))))), (5, .int (nI (bits (opn T P) (i + 1)))), (6, .int (nI (i + 1)))] [] σ := by
      intro c hc
      rw [e_54_85, nI_add, hc]
      cases ho : opn T P i with
      | true => rw [if_pos rfl, bits_t ho]
      | false => rw [if_neg (by decide), bits_f ho]
    rw [e_54_40, pl_rooms h, q_obS, if_neg (nI_ge hi (by omega)), c_has hP20 (by omega), q_cIS, q_obS]
    dsimp only
    have hon : ones (inR T P i) = cnt (fun f => P f == i) (T 1) := ones_bits _ t1
    cases hg : (P 20).testBit i with
    | true =>
      rw [if_neg (show ¬ nI (true.toNat) = nI 0 by decide)]
      have := e85 false (by unfold opn; rw [hg]; rfl)
      rw [if_neg (by decide)] at this
      exact this
    | false =>
      have hc1 := hc5 (T 1) t1 i (by omega)
      have ht5 := (t5 i (by omega)).1
      rw [if_pos (show nI (false.toNat) = nI 0 from rfl), c_lane (f := fun r => cnt (fun f => P f == r) (T 1)) (hc5 (T 1) t1) (by omega), q_cIS, q_obS]
      dsimp only
      rw [pl_holds h, q_obS, c_lane hT.l.1 (by omega), q_cIS, q_obS]
      dsimp only
      by_cases ho : T (5 + i) ≤ cnt (fun f => P f == i) (T 1)
      · rw [if_pos (nI_le ho (by omega))]
        have := e85 false (by unfold opn; rw [hg, hon, decide_eq_false (Nat.not_lt.mpr ho)]; rfl)
        rw [if_neg (by decide)] at this
        exact this
      · rw [if_neg (fun q => ho ((nI_leI (by omega) (by omega)).mp q)), bits_step (by omega)]
        have := e85 true (by unfold opn; rw [hg, hon, decide_eq_true (Nat.not_le.mp ho)]; rfl)
        rw [if_pos rfl] at this
        exact this
  · rw [e_54_40, pl_rooms h, q_obS, if_pos (nI_le (Nat.le_refl _) (by omega))]
theorem c_carpeted {σ : qH} {x : Nat} {T P : Nat → Nat} (h : σ.1 x = some (evC P)) (hP : WP T P) :
    q_call 55 [.ref x] σ = some (some (.int (nI (bits (fun r => decide (0 < P (15 + r))) 5))), σ) := by
  rw [k_55 h, e_55_0]
  refine (q_for (fun i => q_run 55 4 [(0, .ref x), (1, .int (nI (bits (fun r => decide (0 < P (15 + r))) i))), (2, .int (nI i))] [] σ) 5 (fun i hi => ?_)).trans ?_
  · have hp := (hP.2.2.1 i hi).2.2
    rw [e_55_4, if_neg (nI_ge hi (by omega)), ev_carpets h, q_obS, c_lane hP.l.2.2 hi, q_cIS, q_obS, e_55_26, e_55_26, nI_add]
    dsimp only
    by_cases hc : P (15 + i) ≤ 0
    · rw [if_pos (nI_le hc (by omega)), bits_f (c := fun r => decide (0 < P (15 + r))) (by simpa using hc)]
    · rw [if_neg (fun q => hc ((nI_leI (by omega) (by omega)).mp q)), bits_step hi, bits_t (c := fun r => decide (0 < P (15 + r))) (by simp; omega)]
  · rw [e_55_4, if_pos (nI_le (Nat.le_refl 5) (by decide))]
theorem pkS_up {P : Nat → Nat} {i v : Nat} (hi : i < 5) : pkS (up P i v) = pkS (up (fun j => P j) i v) := rfl
theorem up_sh (P : Nat → Nat) (k i v : Nat) : (fun j => up P (k + i) v (k + j)) = up (fun j => P (k + j)) i v := by
  funext j
  unfold up
  by_cases e : j = i
  · rw [if_pos e, if_pos (by rw [e])]
  · rw [if_neg e, if_neg (by omega)]
theorem up_sk (P : Nat → Nat) {k n i v : Nat} (h : ∀ j, j < 5 → k + j ≠ n) : pkL (fun j => up P n v (k + j)) = pkL (fun j => P (k + j)) := pkL_congr fun j hj => up_n _ _ (h j hj)
theorem q_minN (a b : Nat) (ha : a < 2 ^ 31) (hb : b < 2 ^ 31) : q_min (nI a) (nI b) = nI (if b < a then b else a) := by
  unfold q_min
  by_cases h : b < a
  · rw [if_pos ((nI_ltI hb ha).mpr h), if_pos h]
  · rw [if_neg (fun q => h ((nI_ltI hb ha).mp q)), if_neg h]
/-- an evening after a flock has grazed -/
theorem c_graze {σ : qH} {x p : Nat} {z : Int32} {T P : Nat → Nat} (hx : σ.1 x = some (evC P)) (h : σ.1 p = some (planC T z)) (hxp : p ≠ x) (hT : WT T) (hP : WP T P) {f : Nat} (hf : f < T 1) (hm : moves T P f = false) :
    q_call 53 [.ref x, .ref p, .int (nI f), .int (nI (P f))] σ = some (some (.int (nI (eat T P f))), q_upd σ x (evC (actP T P f))) := by
  obtain ⟨t0, t1, t2, t5, t6, t7, t8, t9⟩ := id hT
  obtain ⟨p0, p1, p5, p6, p7, p8⟩ := id hP
  have hf5 : f < 5 := by omega
  have hr := p0 f hf
  have hr5 : P f < 5 := by omega
  have hle := (p5 (P f) hr5).2.2
  have hln := p5 f hf5
  have htf := t5 f hf5
  have hb9 : bite T P f ≤ 9 ∧ bite T P f ≤ P (15 + P f) := by
    unfold bite
    split <;> omega
  have eb : q_min (nI (T (25 + f))) (nI (P (15 + P f))) = nI (bite T P f) := q_minN _ _ (by omega) (by omega)
  have e2 : eat T P f = bite T P f := by unfold eat; rw [hm]; rfl
  have e3 : actP T P f = _ := if_neg (by rw [hm]; decide)
  have hdv : (P (5 + f) + bite T P f) / T 2 ≤ P (5 + f) + bite T P f := Nat.div_le_self _ _
  have hmd : (P (5 + f) + bite T P f) - (P (5 + f) + bite T P f) / T 2 * T 2 = (P (5 + f) + bite T P f) % T 2 := by
    have := Nat.div_add_mod (P (5 + f) + bite T P f) (T 2)
    rw [Nat.mul_comm] at this; omega
  have hml := Nat.mod_lt (P (5 + f) + bite T P f) (show 0 < T 2 by omega)
  have hmle : (P (5 + f) + bite T P f) / T 2 * T 2 ≤ P (5 + f) + bite T P f := Nat.div_mul_le_self _ _
  have hxe : σ.1 x = some (evR (nI (pkS P)) (lN (pkL (fun i => P (15 + i)))) (lN (pkL (fun i => P (5 + i)))) (lN (pkL (fun i => P (10 + i)))) (nI (P 20)) (nI (P 21))) := hx
  rw [k_53 hx, e_53_0, ev_carpets hxe, q_obS, c_lane hP.l.2.2 hr5, q_cIS, q_obS]
  dsimp only
  rw [pl_hungers h, q_obS, c_lane hT.l.2.2.2.1 hf5, q_cIS, q_obS]
  dsimp only
  rw [ev_eaten hxe, q_obS, c_lane hP.l.1 hf5, q_cIS, q_obS]
  dsimp only
  rw [pl_lambAt h, q_obS, if_pos (nI_le (by omega) (by omega)), q_obS, if_neg (fun q => absurd ((nI_eq (by omega) (by decide)).mp q) (by omega)), eb, nI_add, pk_div (by omega) (by omega) (by omega), e_53_57, ev_carpets hxe, q_obS, pk_sub hb9.2, c_withLane hP.l.2.2 hr5 (by omega), q_cLS, q_obS]
  dsimp only
  rw [evp_carpets hxe, q_obS]
  generalize hσ1 : q_upd σ x (evR (nI (pkS P)) (lN (pkL (up (fun i => P (15 + i)) (P f) (P (15 + P f) - bite T P f)))) (lN (pkL (fun i => P (5 + i)))) (lN (pkL (fun i => P (10 + i)))) (nI (P 20)) (nI (P 21))) = σ1
  have h1 : σ1.1 x = some (evR (nI (pkS P)) (lN (pkL (up (fun i => P (15 + i)) (P f) (P (15 + P f) - bite T P f)))) (lN (pkL (fun i => P (5 + i)))) (lN (pkL (fun i => P (10 + i)))) (nI (P 20)) (nI (P 21))) := by rw [← hσ1]; exact u_s ..
  have hp1 : σ1.1 p = some (planC T z) := by rw [← hσ1]; exact (u_n _ _ hxp).trans h
  rw [ev_eaten h1, q_obS, pl_lambAt hp1, q_obS, pk_mul, pk_sub hmle, hmd, c_withLane hP.l.1 hf5 (by omega), q_cLS, q_obS]
  dsimp only
  rw [evp_eaten h1, q_obS]
  generalize hσ2 : q_upd σ1 x (evR (nI (pkS P)) (lN (pkL (up (fun i => P (15 + i)) (P f) (P (15 + P f) - bite T P f)))) (lN (pkL (up (fun i => P (5 + i)) f ((P (5 + f) + bite T P f) % T 2)))) (lN (pkL (fun i => P (10 + i)))) (nI (P 20)) (nI (P 21))) = σ2
  have h2 : σ2.1 x = some (evR (nI (pkS P)) (lN (pkL (up (fun i => P (15 + i)) (P f) (P (15 + P f) - bite T P f)))) (lN (pkL (up (fun i => P (5 + i)) f ((P (5 + f) + bite T P f) % T 2)))) (lN (pkL (fun i => P (10 + i)))) (nI (P 20)) (nI (P 21))) := by rw [← hσ2]; exact u_s ..
  rw [ev_lambs h2, q_obS, q_obS, c_lane hP.l.2.1 hf5, q_cIS, q_obS]
  dsimp only
  have hv : q_min (nI 99) (nI (P (10 + f)) + nI ((P (5 + f) + bite T P f) / T 2)) = nI (if P (10 + f) + (P (5 + f) + bite T P f) / T 2 ≤ 99 then P (10 + f) + (P (5 + f) + bite T P f) / T 2 else 99) := by
    rw [nI_add, q_minN _ _ (by decide) (by omega)]
    congr 1
    by_cases hh : P (10 + f) + (P (5 + f) + bite T P f) / T 2 ≤ 99
    · rw [if_pos hh]; split <;> omega
    · rw [if_neg hh, if_neg (by omega)]
  have hv9 : (if P (10 + f) + (P (5 + f) + bite T P f) / T 2 ≤ 99 then P (10 + f) + (P (5 + f) + bite T P f) / T 2 else 99) < 256 := by split <;> omega
  rw [hv, c_withLane hP.l.2.1 hf5 hv9, q_cLS, q_obS]
  dsimp only
  rw [evp_lambs h2, q_obS, ← hσ2, ← hσ1, u_u, u_u, e2, e3]
  congr 3
  unfold evC
  rw [up_n _ _ (show 20 ≠ 10 + f by omega), up_n _ _ (show 20 ≠ 5 + f by omega), up_n _ _ (show 20 ≠ 15 + P f by omega), up_n _ _ (show 21 ≠ 10 + f by omega), up_n _ _ (show 21 ≠ 5 + f by omega), up_n _ _ (show 21 ≠ 15 + P f by omega)]
  congr 1
  · congr 1
    refine pkS_congr fun i hi => ?_
    rw [up_n _ _ (by omega), up_n _ _ (by omega), up_n _ _ (by omega)]
  · congr 1
    rw [← up_sh]
    refine pkL_congr fun i hi => ?_
    rw [up_n _ _ (show 15 + i ≠ 10 + f by omega), up_n _ _ (show 15 + i ≠ 5 + f by omega)]
  · congr 1
    rw [← up_sh]
    refine pkL_congr fun i hi => ?_
    rw [up_n _ _ (show 5 + i ≠ 10 + f by omega)]
    by_cases e : i = f
    · rw [e, up_s, up_s]
    · rw [up_n _ _ (by omega), up_n _ _ (by omega), up_n _ _ (by omega)]
  · congr 1
    rw [← up_sh]
    refine pkL_congr fun i hi => ?_
    by_cases e : i = f
    · rw [e, up_s, up_s]
    · rw [up_n _ _ (by omega), up_n _ _ (by omega), up_n _ _ (by omega), up_n _ _ (by omega)]
