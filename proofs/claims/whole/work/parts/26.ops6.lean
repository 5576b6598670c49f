/-! ===== drives, puts, calls, dawn ===== -/
theorem WP.place {T P : Nat → Nat} (hP : WP T P) (t1 : T 1 ≤ 5) {f r : Nat} (hf : f < T 1) (hr : r < T 0) : WP T (up P f r) := by
  obtain ⟨p0, p1, p5, p6, p7, p8, p9⟩ := hP
  refine ⟨fun i hi => ?_, fun i h1 h2 => ?_, fun i hi => ?_, fun i h1 h2 => ?_, ?_, ?_, fun j hj => ?_⟩
  · by_cases e : i = f
    · rw [e, up_s]; exact hr
    · rw [up_n _ _ e]; exact p0 i hi
  · rw [up_n _ _ (by omega)]; exact p1 i h1 h2
  · rw [up_n _ _ (by omega), up_n _ _ (by omega), up_n _ _ (by omega)]; exact p5 i hi
  · rw [up_n _ _ (by omega)]; exact p6 i h1 h2
  · rw [up_n _ _ (by omega)]; exact p7
  · rw [up_n _ _ (by omega)]; exact p8
  · rw [up_n _ _ (by omega)]; exact p9 j hj
theorem WP.dogs {T P : Nat → Nat} (hP : WP T P) (t1 : T 1 ≤ 5) {v : Nat} (hv : v < 2 ^ T 0) : WP T (up P 20 v) := by
  obtain ⟨p0, p1, p5, p6, p7, p8, p9⟩ := hP
  refine ⟨fun i hi => ?_, fun i h1 h2 => ?_, fun i hi => ?_, fun i h1 h2 => ?_, ?_, ?_, fun j hj => ?_⟩
  · rw [up_n _ _ (by omega)]; exact p0 i hi
  · rw [up_n _ _ (by omega)]; exact p1 i h1 h2
  · rw [up_n _ _ (by omega), up_n _ _ (by omega), up_n _ _ (by omega)]; exact p5 i hi
  · rw [up_n _ _ (by omega)]; exact p6 i h1 h2
  · rw [up_s]; exact hv
  · rw [up_n _ _ (by omega)]; exact p8
  · rw [up_n _ _ (by omega)]; exact p9 j hj
theorem evC_dogs (P : Nat → Nat) (v : Nat) : evC (up P 20 v) = evR (nI (pkS P)) (lN (pkL (fun i => P (15 + i)))) (lN (pkL (fun i => P (5 + i)))) (lN (pkL (fun i => P (10 + i)))) (nI v) (nI (P 21)) := by
  unfold evC
  rw [up_sk P (k := 15) (n := 20) (v := v) (i := 0) (fun j hj => by omega), up_sk P (k := 5) (n := 20) (v := v) (i := 0) (fun j hj => by omega), up_sk P (k := 10) (n := 20) (v := v) (i := 0) (fun j hj => by omega), up_s, up_n _ _ (show 21 ≠ 20 by omega), pkS_congr (f := up P 20 v) (g := P) (fun i hi => up_n _ _ (by omega))]
theorem evC_night (P : Nat → Nat) (v : Nat) : evC (up P 21 v) = evR (nI (pkS P)) (lN (pkL (fun i => P (15 + i)))) (lN (pkL (fun i => P (5 + i)))) (lN (pkL (fun i => P (10 + i)))) (nI (P 20)) (nI v) := by
  unfold evC
  rw [up_sk P (k := 15) (n := 21) (v := v) (i := 0) (fun j hj => by omega), up_sk P (k := 5) (n := 21) (v := v) (i := 0) (fun j hj => by omega), up_sk P (k := 10) (n := 21) (v := v) (i := 0) (fun j hj => by omega), up_s, up_n _ _ (show 20 ≠ 21 by omega), pkS_congr (f := up P 21 v) (g := P) (fun i hi => up_n _ _ (by omega))]
theorem evC_carpet (P : Nat → Nat) {j : Nat} (hj : j < 5) (v : Nat) : evC (up P (15 + j) v) = evR (nI (pkS P)) (lN (pkL (up (fun i => P (15 + i)) j v))) (lN (pkL (fun i => P (5 + i)))) (lN (pkL (fun i => P (10 + i)))) (nI (P 20)) (nI (P 21)) := by
  unfold evC
  rw [up_sh, up_sk P (k := 5) (n := 15 + j) (v := v) (i := 0) (fun j hj => by omega), up_sk P (k := 10) (n := 15 + j) (v := v) (i := 0) (fun j hj => by omega), up_n _ _ (show 20 ≠ 15 + j by omega), up_n _ _ (show 21 ≠ 15 + j by omega), pkS_congr (f := up P (15 + j) v) (g := P) (fun i hi => up_n _ _ (by omega))]
theorem m_mayDrive {σ : qH} {m : Nat} {tr : Int64} {z : Nat → Int32} {T P : Nat → Nat} (h0 : σ.1 m = some (mC m tr z)) (h2 : σ.1 (m + 2) = some (iA 35 T)) (h4 : σ.1 (m + 4) = some (iA 22 P)) (hT : WT T) (hP : WP T P) {f r : Nat} (hf : f < T 1) (hr : r < T 0) :
    q_call 86 [.ref m, .int (nI f), .int (nI r)] σ = some (some (.int (nI ((T (15 + P f)).testBit r && opn T P r).toNat)), σ) := by
  obtain ⟨t0, t1, t2, t5, t6, t7, t8, t9⟩ := id hT
  obtain ⟨p0, p1, p5, p6, p7, p8⟩ := id hP
  have hpf := p0 f hf
  have hd : T (15 + P f) < 2 ^ T 0 := (t5 (P f) (by omega)).2.2.1
  have hw := pow_le5 t0
  have hone : ones (inR T P r) ≤ 5 := by rw [show ones (inR T P r) = _ from ones_bits _ t1]; exact Nat.le_trans (cnt_le _ _) t1
  rw [k_86 h0, e_86_0]
  simp (disch := omega) only [m_told h0, m_s h0, q_obS, nI_add, a_rd h4, a_rd h2]
  rw [m_has (by omega) (by omega), q_cIS, q_obS]
  dsimp only
  cases hb : (T (15 + P f)).testBit r with
  | false => rw [if_pos (show nI (false.toNat) = nI 0 from rfl), e_86_58]; rfl
  | true =>
    rw [if_neg (show ¬ nI (true.toNat) = nI 0 by decide), m_s h0, q_obS, a_rd h4 (by decide) (by decide), q_obS, m_has (by omega) (by omega), q_cIS, q_obS]
    dsimp only
    cases hg : (P 20).testBit r with
    | true => rw [if_neg (show ¬ nI (true.toNat) = nI 0 by decide), e_86_58]; unfold opn; rw [hg]; rfl
    | false =>
      rw [if_pos (show nI (false.toNat) = nI 0 from rfl), m_inRoom h0 h2 h4 t1 (hP.p8 hT) (by omega), q_cIS, q_obS]
      dsimp only
      have := inR_lt (P := P) hT r
      rw [m_ones (by omega), q_cIS, q_obS]
      dsimp only
      rw [m_told h0, q_obS, a_rd h2 (by omega) (by decide), q_obS]
      have hc := (t5 r (by omega)).1
      by_cases hl : ones (inR T P r) < T (5 + r)
      · rw [if_neg (nI_ge hl (by omega)), show opn T P r = true by unfold opn; rw [hg, decide_eq_true hl]; rfl]; rfl
      · rw [if_pos (nI_le (by omega) (by omega)), e_86_58, show opn T P r = false by unfold opn; rw [hg, decide_eq_false hl]; rfl]; rfl
theorem o_drives {σ : qH} {x : Nat} (h : QV σ x) (f r : Int32) : QO σ x 85 87 [.int f, .int r] := by
  obtain ⟨p, tx, n, T, P, Hs, kn, I, kp, W, no, tr, C, D, hC, hD, hX, hM, hQ⟩ := id h
  have hT : WT T := hQ.2.2.1
  have hP : WP T P := hQ.2.2.2.1
  obtain ⟨t0, t1, t2, t5, t6, t7, t8, t9⟩ := id hT
  obtain ⟨h0, ⟨zz, hp⟩, hpo, he0, -⟩ := hX.f hC
  have he : σ.1 (x + 3) = some (evR (nI (pkS P)) (lN (pkL (fun i => P (15 + i)))) (lN (pkL (fun i => P (5 + i)))) (lN (pkL (fun i => P (10 + i)))) (nI (P 20)) (nI (P 21))) := he0
  by_cases hf : 0 ≤ f ∧ f < nI (T 1)
  · by_cases hr : 0 ≤ r ∧ r < nI (T 0)
    · obtain ⟨f, hf', rfl⟩ := n_within (by omega) hf
      obtain ⟨r, hr', rfl⟩ := n_within (by omega) hr
      have hpf := hP.1 f hf'
      have hd : T (15 + P f) < 2 ^ T 0 := (t5 (P f) (by omega)).2.2.1
      have hw := pow_le5 t0
      have hdd : T (15 + P f) &&& bits (opn T P) (T 0) < 2 ^ T 0 := and_lt hd
      have htb : (T (15 + P f) &&& bits (opn T P) (T 0)).testBit r = ((T (15 + P f)).testBit r && opn T P r) := by
        rw [Nat.testBit_and, bits_tb, decide_eq_true hr', Bool.true_and]
      have cx : q_call 85 [.ref x, .int (nI f), .int (nI r)] σ = if nI (((T (15 + P f)).testBit r && opn T P r).toNat) = nI 0 then some (some (.int (-2)), σ) else q_ob (q_getR σ (.ref x) 6 5) none fun v18 => q_ob (q_getR σ (.ref x) 6 3) none fun v19 => q_ob (q_cV (q_call 81 [.ref v18, .ref v19] σ)) none fun h20 => q_ob (q_getR h20 (.ref x) 6 3) none fun v21 => q_ob (q_getR h20 (.ref x) 6 3) none fun v22 => q_ob (q_getI h20 (.ref v22) 0 0) none fun v23 => q_ob (q_cI (q_call 37 [.int v23, .int (nI f), .int (nI r)] h20)) none fun p24 => q_ob (q_put p24.2 (.ref v21) 0 0 0 (.int p24.1)) none fun h25 => some (some (.int (nI (P f))), h25) := by
        rw [k_85 h0, e_85_0, x_plan h0, q_obS, c_hasFlock hp, q_cIS, q_obS]
        dsimp only
        rw [decide_eq_true hf, if_neg (show ¬ nI (true.toNat) = nI 0 by decide), x_plan h0, q_obS, c_hasRoom hp, q_cIS, q_obS]
        dsimp only
        rw [decide_eq_true hr, if_neg (show ¬ nI (true.toNat) = nI 0 by decide), x_evening h0, q_obS, ev_places he, q_obS, c_spot (hP.p8 hT) (by omega), q_cIS, q_obS]
        dsimp only
        rw [x_plan h0, q_obS, pl_doors hp, q_obS, c_lane hT.l.2.2.1 (by omega), q_cIS, q_obS]
        dsimp only
        rw [x_plan h0, q_obS, x_evening h0, q_obS, ev_places he, q_obS, q_obS, ev_dogs he, q_obS, c_openRooms hp hT hP, q_cIS, q_obS]
        dsimp only
        rw [nx_and, c_has (by omega) (by omega), q_cIS, q_obS, htb]
        dsimp only
        rw [x_evening h0]
      cases hb : (T (15 + P f)).testBit r && opn T P r with
      | false =>
        rw [hb] at cx
        refine QO.ro (v := .int (-2)) h (cx.trans (if_pos rfl)) ?_
        obtain ⟨z, m0, -, m2, m4⟩ := hM.f hD
        rw [k_87 m0, e_87_0, m_isFlock m0 m2 t1, q_cIS, q_obS]
        dsimp only
        rw [decide_eq_true hf, if_neg (show ¬ nI (true.toNat) = nI 0 by decide), m_isRoom m0 m2 t0, q_cIS, q_obS]
        dsimp only
        rw [decide_eq_true hr, if_neg (show ¬ nI (true.toNat) = nI 0 by decide), m_mayDrive m0 m2 m4 hT hP hf' hr', q_cIS, q_obS, hb]
        rfl
      | true =>
        rw [hb] at cx
        refine QO.ev (v := .int (nI (P f))) hC hD hX hM hQ (up P f r) (hP.place t1 hf' hr') (fun σ1 C1 c1 hC1 hX1 => ?_) (fun σ2 σ3 D1 hD2 c3 hD3 hM3 => ?_)
        · obtain ⟨k0, ⟨zz, kp⟩, kpo, ke, -⟩ := hX1.f hC1
          have ke' : σ1.1 (x + 3) = some (evR (nI (pkS P)) (lN (pkL (fun i => P (15 + i)))) (lN (pkL (fun i => P (5 + i)))) (lN (pkL (fun i => P (10 + i)))) (nI (P 20)) (nI (P 21))) := ke
          rw [cx, if_neg (show ¬ nI (true.toNat) = nI 0 by decide), x_past h0, q_obS, x_evening h0, q_obS, c1, q_cVS, q_obS, x_evening k0, q_obS, q_obS, ev_places ke', q_obS, c_withSpot (hP.p8 hT) (by omega) (by omega), q_cIS, q_obS]
          dsimp only
          rw [evp_places ke', q_obS, evC_place (by omega)]
        · obtain ⟨z, m0, -, m2, m4⟩ := hM.f hD2
          obtain ⟨z', n0, -, n2, n4⟩ := hM3.f hD3
          rw [k_87 m0, e_87_0, m_isFlock m0 m2 t1, q_cIS, q_obS]
          dsimp only
          rw [decide_eq_true hf, if_neg (show ¬ nI (true.toNat) = nI 0 by decide), m_isRoom m0 m2 t0, q_cIS, q_obS]
          dsimp only
          rw [decide_eq_true hr, if_neg (show ¬ nI (true.toNat) = nI 0 by decide), m_mayDrive m0 m2 m4 hT hP hf' hr', q_cIS, q_obS, hb]
          dsimp only
          rw [if_neg (show ¬ nI (true.toNat) = nI 0 by decide), c3, q_cVS, q_obS, m_s n0, q_obS, a_rd n4 (by omega) (by decide), q_obS, q_obS, a_wr n4 (by omega) (by decide), q_obS]
    · refine QO.ro (v := .int (-1)) h ?_ ?_
      · rw [k_85 h0, e_85_0, x_plan h0, q_obS, c_hasFlock hp, q_cIS, q_obS]
        dsimp only
        rw [decide_eq_true hf, if_neg (show ¬ nI (true.toNat) = nI 0 by decide), x_plan h0, q_obS, c_hasRoom hp, q_cIS, q_obS]
        dsimp only
        rw [decide_eq_false hr, if_pos (show nI (false.toNat) = nI 0 from rfl), e_85_22]
      · obtain ⟨z, m0, -, m2, m4⟩ := hM.f hD
        rw [k_87 m0, e_87_0, m_isFlock m0 m2 t1, q_cIS, q_obS]
        dsimp only
        rw [decide_eq_true hf, if_neg (show ¬ nI (true.toNat) = nI 0 by decide), m_isRoom m0 m2 t0, q_cIS, q_obS]
        dsimp only
        rw [decide_eq_false hr, if_pos (show nI (false.toNat) = nI 0 from rfl), e_87_16]
  · refine QO.ro (v := .int (-1)) h ?_ ?_
    · rw [k_85 h0, e_85_0, x_plan h0, q_obS, c_hasFlock hp, q_cIS, q_obS]
      dsimp only
      rw [decide_eq_false hf, if_pos (show nI (false.toNat) = nI 0 from rfl), e_85_22]
    · obtain ⟨z, m0, -, m2, m4⟩ := hM.f hD
      rw [k_87 m0, e_87_0, m_isFlock m0 m2 t1, q_cIS, q_obS]
      dsimp only
      rw [decide_eq_false hf, if_pos (show nI (false.toNat) = nI 0 from rfl), e_87_16]
theorem calls0 : ∀ a : Fin 32, ∀ r : Fin 5, a.val.testBit r.val = true → a.val &&& (2 ^ r.val ^^^ 4294967295) = a.val ^^^ 2 ^ r.val := by decide +kernel
theorem o_puts {σ : qH} {x : Nat} (h : QV σ x) (r : Int32) : QO σ x 89 90 [.int r] := by
  obtain ⟨p, tx, n, T, P, Hs, kn, I, kp, W, no, tr, C, D, hC, hD, hX, hM, hQ⟩ := id h
  have hT : WT T := hQ.2.2.1
  have hP : WP T P := hQ.2.2.2.1
  obtain ⟨t0, t1, t2, t5, t6, t7, t8, t9⟩ := id hT
  have hw := pow_le5 t0
  have hp20 : P 20 < 2 ^ T 0 := hP.2.2.2.2.1
  obtain ⟨h0, ⟨zz, hp⟩, hpo, he0, -⟩ := hX.f hC
  have he : σ.1 (x + 3) = some (evR (nI (pkS P)) (lN (pkL (fun i => P (15 + i)))) (lN (pkL (fun i => P (5 + i)))) (lN (pkL (fun i => P (10 + i)))) (nI (P 20)) (nI (P 21))) := he0
  by_cases hr : 0 ≤ r ∧ r < nI (T 0)
  · obtain ⟨r, hr', rfl⟩ := n_within (by omega) hr
    have hpw : 2 ^ r < 2 ^ T 0 := Nat.pow_lt_pow_right (by decide) hr'
    have ho : P 20 ||| 2 ^ r < 2 ^ T 0 := Nat.or_lt_two_pow hp20 hpw
    cases hb : (P 20).testBit r with
    | true =>
      refine QO.ro (v := .int (-2)) h ?_ ?_
      · rw [k_89 h0, e_89_0, x_plan h0, q_obS, c_hasRoom hp, q_cIS, q_obS]
        dsimp only
        rw [decide_eq_true hr, if_neg (show ¬ nI (true.toNat) = nI 0 by decide), x_evening h0, q_obS, ev_dogs he, q_obS, c_has (by omega) (by omega), q_cIS, q_obS, hb]
        rfl
      · obtain ⟨z, m0, -, m2, m4⟩ := hM.f hD
        rw [k_90 m0, e_90_0, m_isRoom m0 m2 t0, q_cIS, q_obS]
        dsimp only
        rw [decide_eq_true hr, if_neg (show ¬ nI (true.toNat) = nI 0 by decide), m_s m0, q_obS, a_rd m4 (by decide) (by decide), q_obS, m_has (by omega) (by omega), q_cIS, q_obS, hb]
        rfl
    | false =>
      refine QO.ev (v := .int (nI (ones (P 20 ||| 2 ^ r)))) hC hD hX hM hQ (up P 20 (P 20 ||| 2 ^ r)) (hP.dogs t1 ho) (fun σ1 C1 c1 hC1 hX1 => ?_) (fun σ2 σ3 D1 hD2 c3 hD3 hM3 => ?_)
      · obtain ⟨k0, ⟨zz, kp⟩, kpo, ke, -⟩ := hX1.f hC1
        have ke' : σ1.1 (x + 3) = some (evR (nI (pkS P)) (lN (pkL (fun i => P (15 + i)))) (lN (pkL (fun i => P (5 + i)))) (lN (pkL (fun i => P (10 + i)))) (nI (P 20)) (nI (P 21))) := ke
        rw [k_89 h0, e_89_0, x_plan h0, q_obS, c_hasRoom hp, q_cIS, q_obS]
        dsimp only
        rw [decide_eq_true hr, if_neg (show ¬ nI (true.toNat) = nI 0 by decide), x_evening h0, q_obS, ev_dogs he, q_obS, c_has (by omega) (by omega), q_cIS, q_obS, hb]
        dsimp only
        rw [if_pos (show nI (false.toNat) = nI 0 from rfl), x_past h0, q_obS, x_evening h0, q_obS, c1, q_cVS, q_obS, x_evening k0, q_obS, ev_dogs ke', q_obS, n_shl1 (by omega), n_or, evp_dogs ke', q_obS, ← evC_dogs]
        have j0 := (u_n σ1 (evC (up P 20 (P 20 ||| 2 ^ r))) (show x ≠ x + 3 by omega)).trans k0
        have j3 := u_s σ1 (x + 3) (evC (up P 20 (P 20 ||| 2 ^ r)))
        have j3' : (q_upd σ1 (x + 3) (evC (up P 20 (P 20 ||| 2 ^ r)))).1 (x + 3) = some (evR (nI (pkS P)) (lN (pkL (fun i => P (15 + i)))) (lN (pkL (fun i => P (5 + i)))) (lN (pkL (fun i => P (10 + i)))) (nI (P 20 ||| 2 ^ r)) (nI (P 21))) := by rw [← evC_dogs]; exact j3
        rw [x_evening j0, q_obS, ev_dogs j3', q_obS, c_bitCount (by omega), q_cIS, q_obS]
      · obtain ⟨z, m0, -, m2, m4⟩ := hM.f hD2
        obtain ⟨z', n0, -, n2, n4⟩ := hM3.f hD3
        have n0b : (q_upd σ3 (x + 24 + 4) (iA 22 (up P 20 (P 20 ||| 2 ^ r)))).1 (x + 24) = some (mC (x + 24) tr z') := (u_n _ _ (by omega)).trans n0
        have n4b : (q_upd σ3 (x + 24 + 4) (iA 22 (up P 20 (P 20 ||| 2 ^ r)))).1 (x + 24 + 4) = some (iA 22 (up P 20 (P 20 ||| 2 ^ r))) := u_s ..
        rw [k_90 m0, e_90_0, m_isRoom m0 m2 t0, q_cIS, q_obS]
        dsimp only
        rw [decide_eq_true hr, if_neg (show ¬ nI (true.toNat) = nI 0 by decide), m_s m0, q_obS, a_rd m4 (by decide) (by decide), q_obS, m_has (by omega) (by omega), q_cIS, q_obS, hb]
        dsimp only
        rw [if_pos (show nI (false.toNat) = nI 0 from rfl), c3, q_cVS, q_obS, m_s n0, q_obS, a_rd n4 (by decide) (by decide), q_obS, n_shl1 (by omega), n_or, a_wr n4 (by decide) (by decide), q_obS, m_s n0b, q_obS, a_rd n4b (by decide) (by decide), q_obS, up_s, m_ones (by omega), q_cIS, q_obS]
  · refine QO.ro (v := .int (-1)) h ?_ ?_
    · rw [k_89 h0, e_89_0, x_plan h0, q_obS, c_hasRoom hp, q_cIS, q_obS]
      dsimp only
      rw [decide_eq_false hr, if_pos (show nI (false.toNat) = nI 0 from rfl)]
    · obtain ⟨z, m0, -, m2, m4⟩ := hM.f hD
      rw [k_90 m0, e_90_0, m_isRoom m0 m2 t0, q_cIS, q_obS]
      dsimp only
      rw [decide_eq_false hr, if_pos (show nI (false.toNat) = nI 0 from rfl)]
theorem o_calls {σ : qH} {x : Nat} (h : QV σ x) (r : Int32) : QO σ x 91 92 [.int r] := by
  obtain ⟨p, tx, n, T, P, Hs, kn, I, kp, W, no, tr, C, D, hC, hD, hX, hM, hQ⟩ := id h
  have hT : WT T := hQ.2.2.1
  have hP : WP T P := hQ.2.2.2.1
  obtain ⟨t0, t1, t2, t5, t6, t7, t8, t9⟩ := id hT
  have hw := pow_le5 t0
  have hp20 : P 20 < 2 ^ T 0 := hP.2.2.2.2.1
  obtain ⟨h0, ⟨zz, hp⟩, hpo, he0, -⟩ := hX.f hC
  have he : σ.1 (x + 3) = some (evR (nI (pkS P)) (lN (pkL (fun i => P (15 + i)))) (lN (pkL (fun i => P (5 + i)))) (lN (pkL (fun i => P (10 + i)))) (nI (P 20)) (nI (P 21))) := he0
  by_cases hr : 0 ≤ r ∧ r < nI (T 0)
  · obtain ⟨r, hr', rfl⟩ := n_within (by omega) hr
    have hpw : 2 ^ r < 2 ^ T 0 := Nat.pow_lt_pow_right (by decide) hr'
    have ho : P 20 ^^^ 2 ^ r < 2 ^ T 0 := Nat.xor_lt_two_pow hp20 hpw
    cases hb : (P 20).testBit r with
    | false =>
      refine QO.ro (v := .int (-2)) h ?_ ?_
      · rw [k_91 h0, e_91_0, x_plan h0, q_obS, c_hasRoom hp, q_cIS, q_obS]
        dsimp only
        rw [decide_eq_true hr, if_neg (show ¬ nI (true.toNat) = nI 0 by decide), x_evening h0, q_obS, ev_dogs he, q_obS, c_has (by omega) (by omega), q_cIS, q_obS, hb]
        rfl
      · obtain ⟨z, m0, -, m2, m4⟩ := hM.f hD
        rw [k_92 m0, e_92_0, m_isRoom m0 m2 t0, q_cIS, q_obS]
        dsimp only
        rw [decide_eq_true hr, if_neg (show ¬ nI (true.toNat) = nI 0 by decide), m_s m0, q_obS, a_rd m4 (by decide) (by decide), q_obS, m_has (by omega) (by omega), q_cIS, q_obS, hb]
        rfl
    | true =>
      refine QO.ev (v := .int (nI (ones (P 20 ^^^ 2 ^ r)))) hC hD hX hM hQ (up P 20 (P 20 ^^^ 2 ^ r)) (hP.dogs t1 ho) (fun σ1 C1 c1 hC1 hX1 => ?_) (fun σ2 σ3 D1 hD2 c3 hD3 hM3 => ?_)
      · obtain ⟨k0, ⟨zz, kp⟩, kpo, ke, -⟩ := hX1.f hC1
        have ke' : σ1.1 (x + 3) = some (evR (nI (pkS P)) (lN (pkL (fun i => P (15 + i)))) (lN (pkL (fun i => P (5 + i)))) (lN (pkL (fun i => P (10 + i)))) (nI (P 20)) (nI (P 21))) := ke
        rw [k_91 h0, e_91_0, x_plan h0, q_obS, c_hasRoom hp, q_cIS, q_obS]
        dsimp only
        rw [decide_eq_true hr, if_neg (show ¬ nI (true.toNat) = nI 0 by decide), x_evening h0, q_obS, ev_dogs he, q_obS, c_has (by omega) (by omega), q_cIS, q_obS, hb]
        dsimp only
        rw [if_neg (show ¬ nI (true.toNat) = nI 0 by decide), x_past h0, q_obS, x_evening h0, q_obS, c1, q_cVS, q_obS, x_evening k0, q_obS, ev_dogs ke', q_obS, n_shl1 (by omega), n_not, calls0 ⟨P 20, by omega⟩ ⟨r, by omega⟩ hb, evp_dogs ke', q_obS, ← evC_dogs]
        have j0 := (u_n σ1 (evC (up P 20 (P 20 ^^^ 2 ^ r))) (show x ≠ x + 3 by omega)).trans k0
        have j3 := u_s σ1 (x + 3) (evC (up P 20 (P 20 ^^^ 2 ^ r)))
        have j3' : (q_upd σ1 (x + 3) (evC (up P 20 (P 20 ^^^ 2 ^ r)))).1 (x + 3) = some (evR (nI (pkS P)) (lN (pkL (fun i => P (15 + i)))) (lN (pkL (fun i => P (5 + i)))) (lN (pkL (fun i => P (10 + i)))) (nI (P 20 ^^^ 2 ^ r)) (nI (P 21))) := by rw [← evC_dogs]; exact j3
        rw [x_evening j0, q_obS, ev_dogs j3', q_obS, c_bitCount (by omega), q_cIS, q_obS]
      · obtain ⟨z, m0, -, m2, m4⟩ := hM.f hD2
        obtain ⟨z', n0, -, n2, n4⟩ := hM3.f hD3
        have n0b : (q_upd σ3 (x + 24 + 4) (iA 22 (up P 20 (P 20 ^^^ 2 ^ r)))).1 (x + 24) = some (mC (x + 24) tr z') := (u_n _ _ (by omega)).trans n0
        have n4b : (q_upd σ3 (x + 24 + 4) (iA 22 (up P 20 (P 20 ^^^ 2 ^ r)))).1 (x + 24 + 4) = some (iA 22 (up P 20 (P 20 ^^^ 2 ^ r))) := u_s ..
        rw [k_92 m0, e_92_0, m_isRoom m0 m2 t0, q_cIS, q_obS]
        dsimp only
        rw [decide_eq_true hr, if_neg (show ¬ nI (true.toNat) = nI 0 by decide), m_s m0, q_obS, a_rd m4 (by decide) (by decide), q_obS, m_has (by omega) (by omega), q_cIS, q_obS, hb]
        dsimp only
        rw [if_neg (show ¬ nI (true.toNat) = nI 0 by decide), c3, q_cVS, q_obS, m_s n0, q_obS, a_rd n4 (by decide) (by decide), q_obS, n_shl1 (by omega), nx_xor, a_wr n4 (by decide) (by decide), q_obS, m_s n0b, q_obS, a_rd n4b (by decide) (by decide), q_obS, up_s, m_ones (by omega), q_cIS, q_obS]
  · refine QO.ro (v := .int (-1)) h ?_ ?_
    · rw [k_91 h0, e_91_0, x_plan h0, q_obS, c_hasRoom hp, q_cIS, q_obS]
      dsimp only
      rw [decide_eq_false hr, if_pos (show nI (false.toNat) = nI 0 from rfl)]
    · obtain ⟨z, m0, -, m2, m4⟩ := hM.f hD
      rw [k_92 m0, e_92_0, m_isRoom m0 m2 t0, q_cIS, q_obS]
      dsimp only
      rw [decide_eq_false hr, if_pos (show nI (false.toNat) = nI 0 from rfl)]
def dawnP (P : Nat → Nat) : Nat → (Nat → Nat)
  | 0 => P
  | n + 1 => up (dawnP P n) (15 + n) (if P (15 + n) ≤ 55 then P (15 + n) + 5 else 60)
theorem dawn_o (P : Nat → Nat) : ∀ n j, (j < 15 ∨ 15 + n ≤ j) → dawnP P n j = P j
  | 0, _, _ => rfl
  | n + 1, j, h => by
    show up (dawnP P n) (15 + n) _ j = _
    rw [up_n _ _ (by omega)]
    exact dawn_o P n j (by omega)
theorem dawn_i (P : Nat → Nat) : ∀ n i, i < n → dawnP P n (15 + i) = if P (15 + i) ≤ 55 then P (15 + i) + 5 else 60
  | 0, _, h => by omega
  | n + 1, i, h => by
    show up (dawnP P n) (15 + n) _ (15 + i) = _
    by_cases e : i = n
    · rw [e, up_s]
    · rw [up_n _ _ (by omega)]
      exact dawn_i P n i (by omega)
theorem WP.dawn {T P : Nat → Nat} (hP : WP T P) (t0 : T 0 ≤ 5) (t1 : T 1 ≤ 5) : ∀ n, n ≤ T 0 → WP T (dawnP P n) := by
  obtain ⟨p0, p1, p5, p6, p7, p8, p9⟩ := hP
  intro n hn
  refine ⟨fun i hi => ?_, fun i h1 h2 => ?_, fun i hi => ⟨?_, ?_, ?_⟩, fun i h1 h2 => ?_, ?_, ?_, fun j hj => ?_⟩
  · rw [dawn_o _ _ _ (by omega)]; exact p0 i hi
  · rw [dawn_o _ _ _ (by omega)]; exact p1 i h1 h2
  · rw [dawn_o _ _ _ (by omega)]; exact (p5 i hi).1
  · rw [dawn_o _ _ _ (by omega)]; exact (p5 i hi).2.1
  · by_cases e : i < n
    · rw [dawn_i _ _ _ e]; split <;> omega
    · rw [dawn_o _ _ _ (by omega)]; exact (p5 i hi).2.2
  · rw [dawn_o _ _ _ (by omega)]; exact p6 i h1 h2
  · rw [dawn_o _ _ _ (by omega)]; exact p7
  · rw [dawn_o _ _ _ (by omega)]; exact p8
  · rw [dawn_o _ _ _ (by omega)]; exact p9 j hj
