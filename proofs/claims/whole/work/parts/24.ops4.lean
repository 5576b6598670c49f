/-! ===== now, rate ===== -/
theorem m_strays {σ : qH} {m : Nat} {tr : Int64} {z : Nat → Int32} {T P : Nat → Nat} (h0 : σ.1 m = some (mC m tr z)) (h2 : σ.1 (m + 2) = some (iA 35 T)) (h4 : σ.1 (m + 4) = some (iA 22 P)) (hT : WT T) (hP : WP T P) :
    q_call 78 [.ref m] σ = some (some (.int (nI (strF T P))), σ) := by
  rw [k_78 h0, e_78_0]
  have t1 := hT.2.1
  refine (q_for (fun i => q_run 78 4 [(0, .ref m), (1, .int (nI (bits (fun f => !(P f == T (20 + f))) i))), (2, .int (nI i))] [] σ) (T 1) (fun i hi => ?_)).trans ?_
  · try dsimp only
    have hp := hP.p8 hT i (by omega)
    have ht := hT.l.2.2.2.2.2 i (by omega)
    rw [e_78_4, m_told h0, q_obS, a_rd h2 (by decide) (by decide), q_obS, if_neg (nI_ge hi (by omega)), m_s h0, q_obS, a_rd h4 (by omega) (by decide), q_obS, q_obS, nI_add, a_rd h2 (by omega) (by decide), q_obS]
    by_cases e : P i = T (20 + i)
    · rw [if_pos (by rw [e]), e_78_40, n_or, nI_add, Nat.or_zero, bits_f (c := fun f => !(P f == T (20 + f))) (by simp [e])]
    · rw [if_neg (fun q => e ((nI_eq (by omega) (by omega)).mp q)), e_78_40, bits_step (by omega), nI_add, bits_t (c := fun f => !(P f == T (20 + f))) (by simp [e])]
  · try dsimp only
    rw [e_78_4, m_told h0, q_obS, a_rd h2 (by decide) (by decide), q_obS, if_pos (nI_le (Nat.le_refl _) (by omega))]
    rfl
theorem o_now {σ : qH} {x : Nat} (h : QV σ x) (w : Int32) : QO σ x 77 79 [.int w] := by
  obtain ⟨p, tx, n, T, P, Hs, kn, I, kp, W, no, tr, C, D, z, zz, hC, hD, hX, hM, hQ, h0, ⟨hp, hpo⟩, he, ⟨hz, z0, z1, z2⟩, m0, m2, m4⟩ := h.facts
  obtain ⟨nx, hnx, hpa0, -⟩ := hX.2.2.2.2.2.1
  have hpa : σ.1 (x + 5) = some (paC x nx kn) := by rw [← hpa0]; exact hC.at 5 (by decide) (by decide)
  have hk : q_getI σ (.ref (x + 5)) 2 2 = some (nI kn) := g_I hpa rfl
  obtain ⟨b1, b2, hT, hP, b5⟩ := hQ
  have he' : σ.1 (x + 3) = some (evR (nI (pkS P)) (lN (pkL (fun i => P (15 + i)))) (lN (pkL (fun i => P (5 + i)))) (lN (pkL (fun i => P (10 + i)))) (nI (P 20)) (nI (P 21))) := he
  refine QO.ro (v := .int (if w = nI 0 then nI (P 21) else if w = nI 1 then nI (strF T P) else if w = nI 2 then nI (P 20) else if w = nI 3 then nI (sumN (fun i => P (15 + i)) 5) else if w = nI 4 then nI (sumN (fun i => P (10 + i)) 5) else if w = nI 5 then nI kn else -1)) h ?_ ?_
  · rw [k_77 h0, e_77_0]
    simp only [x_plan h0, x_evening h0, x_past h0, q_obS, ev_night he', ev_places he', ev_dogs he', ev_carpets he', ev_lambs he', c_strays hp hT hP, c_sum hP.l.2.2, c_sum hP.l.2.1, q_cIS, hk]
    repeat' split
    all_goals rfl
  · rw [k_79 m0, e_79_0]
    refine (q_for (fun i => q_run 79 7 [(0, .ref (x + 24)), (1, .int w), (2, .int (nI (sumN (fun i => P (15 + i)) i))), (3, .int (nI (sumN (fun i => P (10 + i)) i))), (4, .int (nI i))] [] σ) 5 (fun i hi => ?_)).trans ?_
    · try dsimp only
      rw [e_79_7, if_neg (nI_ge hi (by omega))]
      simp (disch := omega) only [m_s m0, q_obS, nI_add, a_rd m4]
      rfl
    · try dsimp only
      rw [e_79_7, if_pos (nI_le (Nat.le_refl _) (by decide))]
      simp (disch := omega) only [m_s m0, q_obS, a_rd m4, m_strays m0 m2 m4 hT hP, q_cIS, m_known m0, z1]
      repeat' split
      all_goals rfl
