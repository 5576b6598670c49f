/-! ===== dawn, undo ===== -/
theorem evC_dn (Q : Nat → Nat) (v : Nat) : evC (up (up Q 20 0) 21 v) = evR (nI (pkS Q)) (lN (pkL (fun i => Q (15 + i)))) (lN (pkL (fun i => Q (5 + i)))) (lN (pkL (fun i => Q (10 + i)))) (nI 0) (nI v) := by
  rw [evC_night, up_sk Q (k := 15) (n := 20) (v := 0) (i := 0) (fun j hj => by omega), up_sk Q (k := 5) (n := 20) (v := 0) (i := 0) (fun j hj => by omega), up_sk Q (k := 10) (n := 20) (v := 0) (i := 0) (fun j hj => by omega), up_s, pkS_congr (f := up Q 20 0) (g := Q) (fun i hi => up_n _ _ (by omega))]
def dawnE (T P : Nat → Nat) : Nat → Nat := up (up (dawnP P (T 0)) 20 0) 21 (P 21 + 1)
theorem WP.dawnE {T P : Nat → Nat} (hT : WT T) (hP : WP T P) (h : P 21 < 999) : WP T (dawnE T P) := by
  have t1 := hT.2.1
  have := (hP.dawn hT.1 hT.2.1 (T 0) (Nat.le_refl _)).dogs hT.2.1 (Nat.two_pow_pos (T 0))
  obtain ⟨p0, p1, p5, p6, p7, p8, p9⟩ := this
  refine ⟨fun i hi => ?_, fun i h1 h2 => ?_, fun i hi => ?_, fun i h1 h2 => ?_, ?_, ?_, fun j hj => ?_⟩
  · show up _ 21 _ i < _; rw [up_n _ _ (by omega)]; exact p0 i hi
  · show up _ 21 _ i = _; rw [up_n _ _ (by omega)]; exact p1 i h1 h2
  · show up _ 21 _ (5 + i) ≤ _ ∧ up _ 21 _ (10 + i) ≤ _ ∧ up _ 21 _ (15 + i) ≤ _
    rw [up_n (i := 21) (j := 5 + i) _ _ (by omega), up_n (i := 21) (j := 10 + i) _ _ (by omega), up_n (i := 21) (j := 15 + i) _ _ (by omega)]; exact p5 i hi
  · show up _ 21 _ (15 + i) = _; rw [up_n _ _ (by omega)]; exact p6 i h1 h2
  · show up _ 21 _ 20 < _; rw [up_n _ _ (by omega)]; exact p7
  · show up _ 21 _ 21 ≤ _; rw [up_s]; omega
  · show up _ 21 _ j = _; rw [up_n _ _ (by omega)]; exact p9 j hj
theorem c_brighten {σ : qH} {a p : Nat} {zz : Int32} {T P : Nat → Nat} (ha : σ.1 a = some (evC P)) (hp : σ.1 p = some (planC T zz)) (hap : p ≠ a) (hT : WT T) (hP : WP T P) :
    q_call 93 [.ref a, .ref p] σ = some (none, q_upd σ a (evC (dawnE T P))) := by
  have t0 := hT.1
  rw [k_93 ha, e_93_0]
  have hl := q_for (fun i => q_run 93 2 [(0, .ref a), (1, .ref p), (2, .int (nI i))] [] (q_upd σ a (evC (dawnP P i)))) (T 0) (fun i hi => by
    try dsimp only
    have hW := hP.dawn t0 hT.2.1 i (by omega)
    have hv : P (15 + i) ≤ 60 := (hP.2.2.1 i (by omega)).2.2
    have ga : (q_upd σ a (evC (dawnP P i))).1 a = some (evR (nI (pkS (dawnP P i))) (lN (pkL (fun j => dawnP P i (15 + j)))) (lN (pkL (fun j => dawnP P i (5 + j)))) (lN (pkL (fun j => dawnP P i (10 + j)))) (nI (dawnP P i 20)) (nI (dawnP P i 21))) := u_s ..
    have gp : (q_upd σ a (evC (dawnP P i))).1 p = some (planC T zz) := (u_n _ _ hap).trans hp
    rw [e_93_2, pl_rooms gp, q_obS, if_neg (nI_ge hi (by omega)), ev_carpets ga, q_obS, c_lane hW.l.2.2 (by omega), q_cIS, q_obS]
    dsimp only
    rw [ev_carpets ga, q_obS, dawn_o P i (15 + i) (by omega), nI_add, q_minN _ _ (by decide) (by omega), c_withLane hW.l.2.2 (by omega) (by split <;> omega), q_cLS, q_obS]
    dsimp only
    rw [evp_carpets ga, q_obS, u_u, ← evC_carpet _ (by omega), nI_add]
    have e : (if P (15 + i) + 5 < 60 then P (15 + i) + 5 else 60) = if P (15 + i) ≤ 55 then P (15 + i) + 5 else 60 := by
      split
      · rw [if_pos (by omega)]
      · split <;> omega
    rw [e]
    rfl)
  try dsimp only at hl
  rw [show dawnP P 0 = P from rfl, u_self ha] at hl
  have ga : (q_upd σ a (evC (dawnP P (T 0)))).1 a = some (evR (nI (pkS (dawnP P (T 0)))) (lN (pkL (fun j => dawnP P (T 0) (15 + j)))) (lN (pkL (fun j => dawnP P (T 0) (5 + j)))) (lN (pkL (fun j => dawnP P (T 0) (10 + j)))) (nI (dawnP P (T 0) 20)) (nI (dawnP P (T 0) 21))) := u_s ..
  have gp : (q_upd σ a (evC (dawnP P (T 0)))).1 p = some (planC T zz) := (u_n _ _ hap).trans hp
  have ga2 : ∀ {q w e d f g}, (q_upd (q_upd σ a (evC (dawnP P (T 0)))) a (evR q w e d f g)).1 a = some (evR q w e d f g) := fun {q w e d f g} => u_s ..
  rw [hl, e_93_2, pl_rooms gp, q_obS, if_pos (nI_le (Nat.le_refl _) (by omega)), ev_night ga, q_obS, evp_night ga, q_obS, evp_dogs ga2, q_obS, u_u, u_u, dawn_o P (T 0) 21 (by omega), nI_add]
  unfold dawnE
  rw [evC_dn]
theorem o_dawn {σ : qH} {x : Nat} (h : QV σ x) : QO σ x 94 95 [] := by
  obtain ⟨p, tx, n, T, P, Hs, kn, I, kp, W, no, tr, C, D, hC, hD, hX, hM, hQ⟩ := id h
  have hT : WT T := hQ.2.2.1
  have hP : WP T P := hQ.2.2.2.1
  have t0 := hT.1
  have h21 : P 21 ≤ 999 := hP.2.2.2.2.2.1
  obtain ⟨h0, ⟨zz, hp⟩, hpo, he0, -⟩ := hX.f hC
  have he : σ.1 (x + 3) = some (evR (nI (pkS P)) (lN (pkL (fun i => P (15 + i)))) (lN (pkL (fun i => P (5 + i)))) (lN (pkL (fun i => P (10 + i)))) (nI (P 20)) (nI (P 21))) := he0
  by_cases hn : P 21 < 999
  · refine QO.ev (v := .int (nI (P 21 + 1))) hC hD hX hM hQ (dawnE T P) (hP.dawnE hT hn) (fun σ1 C1 c1 hC1 hX1 => ?_) (fun σ2 σ3 D1 hD2 c3 hD3 hM3 => ?_)
    · obtain ⟨k0, ⟨zz, kp⟩, kpo, ke, -⟩ := hX1.f hC1
      have j0 := (u_n σ1 (evC (dawnE T P)) (show x ≠ x + 3 by omega)).trans k0
      have j3 : (q_upd σ1 (x + 3) (evC (dawnE T P))).1 (x + 3) = some (evR (nI (pkS (dawnP P (T 0)))) (lN (pkL (fun j => dawnP P (T 0) (15 + j)))) (lN (pkL (fun j => dawnP P (T 0) (5 + j)))) (lN (pkL (fun j => dawnP P (T 0) (10 + j)))) (nI 0) (nI (P 21 + 1))) := by
        rw [← evC_dn]; exact u_s ..
      rw [k_94 h0, e_94_0, x_evening h0, q_obS, ev_night he, q_obS, if_pos (nI_lt hn (by decide)), x_past h0, q_obS, q_obS, c1, q_cVS, q_obS, x_evening k0, q_obS, x_plan k0, q_obS, c_brighten ke kp (by omega) hT hP, q_cVS, q_obS, x_evening j0, q_obS, ev_night j3, q_obS]
    · obtain ⟨z, m0, -, m2, m4⟩ := hM.f hD2
      obtain ⟨z', n0, -, n2, n4⟩ := hM3.f hD3
      rw [k_95 m0, e_95_0, m_s m0, q_obS, a_rd m4 (by decide) (by decide), q_obS, if_neg (fun q => absurd ((nI_eq (by omega) (by decide)).mp q) (by omega)), c3, q_cVS, q_obS]
      have hl := q_for (fun i => q_run 95 22 [(0, .ref (x + 24)), (1, .int (nI i))] [] (q_upd σ3 (x + 24 + 4) (iA 22 (dawnP P i)))) (T 0) (fun i hi => by
        try dsimp only
        have g0 : (q_upd σ3 (x + 24 + 4) (iA 22 (dawnP P i))).1 (x + 24) = some (mC (x + 24) tr z') := (u_n _ _ (by omega)).trans n0
        have g2 : (q_upd σ3 (x + 24 + 4) (iA 22 (dawnP P i))).1 (x + 24 + 2) = some (iA 35 T) := (u_n _ _ (by omega)).trans n2
        have g4 : (q_upd σ3 (x + 24 + 4) (iA 22 (dawnP P i))).1 (x + 24 + 4) = some (iA 22 (dawnP P i)) := u_s ..
        have hv : P (15 + i) ≤ 60 := (hP.2.2.1 i (by omega)).2.2
        rw [e_95_22, m_told g0, q_obS, a_rd g2 (by decide) (by decide), q_obS, if_neg (nI_ge hi (by omega)), m_s g0, q_obS, q_obS, nI_add, a_rd g4 (by omega) (by decide), q_obS, dawn_o P i (15 + i) (by omega)]
        by_cases e : P (15 + i) ≤ 55
        · rw [if_pos (nI_le e (by decide)), q_obS, a_rd g4 (by omega) (by decide), dawn_o P i (15 + i) (by omega), q_obS, nI_add, e_95_70, a_wr g4 (by omega) (by decide), q_obS, u_u, nI_add]
          show _ = q_run 95 22 _ [] (q_upd σ3 (x + 24 + 4) (iA 22 (up (dawnP P i) (15 + i) (if P (15 + i) ≤ 55 then P (15 + i) + 5 else 60))))
          rw [if_pos e]
        · rw [if_neg (fun q => e ((nI_leI (by omega) (by decide)).mp q)), e_95_70, a_wr g4 (by omega) (by decide), q_obS, u_u, nI_add]
          show _ = q_run 95 22 _ [] (q_upd σ3 (x + 24 + 4) (iA 22 (up (dawnP P i) (15 + i) (if P (15 + i) ≤ 55 then P (15 + i) + 5 else 60))))
          rw [if_neg e])
      try dsimp only at hl
      rw [show dawnP P 0 = P from rfl, u_self n4] at hl
      have g0 : ∀ {e}, (q_upd σ3 (x + 24 + 4) e).1 (x + 24) = some (mC (x + 24) tr z') := fun {e} => (u_n _ _ (by omega)).trans n0
      have g2 : (q_upd σ3 (x + 24 + 4) (iA 22 (dawnP P (T 0)))).1 (x + 24 + 2) = some (iA 35 T) := (u_n _ _ (by omega)).trans n2
      have g4 : ∀ {Q}, (q_upd σ3 (x + 24 + 4) (iA 22 Q)).1 (x + 24 + 4) = some (iA 22 Q) := fun {Q} => u_s ..
      rw [hl, e_95_22, m_told g0, q_obS, a_rd g2 (by decide) (by decide), q_obS, if_pos (nI_le (Nat.le_refl _) (by omega)), m_s g0, q_obS, a_wr g4 (by decide) (by decide), q_obS, u_u, m_s g0, q_obS, a_rd g4 (by decide) (by decide), q_obS, up_n _ _ (show 21 ≠ 20 by decide), dawn_o P (T 0) 21 (by omega), nI_add, a_wr g4 (by decide) (by decide), q_obS, u_u, m_s g0, q_obS, a_rd g4 (by decide) (by decide), q_obS, up_s]
      rfl
  · have e : P 21 = 999 := by omega
    refine QO.ro (v := .int (-2)) h ?_ ?_
    · rw [k_94 h0, e_94_0, x_evening h0, q_obS, ev_night he, q_obS, e, if_neg (by decide)]
    · obtain ⟨z, m0, -, m2, m4⟩ := hM.f hD
      rw [k_95 m0, e_95_0, m_s m0, q_obS, a_rd m4 (by decide) (by decide), q_obS, e, if_pos rfl]
