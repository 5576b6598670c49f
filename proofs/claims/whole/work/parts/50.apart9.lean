/-! ===== apart: the whole ===== -/
theorem m_lets0 {σ : qH} {m : Nat} {tr : Int64} {z : Nat → Int32} {P Q : Nat → Nat} {f : Nat → Int32} (h0 : σ.1 m = some (mC m tr z)) (h4 : σ.1 (m + 4) = some (iA 22 Q)) (h9 : σ.1 (m + 9) = some (iF 22 f)) (hf : ∀ j, j < 22 → f j = nI (P j)) (hP : ∀ j, 22 ≤ j → P j = 0) (hQ : ∀ j, 22 ≤ j → Q j = 0) :
    q_call 68 [.ref m] σ = some (none, q_upd σ (m + 4) (iA 22 P)) := by
  have hl := q_for (fun j => q_run 68 2 [(0, .ref m), (1, .int (nI j))] [] (q_upd σ (m + 4) (iF 22 (lay (fun t => nI (Q t)) 0 j (fun k => nI (P k)))))) 22 (fun j hj => by
    try dsimp only
    have q0 : ∀ {e}, (q_upd σ (m + 4) e).1 m = some (mC m tr z) := fun {e} => (u_n _ _ (by omega)).trans h0
    have q9 : ∀ {e}, (q_upd σ (m + 4) e).1 (m + 9) = some (iF 22 f) := fun {e} => (u_n _ _ (by omega)).trans h9
    have q4 : ∀ {e}, (q_upd σ (m + 4) e).1 (m + 4) = some e := fun {e} => u_s ..
    have e := lay_s (fun t => nI (Q t)) 0 j (fun k => nI (P k))
    rw [Nat.zero_add] at e
    rw [e_68_2, if_neg (nI_ge hj (by omega)), m_s q0, q_obS, m_aside q0, q_obS, f_rd q9 hj (by decide), q_obS, hf j hj, f_wr q4 hj (by decide), q_obS, u_u, e, nI_add])
  try dsimp only at hl
  rw [lay_0, ← iA_F, u_self h4, lay_P0 hQ hP, ← iA_F] at hl
  rw [k_68 h0, e_68_0, hl, e_68_2, if_pos (nI_le (Nat.le_refl _) (by decide))]
theorem m_apart15 {σ : qH} {m : Nat} {tr : Int64} {z : Nat → Int32} {T P : Nat → Nat} {fa : Nat → Int32} (h0 : σ.1 m = some (mC m tr z)) (h2 : σ.1 (m + 2) = some (iA 35 T)) (h4 : σ.1 (m + 4) = some (iA 22 P)) (h9 : σ.1 (m + 9) = some (iF 22 fa)) (hT : WT T) (hP : WP T P) {f : Int32} (hf : f = -1 ∨ ∃ j, j < T 1 ∧ f = nI j) :
    q_run 122 15 [(0, .ref m), (1, .int f)] [] σ = some (some (.int (aptV (T 1) f (aptB T))), q_upd σ (m + 9) (iF 22 (lay fa 0 22 (fun k => nI (P k))))) := by
  have t0 := hT.1
  have t1 := hT.2.1
  have hR : 0 < T 0 ∨ T 1 = 0 := by
    by_cases e : T 1 = 0
    · exact Or.inr e
    · have := (hT.2.2.2.2.2.2.1 0 (by omega)).1; exact Or.inl (by omega)
  have hN : T 0 ^ T 1 ≤ 3125 := Nat.le_trans (Nat.pow_le_pow_left t0 _) (Nat.pow_le_pow_right (by decide) t1 : 5 ^ T 1 ≤ 5 ^ 5)
  rw [e_122_15]
  refine (q_for (fun i => q_run 122 27 [(0, .ref m), (1, .int f), (2, .int (-9)), (3, .int (-9)), (4, .int (nI (T 0 ^ i))), (5, .int (nI i))] [] σ) (T 1) (fun i hi => ?_)).trans ?_
  · try dsimp only
    rw [e_122_27, m_told h0, q_obS, a_rd h2 (by decide) (by decide), q_obS, if_neg (nI_ge hi (by omega)), q_obS, a_rd h2 (by decide) (by decide), q_obS, pk_mul, nI_add, Nat.pow_succ]
  try dsimp only
  rw [e_122_27, m_told h0, q_obS, a_rd h2 (by decide) (by decide), q_obS, if_pos (nI_le (Nat.le_refl _) (by omega)), m_holds h0 h4 h9, q_cVS, q_obS]
  have n0 : (q_upd σ (m + 9) (iF 22 (lay fa 0 22 (fun k => nI (P k))))).1 m = some (mC m tr z) := (u_n _ _ (by omega)).trans h0
  have n2 : (q_upd σ (m + 9) (iF 22 (lay fa 0 22 (fun k => nI (P k))))).1 (m + 2) = some (iA 35 T) := (u_n _ _ (by omega)).trans h2
  have n4 : (q_upd σ (m + 9) (iF 22 (lay fa 0 22 (fun k => nI (P k))))).1 (m + 4) = some (iA 22 P) := (u_n _ _ (by omega)).trans h4
  have n9 : (q_upd σ (m + 9) (iF 22 (lay fa 0 22 (fun k => nI (P k))))).1 (m + 9) = some (iF 22 (lay fa 0 22 (fun k => nI (P k)))) := u_s ..
  generalize q_upd σ (m + 9) (iF 22 (lay fa 0 22 (fun k => nI (P k)))) = σ1 at n0 n2 n4 n9
  have q0 : ∀ {e}, (q_upd σ1 (m + 4) e).1 m = some (mC m tr z) := fun {e} => (u_n _ _ (by omega)).trans n0
  have q2 : ∀ {e}, (q_upd σ1 (m + 4) e).1 (m + 2) = some (iA 35 T) := fun {e} => (u_n _ _ (by omega)).trans n2
  have q9 : ∀ {e}, (q_upd σ1 (m + 4) e).1 (m + 9) = some (iF 22 (lay fa 0 22 (fun k => nI (P k)))) := fun {e} => (u_n _ _ (by omega)).trans n9
  have q4 : ∀ {e}, (q_upd σ1 (m + 4) e).1 (m + 4) = some e := fun {e} => u_s ..
  have loop : ∀ n, n ≤ T 0 ^ T 1 → ∃ S : Nat → Nat, (∀ j, j < 5 → S j < 5) ∧ (∀ j, 22 ≤ j → S j = 0) ∧ q_run 122 62 [(0, .ref m), (1, .int f), (2, .int (-9)), (3, .int (-9)), (4, .int (nI (T 0 ^ T 1))), (5, .int (nI 0))] [] σ1 = q_run 122 62 [(0, .ref m), (1, .int f), (2, .int (x2V (T 1) (refO T (T 0) (T 1) 0 none n))), (3, .int (x3V f (refO T (T 0) (T 1) 0 none n))), (4, .int (nI (T 0 ^ T 1))), (5, .int (nI n))] [] (q_upd σ1 (m + 4) (iA 22 S)) := by
    intro n
    induction n with
    | zero =>
      intro _
      refine ⟨P, fun j hj => ?_, hP.2.2.2.2.2.2, by rw [u_self n4]; rfl⟩
      by_cases e : j < T 1
      · have := hP.1 j e; omega
      · rw [hP.2.1 j (by omega) hj]; decide
    | succ n ih =>
      intro hn
      obtain ⟨S, hS, hS0, E⟩ := ih (by omega)
      have hd : ∀ j, j < T 1 → digz (T 0) (T 1) n j < 5 := fun j hj => Nat.lt_of_lt_of_le (digz_lt (hR.resolve_right (by omega)) j) t0
      have hp5 : ∀ j, j < 5 → putS S (digz (T 0) (T 1) n) (T 1) (T 1) j < 5 := fun j hj => by
        unfold putS; split
        · exact hd j (by omega)
        · exact hS j hj
      have hpd : ∀ j, j < T 1 → putS S (digz (T 0) (T 1) n) (T 1) (T 1) j = digz (T 0) (T 1) n j := fun j hj => if_pos (by omega)
      refine ⟨putS S (digz (T 0) (T 1) n) (T 1) (T 1), hp5, fun j hj => (if_neg (by omega)).trans (hS0 j hj), ?_⟩
      rw [E, e_122_62, if_neg (nI_ge (by omega) (by omega)), m_told q0, q_obS, a_rd q2 (by decide) (by decide), q_obS, m_digits q0 q2 q4 hT (by omega) hR, u_u, tkd_tk, m_check q0 q2 q4 hT hp5 _ _ _ _ _ _ (T 1) (Nat.le_refl _), show allB (refC T (putS S (digz (T 0) (T 1) n) (T 1) (T 1)) (T 1)) 0 (T 1) = goodB T (digz (T 0) (T 1) n) (T 1) from (refG_congr hpd).trans (refG_good ..), m_better q0 q2 q4 t1 hpd hd hf]
      show _ = q_run 122 62 [(0, .ref m), (1, .int f), (2, .int (x2V (T 1) (stepO T (T 0) (T 1) (0 + n) (refO T (T 0) (T 1) 0 none n)))), (3, .int (x3V f (stepO T (T 0) (T 1) (0 + n) (refO T (T 0) (T 1) 0 none n)))), (4, .int (nI (T 0 ^ T 1))), (5, .int (nI (n + 1)))] [] _
      rw [Nat.zero_add]
      rfl
  obtain ⟨S, hS, hS0, E⟩ := loop _ (Nat.le_refl _)
  have hB : refO T (T 0) (T 1) 0 none (T 0 ^ T 1) = aptB T := by
    have := tree_ref (T := T) (R := T 0) (F := T 1) rfl hR (T 1) 0 (fun _ => 0) 0 none (by omega) (fun g hg => absurd hg (Nat.not_lt_zero _)) (fun _ _ => rfl)
    rw [Nat.zero_mul, if_pos (show goodB T (fun _ => 0) 0 = true from rfl)] at this
    exact this
  rw [hB] at E
  rw [E, e_122_62, if_pos (nI_le (Nat.le_refl _) (by omega)), m_lets0 q0 q4 q9 (fun j hj => by have := lay_in fa (b := 0) (fun k => nI (P k)) hj; rw [Nat.zero_add] at this; exact this) hP.2.2.2.2.2.2 hS0, q_cVS, q_obS, u_u, u_self n4]
  rcases hf with rfl | ⟨j, hj, rfl⟩
  · rw [if_pos rfl]; cases aptB T <;> rfl
  · have hn : ¬ nI j = (-1 : Int32) := fun e => absurd (congrArg Int32.toInt e) (by show ¬ (nI j).toInt = -1; rw [nI_toInt (by omega)]; omega)
    rw [if_neg hn]
    cases aptB T with
    | none => rfl
    | some Q =>
      unfold aptV x3V
      dsimp only
      rw [if_neg hn, if_pos (nI_le (Nat.zero_le _) (by omega))]
theorem o_apart {σ : qH} {x : Nat} (h : QV σ x) (f : Int32) : QO σ x 121 122 [.int f] := by
  obtain ⟨p, tx, n, T, P, Hs, kn, I, kp, W, no, tr, C, D, hC, hD, hX, hM, hQ⟩ := id h
  obtain ⟨h0, ⟨zz, hp⟩, hpo, he, -⟩ := hX.f hC
  obtain ⟨z, m0, ⟨z0, z1, z2⟩, m2, m4⟩ := hM.f hD
  have hT : WT T := hQ.2.2.1
  have hP : WP T P := hQ.2.2.2.1
  have t1 := hT.2.1
  obtain ⟨f9, hf9⟩ := hM.2.2.2.2.2.2.2.2.2.1
  have m9 : σ.1 (x + 24 + 9) = some (iF 22 f9) := by rw [← hf9]; exact hD 9 (by decide)
  have go : (f = -1 ∨ ∃ j, j < T 1 ∧ f = nI j) → q_call 121 [.ref x, .int f] σ = q_run 121 18 [(0, .ref x), (1, .int f)] [] σ → q_call 122 [.ref (x + 24), .int f] σ = q_run 122 15 [(0, .ref (x + 24)), (1, .int f)] [] σ → QO σ x 121 122 [.int f] := fun hf cx cm => by
    obtain ⟨q0, q1, q2, q3, q4, q5, q6, q7, q8, q9, qa, qb⟩ := hM
    exact QO.mk (cx.trans (c_apart18 h0 hp hT hf)) (cm.trans (m_apart15 m0 m2 m4 m9 hT hP hf)) ⟨p, tx, n, T, P, Hs, kn, I, kp, W, no, tr, C, upC D 9 (iF 22 (lay f9 0 22 (fun k => nI (P k)))), hC.m (k := 9) (by decide) _, hD.upd (k := 9) _, hX, ⟨q0, q1, q2, q3, q4, q5, q6, q7, q8, ⟨_, rfl⟩, qa, qb⟩, hQ⟩ rfl (fun a ha => u_n _ _ (by omega))
  by_cases e : f = -1
  · exact go (Or.inl e) (by rw [k_121 h0, e_121_0, if_pos e]) (by rw [k_122 m0, e_122_0, if_pos e])
  · by_cases hf : 0 ≤ f ∧ f < nI (T 1)
    · refine go (Or.inr (n_within (by omega) hf)) ?_ ?_
      · rw [k_121 h0, e_121_0, if_neg e, x_plan h0, q_obS, c_hasFlock hp, q_cIS, q_obS]
        dsimp only
        rw [decide_eq_true hf, if_neg (show ¬ nI (true.toNat) = nI 0 by decide)]
      · rw [k_122 m0, e_122_0, if_neg e, m_isFlock m0 m2 t1, q_cIS, q_obS]
        dsimp only
        rw [decide_eq_true hf, if_neg (show ¬ nI (true.toNat) = nI 0 by decide)]
    · refine QO.ro (v := .int (-1)) h ?_ ?_
      · rw [k_121 h0, e_121_0, if_neg e, x_plan h0, q_obS, c_hasFlock hp, q_cIS, q_obS]
        dsimp only
        rw [decide_eq_false hf, if_pos (show nI (false.toNat) = nI 0 from rfl)]
      · rw [k_122 m0, e_122_0, if_neg e, m_isFlock m0 m2 t1, q_cIS, q_obS]
        dsimp only
        rw [decide_eq_false hf, if_pos (show nI (false.toNat) = nI 0 from rfl)]
