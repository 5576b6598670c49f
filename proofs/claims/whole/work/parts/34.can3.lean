/-! ===== who grazed: the reference; can, ask ===== -/
section MG
variable {σ : qH} {m : Nat} {tr : Int64} {z : Nat → Int32} {T W : Nat → Nat} {no : Nat}
theorem m_agrees (h0 : σ.1 m = some (mC m tr z)) (hz : z 2 = nI no) (h2 : σ.1 (m + 2) = some (iA 35 T)) (h8 : σ.1 (m + 8) = some (iA 12 W)) (hT : WT T) (hno : no ≤ 6) (hW : ∀ i, W (2 * i) < 32 ∧ W (2 * i + 1) ≤ 45) {s : Nat} (hs : s < 32) :
    q_call 137 [.ref m, .int (nI s)] σ = some (some (.int (nI (agr T W no s).toNat)), σ) := by
  have t1 := hT.2.1
  rw [k_137 h0, e_137_0]
  refine (q_for (fun i => q_run 137 4 [(0, .ref m), (1, .int (nI s)), (2, .int (nI (allB (agO T W s) 0 i).toNat)), (3, .int (nI i))] [] σ) no (fun i hi => ?_)).trans ?_
  · try dsimp only
    have h1 := (hW i).1
    have hb2 := (hW i).2
    have ha : s &&& W (2 * i) < 32 := and_lt (n := 5) hs
    have h3 := eatS_le hT (s &&& W (2 * i)) (T 1) t1
    rw [e_137_4, m_noted h0, q_obS, hz, if_neg (nI_ge hi (by omega))]
    refine (q_for (fun j => q_run 137 18 [(0, .ref m), (1, .int (nI s)), (2, .int (nI (allB (agO T W s) 0 i).toNat)), (3, .int (nI i)), (4, .int (nI (eatS T (s &&& W (2 * i)) j))), (5, .int (nI j))] [] σ) (T 1) (fun j hj => ?_)).trans ?_
    · try dsimp only
      have e : eatS T (s &&& W (2 * i)) (j + 1) = eatS T (s &&& W (2 * i)) j + (if (s &&& W (2 * i)).testBit j then T (25 + j) else 0) := rfl
      rw [e_137_18, m_told h0, q_obS, a_rd h2 (by decide) (by decide), q_obS, if_neg (nI_ge hj (by omega)), m_notes h0, q_obS, pk_mul, a_rd h8 (by omega) (by decide), q_obS, nx_and, m_has (by omega) (by omega), q_cIS, q_obS, e]
      dsimp only
      cases (s &&& W (2 * i)).testBit j with
      | false => rw [if_pos (show nI (false.toNat) = nI 0 from rfl), e_137_63, nI_add, nI_add, if_neg (by decide)]
      | true => rw [if_neg (show ¬ nI (true.toNat) = nI 0 by decide), m_told h0, q_obS, nI_add, a_rd h2 (by omega) (by decide), q_obS, e_137_63, nI_add, nI_add, if_pos rfl]
    · try dsimp only
      rw [e_137_18, m_told h0, q_obS, a_rd h2 (by decide) (by decide), q_obS, if_pos (nI_le (Nat.le_refl _) (by omega)), allB_s, Nat.zero_add]
      cases hb : allB (agO T W s) 0 i with
      | false => rw [if_pos (show nI (false.toNat) = nI 0 from rfl), e_137_95, e_137_96, nI_add, Bool.false_and]; rfl
      | true =>
        rw [if_neg (show ¬ nI (true.toNat) = nI 0 by decide), m_notes h0, q_obS, pk_mul, nI_add, a_rd h8 (by omega) (by decide), q_obS, Bool.true_and]
        by_cases e : eatS T (s &&& W (2 * i)) (T 1) = W (2 * i + 1)
        · rw [if_pos (by rw [e]), e_137_96, nI_add, show agO T W s i = true from decide_eq_true e]; rfl
        · rw [if_neg (fun q => e ((nI_eq (by omega) (by omega)).mp q)), e_137_95, e_137_96, nI_add, show agO T W s i = false from decide_eq_false e]; rfl
  · try dsimp only
    rw [e_137_4, m_noted h0, q_obS, hz, if_pos (nI_le (Nat.le_refl _) (by omega)), okv4]
    rfl
theorem m_ways (h0 : σ.1 m = some (mC m tr z)) (hz : z 2 = nI no) (h2 : σ.1 (m + 2) = some (iA 35 T)) (h8 : σ.1 (m + 8) = some (iA 12 W)) (hT : WT T) (hno : no ≤ 6) (hW : ∀ i, W (2 * i) < 32 ∧ W (2 * i + 1) ≤ 45) :
    q_call 138 [.ref m, .int (-9)] σ = some (some (.int (nI (wayN T W no (2 ^ T 1)))), σ) := by
  have t1 := hT.2.1
  have hw := pow_le5 t1
  rw [k_138 h0, e_138_0]
  refine (q_for (fun n => q_run 138 4 [(0, .ref m), (1, .int (-9)), (2, .int (nI (wayN T W no n))), (3, .int (nI n))] [] σ) (2 ^ T 1) (fun n hn => ?_)).trans ?_
  · try dsimp only
    rw [e_138_4, m_told h0, q_obS, a_rd h2 (by decide) (by decide), q_obS, n_shl1 t1, if_neg (nI_ge hn (by omega)), if_pos rfl, e_138_31, m_agrees h0 hz h2 h8 hT hno hW (show n < 32 by omega), q_cIS, q_obS, wayN_s]
    dsimp only
    cases agr T W no n with
    | false => rw [if_pos (show nI (false.toNat) = nI 0 from rfl), e_138_43, e_138_44, nI_add, nI_add]; rfl
    | true => rw [if_neg (show ¬ nI (true.toNat) = nI 0 by decide), e_138_44, nI_add, nI_add]; rfl
  · try dsimp only
    rw [e_138_4, m_told h0, q_obS, a_rd h2 (by decide) (by decide), q_obS, n_shl1 t1, if_pos (nI_le (Nat.le_refl _) (by omega))]
theorem m_waysF (h0 : σ.1 m = some (mC m tr z)) (hz : z 2 = nI no) (h2 : σ.1 (m + 2) = some (iA 35 T)) (h8 : σ.1 (m + 8) = some (iA 12 W)) (hT : WT T) (hno : no ≤ 6) (hW : ∀ i, W (2 * i) < 32 ∧ W (2 * i + 1) ≤ 45) {f : Nat} (hf : f < 5) :
    q_call 138 [.ref m, .int (nI f)] σ = some (some (.int (nI (wayF T W no f (2 ^ T 1)))), σ) := by
  have t1 := hT.2.1
  have hw := pow_le5 t1
  rw [k_138 h0, e_138_0]
  refine (q_for (fun n => q_run 138 4 [(0, .ref m), (1, .int (nI f)), (2, .int (nI (wayF T W no f n))), (3, .int (nI n))] [] σ) (2 ^ T 1) (fun n hn => ?_)).trans ?_
  · try dsimp only
    rw [e_138_4, m_told h0, q_obS, a_rd h2 (by decide) (by decide), q_obS, n_shl1 t1, if_neg (nI_ge hn (by omega)), if_neg (n_m9 (by omega)), m_has (by omega) (by omega), q_cIS, q_obS, wayF_s]
    dsimp only
    cases n.testBit f with
    | false => rw [if_pos (show nI (false.toNat) = nI 0 from rfl), e_138_43, e_138_44, nI_add, nI_add, Bool.and_false]; rfl
    | true =>
      rw [if_neg (show ¬ nI (true.toNat) = nI 0 by decide), e_138_31, m_agrees h0 hz h2 h8 hT hno hW (show n < 32 by omega), q_cIS, q_obS, Bool.and_true]
      dsimp only
      cases agr T W no n with
      | false => rw [if_pos (show nI (false.toNat) = nI 0 from rfl), e_138_43, e_138_44, nI_add, nI_add]; rfl
      | true => rw [if_neg (show ¬ nI (true.toNat) = nI 0 by decide), e_138_44, nI_add, nI_add]; rfl
  · try dsimp only
    rw [e_138_4, m_told h0, q_obS, a_rd h2 (by decide) (by decide), q_obS, n_shl1 t1, if_pos (nI_le (Nat.le_refl _) (by omega))]
theorem wayA_bits (T W : Nat → Nat) (no n : Nat) : wayA T W no n = bits (fun f => decide (wayF T W no f n = wayN T W no n)) (T 1) :=
  Nat.eq_of_testBit_eq fun f => by rw [wayA_tb, bits_tb]
theorem wayF_z {T W : Nat → Nat} {no f : Nat} : ∀ n, n ≤ 2 ^ f → wayF T W no f n = 0
  | 0, _ => rfl
  | n + 1, h => by
    rw [wayF_s, wayF_z n (by omega), Nat.testBit_lt_two_pow (show n < 2 ^ f by omega), Bool.and_false]; rfl
theorem wayO_bits (T W : Nat → Nat) (no : Nat) : wayO T W no (2 ^ T 1) = bits (fun f => decide (0 < wayF T W no f (2 ^ T 1))) (T 1) :=
  Nat.eq_of_testBit_eq fun f => by
    rw [wayO_tb, bits_tb]
    by_cases h : f < T 1
    · rw [decide_eq_true h, Bool.true_and]
    · rw [decide_eq_false h, Bool.false_and, wayF_z _ (Nat.pow_le_pow_right (by decide) (Nat.le_of_not_lt h))]; rfl
theorem m_can (h0 : σ.1 m = some (mC m tr z)) (hz : z 2 = nI no) (h2 : σ.1 (m + 2) = some (iA 35 T)) (h8 : σ.1 (m + 8) = some (iA 12 W)) (hT : WT T) (hno : no ≤ 6) (hW : ∀ i, W (2 * i) < 32 ∧ W (2 * i + 1) ≤ 45) {w : Nat} (hw : w ≤ 2) :
    q_call 139 [.ref m, .int (nI w)] σ = some (some (.int (if nI w = nI 0 then nI (wayN T W no (2 ^ T 1)) else if nI w = nI 2 then nI (wayO T W no (2 ^ T 1)) else if nI (wayN T W no (2 ^ T 1)) = nI 0 then -9 else nI (wayA T W no (2 ^ T 1)))), σ) := by
  have t1 := hT.2.1
  have hp := pow_le5 t1
  have hn := wayN_le T W no (2 ^ T 1)
  rw [k_139 h0, e_139_0, m_in, q_cIS, q_obS]
  dsimp only
  rw [decide_eq_true ⟨nI_le (Nat.zero_le _) (by omega), nI_le hw (by decide)⟩, if_neg (show ¬ nI (true.toNat) = nI 0 by decide), m_ways h0 hz h2 h8 hT hno hW, q_cIS, q_obS]
  dsimp only
  refine (q_for (fun f => q_run 139 26 [(0, .ref m), (1, .int (nI w)), (2, .int (nI (wayN T W no (2 ^ T 1)))), (3, .int (nI (bits (fun f => decide (wayF T W no f (2 ^ T 1) = wayN T W no (2 ^ T 1))) f))), (4, .int (nI (bits (fun f => decide (0 < wayF T W no f (2 ^ T 1))) f))), (5, .int (nI f))] [] σ) (T 1) (fun f hf => ?_)).trans ?_
  · try dsimp only
    have h1 := wayF_le T W no f (2 ^ T 1)
    have e77 : q_run 139 60 [(0, .ref m), (1, .int (nI w)), (2, .int (nI (wayN T W no (2 ^ T 1)))), (4, .int (nI (bits (fun f => decide (0 < wayF T W no f (2 ^ T 1))) f))), (5, .int (nI f)), (6, .int (nI (wayF T W no f (2 ^ T 1))))] [.int (if wayF T W no f (2 ^ T 1) = wayN T W no (2 ^ T 1) then nI (2 ^ f) else nI 0), .int (nI (bits (fun f => decide (wayF T W no f (2 ^ T 1) = wayN T W no (2 ^ T 1))) f))] σ = q_run 139 26 [(0, .ref m), (1, .int (nI w)), (2, .int (nI (wayN T W no (2 ^ T 1)))), (3, .int (nI (bits (fun f => decide (wayF T W no f (2 ^ T 1) = wayN T W no (2 ^ T 1))) (f + 1)))), (4, .int (nI (bits (fun f => decide (0 < wayF T W no f (2 ^ T 1))) (f + 1)))), (5, .int (nI (f + 1)))] [] σ := by
      have ea : (nI (bits (fun f => decide (wayF T W no f (2 ^ T 1) = wayN T W no (2 ^ T 1))) f) ||| (if wayF T W no f (2 ^ T 1) = wayN T W no (2 ^ T 1) then nI (2 ^ f) else nI 0)) = nI (bits (fun f => decide (wayF T W no f (2 ^ T 1) = wayN T W no (2 ^ T 1))) (f + 1)) := by
        by_cases e : wayF T W no f (2 ^ T 1) = wayN T W no (2 ^ T 1)
        · rw [if_pos e, n_or, bits_t (c := fun f => decide (wayF T W no f (2 ^ T 1) = wayN T W no (2 ^ T 1))) (decide_eq_true e)]
        · rw [if_neg e, n_or, Nat.or_zero, bits_f (c := fun f => decide (wayF T W no f (2 ^ T 1) = wayN T W no (2 ^ T 1))) (decide_eq_false e)]
      rw [e_139_60, ea]
      by_cases e : 0 < wayF T W no f (2 ^ T 1)
      · rw [if_neg (fun q => absurd ((nI_leI (by omega) (by decide)).mp q) (by omega)), n_shl1 (by omega), e_139_77, n_or, nI_add, bits_t (c := fun f => decide (0 < wayF T W no f (2 ^ T 1))) (decide_eq_true e)]
      · rw [if_pos (nI_le (by omega) (by omega)), e_139_77, n_or, nI_add, Nat.or_zero, bits_f (c := fun f => decide (0 < wayF T W no f (2 ^ T 1))) (decide_eq_false e)]
    rw [e_139_26, m_told h0, q_obS, a_rd h2 (by decide) (by decide), q_obS, if_neg (nI_ge hf (by omega)), m_waysF h0 hz h2 h8 hT hno hW (show f < 5 by omega), q_cIS, q_obS]
    dsimp only
    by_cases e : wayF T W no f (2 ^ T 1) = wayN T W no (2 ^ T 1)
    · rw [if_pos e] at e77
      rw [if_pos (by rw [e]), n_shl1 (by omega)]; exact e77
    · rw [if_neg e] at e77
      rw [if_neg (fun q => e ((nI_eq (by omega) (by omega)).mp q))]; exact e77
  · try dsimp only
    rw [e_139_26, m_told h0, q_obS, a_rd h2 (by decide) (by decide), q_obS, if_pos (nI_le (Nat.le_refl _) (by omega)), ← wayA_bits, ← wayO_bits]
    repeat' split
    all_goals rfl
end MG
theorem o_can {σ : qH} {x : Nat} (h : QV σ x) (w : Int32) : QO σ x 136 139 [.int w] := by
  obtain ⟨p, tx, n, T, P, Hs, kn, I, kp, W, no, tr, C, D, hC, hD, hX, hM, hQ⟩ := id h
  obtain ⟨h0, ⟨zz, hp⟩, hpo, he, -⟩ := hX.f hC
  obtain ⟨z, m0, ⟨z0, z1, z2⟩, m2, m4⟩ := hM.f hD
  obtain ⟨b1, b2, hT, hP, b5, b6, b7, hno, hW⟩ := id hQ
  obtain ⟨ww, a, b, c, hg0⟩ := hX.2.2.2.2.2.2.2.2.2.1
  have hg : σ.1 (x + 18) = some (grC W no ww a b c) := by rw [← hg0]; exact hC.at 18 (by decide) (by decide)
  have m8 : σ.1 (x + 24 + 8) = some (iA 12 W) := by rw [← hM.2.2.2.2.2.2.2.2.1]; exact hD 8 (by decide)
  by_cases hw : nI 0 ≤ w ∧ w ≤ nI 2
  · obtain ⟨w, hw2, rfl⟩ := n_upto (by decide) hw
    have hwg := c_weigh hg hp (show p ≠ x + 18 by omega) hT hno hW
    generalize hG : grC W no (lN (pkL (wayL T W no (2 ^ T 1)))) (nI (wayN T W no (2 ^ T 1))) (nI (wayA T W no (2 ^ T 1))) (nI (wayO T W no (2 ^ T 1))) = G at hwg
    have q0 : (q_upd σ (x + 18) G).1 x = some (xC x p n (bits kp 2) tr) := (u_n _ _ (by omega)).trans h0
    have qg : (q_upd σ (x + 18) G).1 (x + 18) = some (grC W no (lN (pkL (wayL T W no (2 ^ T 1)))) (nI (wayN T W no (2 ^ T 1))) (nI (wayA T W no (2 ^ T 1))) (nI (wayO T W no (2 ^ T 1)))) := by rw [hG]; exact u_s ..
    have cx : q_call 136 [.ref x, .int (nI w)] σ = some (some (.int (if nI w = nI 0 then nI (wayN T W no (2 ^ T 1)) else if nI w = nI 2 then nI (wayO T W no (2 ^ T 1)) else if nI (wayN T W no (2 ^ T 1)) = nI 0 then -9 else nI (wayA T W no (2 ^ T 1)))), q_upd σ (x + 18) G) := by
      rw [k_136 h0, e_136_0, if_neg (Int32.not_lt.mpr hw.1), if_pos hw.2, x_grazing h0, q_obS, x_plan h0, q_obS, hwg, q_cVS, q_obS]
      simp only [x_grazing q0, q_obS, gr_ways qg, gr_some qg, gr_all qg]
      repeat' split
      all_goals rfl
    have n0 : (q_upd σ (x + 18) G).1 (x + 24) = some (mC (x + 24) tr z) := (u_n _ _ (by omega)).trans m0
    have n2 : (q_upd σ (x + 18) G).1 (x + 24 + 2) = some (iA 35 T) := (u_n _ _ (by omega)).trans m2
    have n8 : (q_upd σ (x + 18) G).1 (x + 24 + 8) = some (iA 12 W) := (u_n _ _ (by omega)).trans m8
    exact QO.mk cx (m_can n0 z2 n2 n8 hT hno hW hw2) ⟨p, tx, n, T, P, Hs, kn, I, kp, W, no, tr, upC C 18 G, D, hC.upd (k := 18) (by decide) (by decide) _, hD.x (k := 18) (by decide) _, hX.up18 ⟨_, _, _, _, hG.symm⟩, hM, hQ⟩ rfl (fun a ha => u_n _ _ (by omega))
  · refine QO.ro (v := .int (-1)) h ?_ ?_
    · rw [k_136 h0, e_136_0]
      by_cases g : w < nI 0
      · rw [if_pos g, e_136_9]
      · rw [if_neg g, if_neg (fun q => hw ⟨Int32.not_lt.mp g, q⟩), e_136_9]
    · rw [k_139 m0, e_139_0, m_in, q_cIS, q_obS]
      dsimp only
      rw [decide_eq_false hw, if_pos (show nI (false.toNat) = nI 0 from rfl)]
theorem m_ask {σ : qH} {m : Nat} {tr : Int64} {z : Nat → Int32} {T W : Nat → Nat} {no : Nat} (h0 : σ.1 m = some (mC m tr z)) (hz : z 2 = nI no) (h2 : σ.1 (m + 2) = some (iA 35 T)) (h8 : σ.1 (m + 8) = some (iA 12 W)) (hT : WT T) (hno : no ≤ 6) (hW : ∀ i, W (2 * i) < 32 ∧ W (2 * i + 1) ≤ 45) :
    q_call 142 [.ref m] σ = some (some (.int (if nI 1 < nI (wayN T W no (2 ^ T 1)) then (askR T W no (2 ^ T 1) (T 1)).1 else -9)), σ) := by
  have t1 := hT.2.1
  have hp := pow_le5 t1
  have hn := wayN_le T W no (2 ^ T 1)
  rw [k_142 h0, e_142_0, m_ways h0 hz h2 h8 hT hno hW, q_cIS, q_obS]
  dsimp only
  by_cases g : wayN T W no (2 ^ T 1) ≤ 1
  · rw [e_142_17, m_told h0, q_obS, a_rd h2 (by decide) (by decide), q_obS, if_neg (show ¬ nI 1 < nI (wayN T W no (2 ^ T 1)) from fun q => absurd ((nI_ltI (by decide) (by omega)).mp q) (by omega)), if_pos (nI_le g (by decide)), e_142_93]
    split <;> rfl
  · rw [if_pos (nI_lt (show 1 < wayN T W no (2 ^ T 1) by omega) (by omega)), nI_add]
    refine (q_for (fun f => q_run 142 17 [(0, .ref m), (1, .int (nI (wayN T W no (2 ^ T 1)))), (2, .int (askR T W no (2 ^ T 1) f).1), (3, .int (nI (askR T W no (2 ^ T 1) f).2)), (4, .int (nI f))] [] σ) (T 1) (fun f hf => ?_)).trans ?_
    · try dsimp only
      have h1 := wayF_le T W no f (2 ^ T 1)
      have h3 := askR_le T W no (2 ^ T 1) f
      have hl2 := askM_le (T := T) (W := W) (no := no) (f := f) (n := 2 ^ T 1)
      have e59 : q_run 142 59 [(0, .ref m), (1, .int (nI (wayN T W no (2 ^ T 1)))), (2, .int (askR T W no (2 ^ T 1) f).1), (3, .int (nI (askR T W no (2 ^ T 1) f).2)), (4, .int (nI f))] [.int (nI (askM T W no (2 ^ T 1) f))] σ = q_run 142 17 [(0, .ref m), (1, .int (nI (wayN T W no (2 ^ T 1)))), (2, .int (askR T W no (2 ^ T 1) (f + 1)).1), (3, .int (nI (askR T W no (2 ^ T 1) (f + 1)).2)), (4, .int (nI (f + 1)))] [] σ := by
        rw [e_142_59, askR_s]
        by_cases g1 : askM T W no (2 ^ T 1) f < (askR T W no (2 ^ T 1) f).2
        · rw [if_neg (nI_ge g1 (by omega)), e_142_73, if_neg (nI_ge g1 (by omega)), e_142_86, nI_add, if_pos g1]
        · rw [if_pos (nI_le (by omega) (by omega)), e_142_73, if_pos (nI_le (by omega) (by omega)), e_142_86, nI_add, if_neg g1]
      rw [e_142_17, m_told h0, q_obS, a_rd h2 (by decide) (by decide), q_obS, if_neg (nI_ge hf (by omega)), if_neg (fun q => g ((nI_leI (by omega) (by decide)).mp q)), m_waysF h0 hz h2 h8 hT hno hW (show f < 5 by omega), q_cIS, q_obS]
      dsimp only
      rw [pk_sub h1, ← e59]
      unfold askM
      by_cases g2 : wayF T W no f (2 ^ T 1) < wayN T W no (2 ^ T 1) - wayF T W no f (2 ^ T 1)
      · rw [if_pos (nI_le (by omega) (by omega)), if_pos g2]
      · rw [if_neg g2]
        by_cases g3 : wayF T W no f (2 ^ T 1) ≤ wayN T W no (2 ^ T 1) - wayF T W no f (2 ^ T 1)
        · rw [if_pos (nI_le g3 (by omega)), show wayN T W no (2 ^ T 1) - wayF T W no f (2 ^ T 1) = wayF T W no f (2 ^ T 1) by omega]
        · rw [if_neg (fun q => g3 ((nI_leI (by omega) (by omega)).mp q))]
    · try dsimp only
      rw [e_142_17, m_told h0, q_obS, a_rd h2 (by decide) (by decide), q_obS, if_pos (nI_le (Nat.le_refl _) (by omega)), e_142_93]
theorem o_ask {σ : qH} {x : Nat} (h : QV σ x) : QO σ x 141 142 [] := by
  obtain ⟨p, tx, n, T, P, Hs, kn, I, kp, W, no, tr, C, D, hC, hD, hX, hM, hQ⟩ := id h
  obtain ⟨h0, ⟨zz, hp⟩, hpo, he, -⟩ := hX.f hC
  obtain ⟨z, m0, ⟨z0, z1, z2⟩, m2, m4⟩ := hM.f hD
  obtain ⟨b1, b2, hT, hP, b5, b6, b7, hno, hW⟩ := id hQ
  obtain ⟨ww, a, b, c, hg0⟩ := hX.2.2.2.2.2.2.2.2.2.1
  have hg : σ.1 (x + 18) = some (grC W no ww a b c) := by rw [← hg0]; exact hC.at 18 (by decide) (by decide)
  have m8 : σ.1 (x + 24 + 8) = some (iA 12 W) := by rw [← hM.2.2.2.2.2.2.2.2.1]; exact hD 8 (by decide)
  have hwg := c_weigh hg hp (show p ≠ x + 18 by omega) hT hno hW
  generalize hG : grC W no (lN (pkL (wayL T W no (2 ^ T 1)))) (nI (wayN T W no (2 ^ T 1))) (nI (wayA T W no (2 ^ T 1))) (nI (wayO T W no (2 ^ T 1))) = G at hwg
  have q0 : (q_upd σ (x + 18) G).1 x = some (xC x p n (bits kp 2) tr) := (u_n _ _ (by omega)).trans h0
  have qp : (q_upd σ (x + 18) G).1 p = some (planC T zz) := (u_n _ _ (by omega)).trans hp
  have qg : (q_upd σ (x + 18) G).1 (x + 18) = some (grC W no (lN (pkL (wayL T W no (2 ^ T 1)))) (nI (wayN T W no (2 ^ T 1))) (nI (wayA T W no (2 ^ T 1))) (nI (wayO T W no (2 ^ T 1)))) := by rw [hG]; exact u_s ..
  have cx : q_call 141 [.ref x] σ = some (some (.int (if nI 1 < nI (wayN T W no (2 ^ T 1)) then (askR T W no (2 ^ T 1) (T 1)).1 else -9)), q_upd σ (x + 18) G) := by
    rw [k_141 h0, e_141_0, x_grazing h0, q_obS, x_plan h0, q_obS, hwg, q_cVS, q_obS, x_grazing q0, q_obS, gr_ways qg, q_obS, q_obS, x_plan q0, q_obS, pl_flocks qp, q_obS, c_bestAsked hT qg, q_cIS, q_obS]
    split <;> rfl
  have n0 : (q_upd σ (x + 18) G).1 (x + 24) = some (mC (x + 24) tr z) := (u_n _ _ (by omega)).trans m0
  have n2 : (q_upd σ (x + 18) G).1 (x + 24 + 2) = some (iA 35 T) := (u_n _ _ (by omega)).trans m2
  have n8 : (q_upd σ (x + 18) G).1 (x + 24 + 8) = some (iA 12 W) := (u_n _ _ (by omega)).trans m8
  exact QO.mk cx (m_ask n0 z2 n2 n8 hT hno hW) ⟨p, tx, n, T, P, Hs, kn, I, kp, W, no, tr, upC C 18 G, D, hC.upd (k := 18) (by decide) (by decide) _, hD.x (k := 18) (by decide) _, hX.up18 ⟨_, _, _, _, hG.symm⟩, hM, hQ⟩ rfl (fun a ha => u_n _ _ (by omega))
