/-! ===== the reference: one flock acts; a step ===== -/
/-- one flock acts -/
theorem m_act {σ : qH} {m : Nat} {tr : Int64} {z : Nat → Int32} {T P : Nat → Nat} (h0 : σ.1 m = some (mC m tr z)) (h2 : σ.1 (m + 2) = some (iA 35 T)) (h4 : σ.1 (m + 4) = some (iA 22 P)) (hT : WT T) (hP : WP T P) {f : Nat} (hf : f < T 1) (s : Nat) :
    q_run 67 4 [(0, .ref m), (1, .int (nI s)), (2, .int (nI f))] [] σ = q_run 67 4 [(0, .ref m), (1, .int (nI (s + eat T P f))), (2, .int (nI (f + 1)))] [] (q_upd σ (m + 4) (iA 22 (actP T P f))) := by
  obtain ⟨t0, t1, t2, t5, t6, t7, t8, t9⟩ := id hT
  obtain ⟨p0, p1, p5, p6, p7, p8⟩ := id hP
  have hf5 : f < 5 := by omega
  have hr := p0 f hf
  have hr5 : P f < 5 := by omega
  have hP20 : P 20 < 2 ^ 31 := Nat.lt_of_lt_of_le p7 (Nat.le_trans (pow_le5 t0) (by decide))
  have hle := (p5 (P f) hr5).2.2
  have hln := p5 f hf5
  have htf := t5 f hf5
  rw [e_67_4, m_told h0, q_obS, a_rd h2 (by decide) (by decide), q_obS, if_neg (fun q => absurd ((nI_leI (by omega) (by omega)).mp q) (by omega)), m_s h0, q_obS, a_rd h4 (by omega) (by decide), q_obS, q_obS, a_rd h4 (by decide) (by decide), q_obS, m_has hP20 (by omega), q_cIS, q_obS]
  have fin : ∀ σ' s', q_run 67 227 [(0, .ref m), (1, .int (nI s')), (2, .int (nI f))] [] σ' = q_run 67 4 [(0, .ref m), (1, .int (nI s')), (2, .int (nI (f + 1)))] [] σ' := by
    intro σ' s'
    rw [e_67_227, nI_add]
  have mv : moves T P f = true → ∀ b : Bool, b = (P 20).testBit (P f) → q_run 67 51 [(0, .ref m), (1, .int (nI s)), (2, .int (nI f)), (3, .int (nI (P f))), (4, .int (nI b.toNat))] [] σ = q_run 67 4 [(0, .ref m), (1, .int (nI (s + eat T P f))), (2, .int (nI (f + 1)))] [] (q_upd σ (m + 4) (iA 22 (actP T P f))) := by
    intro hm b hb
    have e1 : q_run 67 51 [(0, .ref m), (1, .int (nI s)), (2, .int (nI f)), (3, .int (nI (P f))), (4, .int (nI b.toNat))] [] σ = q_run 67 63 [(0, .ref m), (1, .int (nI s)), (2, .int (nI f)), (3, .int (nI (P f)))] [.int (nI (!b).toNat), .int (nI (P f)), .ref m] σ := by
      rw [e_67_51]
      cases b <;> rfl
    rw [e1, e_67_63, m_beyond h0 h2 h4 hT hP hr5, q_cIS, q_obS]
    dsimp only
    rw [m_s h0, q_obS]
    have e2 : eat T P f = 0 := if_pos hm
    have e3 : actP T P f = up P f ((bey T P (P f) (!(P 20).testBit (P f))).getD (P f)) := if_pos hm
    rw [e2, Nat.add_zero, e3, ← hb]
    cases hbey : bey T P (P f) (!b) with
    | none =>
      rw [if_pos (show optI none = (-9 : Int32) from rfl), e_67_86, a_wr h4 (by omega) (by decide), q_obS, fin]
      rfl
    | some q =>
      have hq : q < 5 := by
        have := (lowF_some hbey).2.1
        omega
      rw [if_neg (show ¬ optI (some q) = (-9 : Int32) from fun e => absurd (congrArg Int32.toInt e) (by show ¬ (nI q).toInt = -9; rw [nI_toInt (by omega)]; omega)), e_67_86, show optI (some q) = nI q from rfl, a_wr h4 (by omega) (by decide), q_obS, fin]
      rfl
  cases hd : (P 20).testBit (P f) with
  | true =>
    dsimp only
    rw [if_neg (show ¬ nI (true.toNat) = nI 0 by decide)]
    exact mv (by unfold moves; rw [hd]; rfl) true hd.symm
  | false =>
    dsimp only
    rw [if_pos (show nI (false.toNat) = nI 0 from rfl)]
    simp (disch := omega) only [m_s h0, m_told h0, q_obS, nI_add, a_rd h4, a_rd h2]
    by_cases hc : P (15 + P f) = 0
    · rw [if_pos (by rw [hc])]
      exact mv (by unfold moves; rw [hc]; simp) false hd.symm
    · have hm : moves T P f = false := by unfold moves; rw [hd]; simpa using hc
      rw [if_neg (fun q => hc ((nI_eq (by omega) (by decide)).mp q))]
      have e2 : eat T P f = bite T P f := by unfold eat; rw [hm]; rfl
      have hb9 : bite T P f ≤ 9 ∧ bite T P f ≤ P (15 + P f) := by
        unfold bite
        split <;> omega
      have go : q_run 67 132 [(0, .ref m), (1, .int (nI s)), (2, .int (nI f)), (3, .int (nI (P f)))] [.int (nI (bite T P f))] σ = q_run 67 4 [(0, .ref m), (1, .int (nI (s + eat T P f))), (2, .int (nI (f + 1)))] [] (q_upd σ (m + 4) (iA 22 (actP T P f))) := by
        rw [e2, show actP T P f = _ from if_neg (by rw [hm]; decide)]
        have h4a : (q_upd σ (m + 4) (iA 22 (up P (15 + P f) (P (15 + P f) - bite T P f)))).1 (m + 4) = some (iA 22 (up P (15 + P f) (P (15 + P f) - bite T P f))) := u_s ..
        have h0a : (q_upd σ (m + 4) (iA 22 (up P (15 + P f) (P (15 + P f) - bite T P f)))).1 m = some (mC m tr z) := (u_n _ _ (by omega)).trans h0
        have h2a : (q_upd σ (m + 4) (iA 22 (up P (15 + P f) (P (15 + P f) - bite T P f)))).1 (m + 2) = some (iA 35 T) := (u_n _ _ (by omega)).trans h2
        rw [e_67_132, m_s h0, q_obS, nI_add, a_rd h4 (by omega) (by decide), q_obS, pk_sub hb9.2, a_wr h4 (by omega) (by decide), q_obS]
        simp (disch := omega) only [m_s h0a, m_told h0a, q_obS, nI_add, a_rd h4a, a_rd h2a]
        rw [up_n _ _ (show 5 + f ≠ 15 + P f by omega), up_n _ _ (show 10 + f ≠ 15 + P f by omega), if_neg (fun q => absurd ((nI_eq (by omega) (by decide)).mp q) (by omega)), if_neg (fun q => absurd ((nI_eq (by omega) (by decide)).mp q) (by omega)), pk_rem (by omega) (by omega) (by omega), a_wr h4a (by omega) (by decide), q_obS, u_u,
          pk_div (by omega) (by omega) (by omega), nI_add]
        have h4b : (q_upd σ (m + 4) (iA 22 (up (up P (15 + P f) (P (15 + P f) - bite T P f)) (5 + f) ((P (5 + f) + bite T P f) % T 2)))).1 (m + 4) = some (iA 22 (up (up P (15 + P f) (P (15 + P f) - bite T P f)) (5 + f) ((P (5 + f) + bite T P f) % T 2))) := u_s ..
        have h0b : (q_upd σ (m + 4) (iA 22 (up (up P (15 + P f) (P (15 + P f) - bite T P f)) (5 + f) ((P (5 + f) + bite T P f) % T 2)))).1 m = some (mC m tr z) := (u_n _ _ (by omega)).trans h0
        have hdv : (P (5 + f) + bite T P f) / T 2 ≤ P (5 + f) + bite T P f := Nat.div_le_self _ _
        rw [m_s h0b, q_obS]
        by_cases h99 : P (10 + f) + (P (5 + f) + bite T P f) / T 2 ≤ 99
        · rw [if_pos (nI_le h99 (by omega)), e_67_226, a_wr h4b (by omega) (by decide), q_obS, u_u, fin, if_pos h99]
        · rw [if_neg (fun q => h99 ((nI_leI (by omega) (by omega)).mp q)), e_67_226, a_wr h4b (by omega) (by decide), q_obS, u_u, fin, if_neg h99]
      by_cases hlt : T (25 + f) ≤ P (15 + P f)
      · rw [if_pos (nI_le hlt (by omega))]
        have eb : bite T P f = T (25 + f) := by unfold bite; rw [if_neg (by omega)]
        rw [← eb]
        exact go
      · rw [if_neg (fun q => hlt ((nI_leI (by omega) (by omega)).mp q))]
        have eb : bite T P f = P (15 + P f) := by unfold bite; rw [if_pos (by omega)]
        rw [← eb]
        exact go
