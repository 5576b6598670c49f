/-! ===== apart: the reference asks of a way ===== -/
theorem m_check {σ : qH} {m : Nat} {tr : Int64} {z : Nat → Int32} {T S : Nat → Nat} (h0 : σ.1 m = some (mC m tr z)) (h2 : σ.1 (m + 2) = some (iA 35 T)) (h4 : σ.1 (m + 4) = some (iA 22 S)) (hT : WT T) (hS : ∀ j, j < 5 → S j < 5) (x1 x2 x3 x4 x5 : Int32) (t : Int32) :
    ∀ f, f ≤ T 1 → q_run 122 144 [(0, .ref m), (1, .int x1), (2, .int x2), (3, .int x3), (4, .int x4), (5, .int x5), (7, .int t), (8, .int (nI 1)), (9, .int (nI 0))] [] σ = q_run 122 144 [(0, .ref m), (1, .int x1), (2, .int x2), (3, .int x3), (4, .int x4), (5, .int x5), (7, .int t), (8, .int (nI (allB (refC T S (T 1)) 0 f).toNat)), (9, .int (nI f))] [] σ
  | 0, _ => rfl
  | f + 1, hf => by
    have t1 := hT.2.1
    have hSf := hS f (by omega)
    rw [m_check h0 h2 h4 hT hS x1 x2 x3 x4 x5 t f (by omega)]
    -- the flocks before f
    have l201 : ∀ c : Bool, q_run 122 196 [(0, .ref m), (1, .int x1), (2, .int x2), (3, .int x3), (4, .int x4), (5, .int x5), (7, .int t), (9, .int (nI f))] [.int (nI c.toNat)] σ = q_run 122 144 [(0, .ref m), (1, .int x1), (2, .int x2), (3, .int x3), (4, .int x4), (5, .int x5), (7, .int t), (8, .int (nI (c && allB (fun g => !(S g == S f) || T (30 + g) == T (30 + f)) 0 f).toNat)), (9, .int (nI (f + 1)))] [] σ := by
      intro c
      have hl := q_for (fun g => q_run 122 201 [(0, .ref m), (1, .int x1), (2, .int x2), (3, .int x3), (4, .int x4), (5, .int x5), (7, .int t), (8, .int (nI (c && allB (fun g => !(S g == S f) || T (30 + g) == T (30 + f)) 0 g).toNat)), (9, .int (nI f)), (10, .int (nI g))] [] σ) f (fun g hg => by
        try dsimp only
        have hSg := hS g (by omega)
        have a1 := hT.l.2.2.2.2.1 g (by omega)
        have a2 := hT.l.2.2.2.2.1 f (by omega)
        rw [e_122_201, if_neg (nI_ge hg (by omega)), allB_s, Nat.zero_add, ← Bool.and_assoc]
        cases c && allB (fun g => !(S g == S f) || T (30 + g) == T (30 + f)) 0 g with
        | false => rw [if_pos (show nI (false.toNat) = nI 0 from rfl), e_122_257, e_122_258, nI_add, Bool.false_and]; rfl
        | true =>
          rw [if_neg (show ¬ nI (true.toNat) = nI 0 by decide), m_s h0, q_obS, a_rd h4 (by omega) (by decide), q_obS, q_obS, a_rd h4 (by omega) (by decide), q_obS, Bool.true_and]
          by_cases e : S g = S f
          · rw [if_pos (by rw [e]), m_told h0, q_obS, nI_add, a_rd h2 (by omega) (by decide), q_obS, q_obS, nI_add, a_rd h2 (by omega) (by decide), q_obS]
            by_cases e2 : T (30 + g) = T (30 + f)
            · rw [if_pos (by rw [e2]), e_122_253, e_122_258, nI_add, show (!(S g == S f) || T (30 + g) == T (30 + f)) = true by rw [e2]; simp]; rfl
            · rw [if_neg (fun q => e2 ((nI_eq (by omega) (by omega)).mp q)), e_122_257, e_122_258, nI_add, show (!(S g == S f) || T (30 + g) == T (30 + f)) = false by rw [e]; simpa using e2]; rfl
          · rw [if_neg (fun q => e ((nI_eq (by omega) (by omega)).mp q)), e_122_253, e_122_258, nI_add, show (!(S g == S f) || T (30 + g) == T (30 + f)) = true by simp [e]]; rfl)
      try dsimp only at hl
      rw [show (c && allB (fun g => !(S g == S f) || T (30 + g) == T (30 + f)) 0 0) = c from Bool.and_true c] at hl
      rw [e_122_196, hl, e_122_201, if_pos (nI_le (Nat.le_refl _) (by omega)), nI_add]
    rw [e_122_144, m_told h0, q_obS, a_rd h2 (by decide) (by decide), q_obS, if_neg (nI_ge (by omega) (by omega)), allB_s, Nat.zero_add]
    cases hb : allB (refC T S (T 1)) 0 f with
    | false =>
      rw [if_pos (show nI (false.toNat) = nI 0 from rfl), e_122_195, show nI 0 = nI false.toNat from rfl, l201 false, Bool.false_and, Bool.false_and]
    | true =>
      have h5 := (hT.2.2.2.1 (S f) hSf).1
      have hld : load S (T 1) (S f) ≤ T 1 := cnt_le _ _
      have hon : ones (inR T S (S f)) = load S (T 1) (S f) := ones_bits _ t1
      have hin : inR T S (S f) < 32 := inR_lt (P := S) hT (S f)
      rw [if_neg (show ¬ nI (true.toNat) = nI 0 by decide), m_s h0, q_obS, a_rd h4 (by omega) (by decide), q_obS, m_inRoom h0 h2 h4 t1 (fun g hg => by have := hS g hg; omega) (by omega), q_cIS, q_obS]
      dsimp only
      rw [m_ones (by omega), q_cIS, q_obS]
      dsimp only
      rw [m_told h0, q_obS, m_s h0, q_obS, a_rd h4 (by omega) (by decide), q_obS, nI_add, a_rd h2 (by omega) (by decide), q_obS, hon, Bool.true_and]
      unfold refC
      by_cases g : load S (T 1) (S f) ≤ T (5 + S f)
      · rw [if_neg (fun q => absurd ((nI_ltI (by omega) (by omega)).mp q) (by omega)), show nI 1 = nI true.toNat from rfl, l201 true, decide_eq_true g]
      · rw [if_pos (nI_lt (show T (5 + S f) < load S (T 1) (S f) by omega) (by omega)), e_122_195, show nI 0 = nI false.toNat from rfl, l201 false, decide_eq_false g, Bool.false_and]
