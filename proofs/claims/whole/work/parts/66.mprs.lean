/-! ===== the reference reads the whole text ===== -/
theorem hiL {H v : Nat} (hH : H < 1000) (hv : v ≤ 1000) : nI v ≤ nI H ↔ v < H + 1 := by
  rw [nI_leI (by omega) (by omega)]; omega
theorem hiP {N v : Nat} (hN : N ≤ 5) (hv : v ≤ 1000) : nI v ≤ nI N - nI 1 ↔ v < N := by
  by_cases e : N = 0
  · subst e
    constructor
    · intro q
      have h1 : nI 0 ≤ nI v := nI_pos' (by omega)
      exact absurd (Int32.le_trans h1 q) (by decide)
    · intro q; omega
  · rw [pk_sub (by omega), nI_leI (by omega) (by omega)]; omega
section MP
variable {σ : qH} {m n : Nat} {tr : Int64} {w f : Nat → Int32} {tx : Nat → Nat}
theorem m_at38 : q_run 15 38 [(0, .ref m)] [] (hR σ m tr w f) = if w 4 = nI 0 then some (some (.int (nI 1)), hR σ m tr w f) else R15 m (q_call 14 [.ref m] (hR σ m tr w f)) := by
  rw [e_15_38, m_sort hR_0, q_obS]
  rfl
theorem m_item16 {v : Int32} (hv : w 4 = nI 1 ∧ w 6 = v ∨ ¬ w 4 = nI 1 ∧ v = nI 0) : q_call 14 [.ref m] (hR σ m tr w f) = q_run 14 38 [(0, .ref m), (1, .int v)] [.int (if v = nI 114 then f 0 else f 1)] (hR σ m tr w f) := by
  have st : q_call 14 [.ref m] (hR σ m tr w f) = q_run 14 16 [(0, .ref m)] [.int v] (hR σ m tr w f) := by
    rw [k_14 hR_0, e_14_0, m_sort hR_0, q_obS]
    rcases hv with ⟨h1, h2⟩ | ⟨h1, h2⟩
    · rw [if_pos h1, m_value hR_0, q_obS, h2]
    · rw [if_neg h1, h2]
  rw [st, e_14_16]
  by_cases g : v = nI 114
  · rw [if_pos g, if_pos g, m_draft hR_0, q_obS, f_rd hR_3 (by decide) (by decide), q_obS]
  · rw [if_neg g, if_neg g, m_draft hR_0, q_obS, f_rd hR_3 (by decide) (by decide), q_obS]
theorem m_item0 {s0 : Int32} : q_run 14 38 [(0, .ref m), (1, .int (nI 0))] [.int s0] (hR σ m tr w f) = some (some (.int (nI 0)), hR σ m tr w f) := by
  rw [e_14_38, if_neg (by decide), if_neg (by decide), if_neg (by decide), if_neg (by decide)]
end MP
theorem m_prs {σ : qH} {m n : Nat} {tr : Int64} {tx : Nat → Nat} {c1 c2 : Int32} (hM : mOk σ m n tx) : ∀ d a w0 w f (T : Nat → Nat), n < a + d → a ≤ n → wK n c1 c2 w → tkR tx n (nx tx n a) w0 w → dRel f T → WX T → mAns σ m n tr c1 c2 (q_run 15 38 [(0, .ref m)] [] (hR σ m tr w f)) (prs tx n d a T) := by
  intro d
  induction d with
  | zero => intro a w0 w f T h1 h2; omega
  | succ d ih =>
    intro a w0 w f T hd ha hw hk hf hT
    obtain ⟨g1, g2, g3, g4⟩ := nx_spec tx ha
    have t0 := hT.1.1
    have t1 := hT.1.2.1
    have t4 := hT.2
    have hk' := hk
    obtain ⟨-, -, -, k5, k⟩ := hk'
    rw [m_at38]
    unfold prs
    have bad : ∀ {s0 : Int32}, ¬ w 4 = nI 0 → q_call 14 [.ref m] (hR σ m tr w f) = some (some (.int (nI 0)), hR σ m tr w f) → mAns σ m n tr c1 c2 (if w 4 = nI 0 then some (some (.int (nI 1)), hR σ m tr w f) else R15 m (q_call 14 [.ref m] (hR σ m tr w f))) (.inl (nx tx n a)) := fun h1 h2 => by
      rw [if_neg h1, h2, R15_0]
      exact ⟨g2, w, f, rfl, hw.1, hw.2.1, hw.2.2, k5⟩
    rcases k with ⟨d1, d2⟩ | ⟨d1, d2, d3, d4, -⟩ | ⟨d1, d2, d3, d4, d5⟩
    · rw [if_pos d2, if_neg (by omega)]
      exact ⟨w, f, rfl, hw.1, hw.2.1, hw.2.2, hf⟩
    · have hdg := (dgB_t d2).2
      rw [if_pos d1, if_neg (show ¬ tx (nx tx n a) = 114 by omega), if_neg (show ¬ tx (nx tx n a) = 100 by omega), if_neg (show ¬ tx (nx tx n a) = 102 by omega), if_neg (show ¬ tx (nx tx n a) = 110 by omega)]
      refine bad (s0 := 0) (by rw [d3]; decide) ?_
      rw [m_item16 (v := nI 0) (Or.inr ⟨by rw [d3]; decide, rfl⟩), m_item0]
    · rw [if_pos d1]
      have h8 := hM.2.2 (nx tx n a)
      cases hwd : wdB (tx (nx tx n a)) with
      | false =>
        have hno := of_decide_eq_false hwd
        have h4 : ¬ w 4 = nI 1 ∧ ¬ w 4 = nI 0 := by
          rw [d5, hwd, if_neg (by decide)]
          split <;> decide
        rw [if_neg (show ¬ tx (nx tx n a) = 114 by omega), if_neg (show ¬ tx (nx tx n a) = 100 by omega), if_neg (show ¬ tx (nx tx n a) = 102 by omega), if_neg (show ¬ tx (nx tx n a) = 110 by omega)]
        refine bad (s0 := 0) h4.2 ?_
        rw [m_item16 (v := nI 0) (Or.inr ⟨h4.1, rfl⟩), m_item0]
      | true =>
        have h41 : w 4 = nI 1 := by rw [d5, hwd, if_pos rfl]
        have h40 : ¬ w 4 = nI 0 := by rw [h41]; decide
        have hit := m_item16 (σ := σ) (m := m) (tr := tr) (w := w) (f := f) (v := nI (tx (nx tx n a))) (Or.inl ⟨h41, d4⟩)
        by_cases e1 : tx (nx tx n a) = 114
        · rw [if_pos e1]
          rw [e1, if_pos rfl, hf 0 (by decide)] at hit
          have e38 : q_run 14 38 [(0, .ref m), (1, .int (nI 114))] [.int (nI (T 0))] (hR σ m tr w f) = _ := e_14_38 ..
          rw [if_neg (show ¬ nI 114 = nI 100 by decide), if_neg (show ¬ nI 114 = nI 102 by decide), if_neg (show ¬ nI 114 = nI 110 by decide), if_pos (show nI 114 = nI 114 from rfl)] at e38
          by_cases e2 : T 0 = 5
          · rw [if_pos e2]
            refine bad (s0 := 0) h40 ?_
            rw [hit, e38, if_pos (by rw [e2]), e_14_115]
          · rw [if_neg e2, if_neg h40, hit, e38, if_neg (fun q => e2 ((nI_eq (by omega) (by decide)).mp q)), nI_add, nI_add]
            refine an_mnum (C := R15 m) (F := fun p => q_run 14 115 [] [] p.2) hM hw (show nx tx n a + 1 ≤ n by omega) d3 (by omega) (by decide) (by decide) (fun v hv => hiL (by decide) hv) R15_0 (fun p => e_14_115 _) fun v a1 w1 v1 v2 v3 v4 v5 v6 => ?_
            dsimp only
            refine an_mnum (C := R15 m) (F := fun p => q_run 14 115 [] [] p.2) hM v5 v3 v6 (by omega) (by decide) (by decide) (fun v hv => hiL (by decide) hv) R15_0 (fun p => e_14_115 _) fun u a2 w2 u1 u2 u3 u4 u5 u6 => ?_
            dsimp only
            have hf2 := ((hf.up (5 + T 0) v).up (10 + T 0) u)
            have h00 : (up (up T (5 + T 0) v) (10 + T 0) u) 0 = T 0 := by rw [up_n _ _ (by omega), up_n _ _ (by omega)]
            rw [m_draft hR_0, q_obS, f_rd hR_3 (by decide) (by decide), q_obS, hf2 0 (by decide), h00, nI_add, f_wr hR_3 (by decide) (by decide), q_obS, hR_u3]
            have hf3 := hf2.up 0 (T 0 + 1)
            have h03 : (up (up (up T (5 + T 0) v) (10 + T 0) u) 0 (T 0 + 1)) 3 = T 3 := by rw [up_n _ _ (by decide), up_n _ _ (by omega), up_n _ _ (by omega)]
            refine an_mend hM u5 u3 u6 hf3 fun a3 w3 w4 z1 z2 z3 z4 => ?_
            have hf4 := hf3.up 3 (T 3 + 1)
            rw [h03]
            exact ih a3 w3 w4 _ _ (by omega) z1 z3 z4 hf4 (hT.rm e2 (okI_t v2) (okI_t u2).2)
        · rw [if_neg e1]
          rw [if_neg (fun q => e1 ((nI_eq (by omega) (by decide)).mp q)), hf 1 (by decide)] at hit
          by_cases e2 : tx (nx tx n a) = 100
          · rw [if_pos e2]
            rw [e2] at hit
            have e38 : q_run 14 38 [(0, .ref m), (1, .int (nI 100))] [.int (nI (T 1))] (hR σ m tr w f) = _ := e_14_38 ..
            rw [if_pos (show nI 100 = nI 100 from rfl)] at e38
            rw [if_neg h40, hit, e38, k_13 hR_0, e_13_0, m_draft hR_0, q_obS, f_rd hR_3 (by decide) (by decide), q_obS, hf 0 (by decide)]
            have hC : ∀ h, R15 m (q_ob (q_cI (some (some (.int (nI 0)), h))) none fun p1 => q_bt (q_okv 4 (.int p1.1)) (some (some (.int p1.1), p1.2)) none) = some (some (.int (nI 0)), h) := fun h => by
              rw [q_cIS, q_obS]
              exact (congrArg (R15 m) (ct_bt false h)).trans (R15_0 h)
            refine an_misn (C := fun o => R15 m (q_ob (q_cI o) none fun p1 => q_bt (q_okv 4 (.int p1.1)) (some (some (.int p1.1), p1.2)) none)) (F := fun p => some (some (.int (nI 0)), p.2)) hM hw (show nx tx n a + 1 ≤ n by omega) d3 (by decide) (by omega) (fun v hv => hiP t0 hv) hC (fun p => rfl) (fun v _ h => h) fun A a1 w1 v1 v2 v3 v4 v5 v6 v7 _ => ⟨fun _ => ?_, fun q => by rw [v2] at q; cases q⟩
            dsimp only
            rw [m_value hR_0, q_obS, v7, m_draft hR_0, q_obS, f_rd hR_3 (by decide) (by decide), q_obS, hf 0 (by decide)]
            refine an_misn (C := fun o => R15 m (q_ob (q_cI o) none fun p1 => q_bt (q_okv 4 (.int p1.1)) (some (some (.int p1.1), p1.2)) none)) (F := fun p => q_run 13 47 [] [] p.2) hM v5 v3 v6 (by decide) (by omega) (fun v hv => hiP t0 hv) hC (fun p => e_13_47 _) (fun v _ h => by
              rw [Bool.and_eq_true] at h
              exact h.1) fun B a2 w2 u1 u2 u3 u4 u5 u6 u7 _ => ⟨fun q => ?_, fun q => ?_⟩
            · have hA := okI_t v2
              have hB := okI_t u2
              have hAB : A ≠ B := fun e => by
                rw [e] at q; simp at q
              dsimp only
              rw [m_value hR_0, q_obS, u7, if_neg (fun q => hAB.symm ((nI_eq (by omega) (by omega)).mp q)), m_draft hR_0, q_obS, nI_add, f_rd hR_3 (by omega) (by decide), q_obS, hf _ (by omega), q_obS, n_orbit (by omega), f_wr hR_3 (by omega) (by decide), q_obS, hR_u3]
              have hf2 := hf.up (15 + A) (T (15 + A) ||| 2 ^ B)
              have h15 : (up T (15 + A) (T (15 + A) ||| 2 ^ B)) (15 + B) = T (15 + B) := up_n _ _ (by omega)
              rw [m_draft hR_0, q_obS, m_value hR_0, q_obS, u7, nI_add, f_rd hR_3 (by omega) (by decide), q_obS, hf2 _ (by omega), h15, n_orbit (by omega), f_wr hR_3 (by omega) (by decide), q_obS, hR_u3, q_cIS, q_obS]
              have hf3 := hf2.up (15 + B) (T (15 + B) ||| 2 ^ A)
              have h03 : (up (up T (15 + A) (T (15 + A) ||| 2 ^ B)) (15 + B) (T (15 + B) ||| 2 ^ A)) 3 = T 3 := by rw [up_n _ _ (by omega), up_n _ _ (by omega)]
              rw [show ∀ h, q_bt (q_okv 4 (.int (nI 1))) (some (some (.int (nI 1)), h)) none = (some (some (.int (nI 1)), h) : Option qR) from fun h => ct_bt true h]
              refine an_mend hM u5 u3 u6 hf3 fun a3 w3 w4 z1 z2 z3 z4 => ?_
              have hf4 := hf3.up 3 (T 3 + 1)
              rw [h03]
              exact ih a3 w3 w4 _ _ (by omega) z1 z3 z4 hf4 (hT.dr hA.2 hB.2 hAB)
            · have hAB : B = A := by
                rw [u2, Bool.true_and] at q
                simpa using q
              dsimp only
              rw [m_value hR_0, q_obS, u7, if_pos (by rw [hAB]), e_13_47]
          · rw [if_neg e2]
            by_cases e3 : tx (nx tx n a) = 102
            · rw [if_pos e3]
              rw [e3] at hit
              have e38 : q_run 14 38 [(0, .ref m), (1, .int (nI 102))] [.int (nI (T 1))] (hR σ m tr w f) = _ := e_14_38 ..
              rw [if_neg (show ¬ nI 102 = nI 100 by decide), if_pos (show nI 102 = nI 102 from rfl)] at e38
              by_cases e4 : T 1 = 5
              · rw [if_pos e4]
                refine bad (s0 := 0) h40 ?_
                rw [hit, e38, if_pos (by rw [e4]), e_14_186]
              · rw [if_neg e4, if_neg h40, hit, e38, if_neg (fun q => e4 ((nI_eq (by omega) (by decide)).mp q)), m_draft hR_0, q_obS, f_rd hR_3 (by decide) (by decide), q_obS, hf 0 (by decide), nI_add, nI_add, nI_add]
                refine an_mnum (C := R15 m) (F := fun p => q_run 14 186 [] [] p.2) hM hw (show nx tx n a + 1 ≤ n by omega) d3 (by omega) (by decide) (by omega) (fun v hv => hiP t0 hv) R15_0 (fun p => e_14_186 _) fun v a1 w1 v1 v2 v3 v4 v5 v6 => ?_
                dsimp only
                refine an_mnum (C := R15 m) (F := fun p => q_run 14 186 [] [] p.2) hM v5 v3 v6 (by omega) (by decide) (by decide) (fun v hv => hiL (by decide) hv) R15_0 (fun p => e_14_186 _) fun u a2 w2 u1 u2 u3 u4 u5 u6 => ?_
                dsimp only
                refine an_mnum (C := R15 m) (F := fun p => q_run 14 186 [] [] p.2) hM u5 u3 u6 (by omega) (by decide) (by decide) (fun v hv => hiL (by decide) hv) R15_0 (fun p => e_14_186 _) fun y a3 w3 y1 y2 y3 y4 y5 y6 => ?_
                dsimp only
                have hf2 := (((hf.up (20 + T 1) v).up (25 + T 1) u).up (30 + T 1) y)
                have h01 : (up (up (up T (20 + T 1) v) (25 + T 1) u) (30 + T 1) y) 1 = T 1 := by rw [up_n _ _ (by omega), up_n _ _ (by omega), up_n _ _ (by omega)]
                rw [m_draft hR_0, q_obS, f_rd hR_3 (by decide) (by decide), q_obS, hf2 1 (by decide), h01, nI_add, f_wr hR_3 (by decide) (by decide), q_obS, hR_u3]
                have hf3 := hf2.up 1 (T 1 + 1)
                have h03 : (up (up (up (up T (20 + T 1) v) (25 + T 1) u) (30 + T 1) y) 1 (T 1 + 1)) 3 = T 3 := by rw [up_n _ _ (by decide), up_n _ _ (by omega), up_n _ _ (by omega), up_n _ _ (by omega)]
                refine an_mend hM y5 y3 y6 hf3 fun a4 w5 w6 z1 z2 z3 z4 => ?_
                have hf4 := hf3.up 3 (T 3 + 1)
                rw [h03]
                exact ih a4 w5 w6 _ _ (by omega) z1 z3 z4 hf4 (hT.fl e4 (okI_t v2).2 (okI_t u2) (okI_t y2).2)
            · rw [if_neg e3]
              have e4 : tx (nx tx n a) = 110 := by have := of_decide_eq_true hwd; omega
              rw [if_pos e4]
              rw [e4] at hit
              have e38 : q_run 14 38 [(0, .ref m), (1, .int (nI 110))] [.int (nI (T 1))] (hR σ m tr w f) = _ := e_14_38 ..
              rw [if_neg (show ¬ nI 110 = nI 100 by decide), if_neg (show ¬ nI 110 = nI 102 by decide), if_pos (show nI 110 = nI 110 from rfl), m_draft hR_0, q_obS, f_rd hR_3 (by decide) (by decide), q_obS, hf 4 (by decide)] at e38
              by_cases e5 : T 4 = 1
              · rw [if_pos e5]
                refine bad (s0 := 0) h40 ?_
                rw [hit, e38, if_pos (by rw [e5])]
              · rw [if_neg e5, if_neg h40, hit, e38, if_neg (fun q => e5 ((nI_eq (by omega) (by decide)).mp q)), q_obS, f_wr hR_3 (by decide) (by decide), q_obS, hR_u3]
                have hf2 := hf.up 4 1
                have ha1 : nx tx n a + 1 ≤ n := by omega
                obtain ⟨i1, i2, -, -⟩ := nx_spec tx ha1
                obtain ⟨w', k1, k2⟩ := m_number (σ := σ) (tr := tr) (f := upI f 4 (nI 1)) hM hw.1 ha1 d3 (lo := 1) (hi := 100) (p := 2) (HI := nI 99) (by decide) (by decide) (by decide) (fun v hv => hiL (by decide) hv)
                obtain ⟨q0, q1, q2⟩ := k1.k hw
                unfold gtN
                rcases k2 with ⟨b1, b3, b4⟩ | ⟨b1, f', b4⟩
                · have hl := (dgB_t b1.1).1
                  obtain ⟨j1, j2, -, -⟩ := de_spec tx (show nx tx n (nx tx n a + 1) + 1 ≤ n by omega)
                  rw [b4, q_cIS, q_obS, if_pos (show dgB tx n (nx tx n (nx tx n a + 1)) = true ∧ tkV tx n (nx tx n (nx tx n a + 1)) < 100 ∧ okI 1 100 (tkV tx n (nx tx n (nx tx n a + 1))) = true from b1)]
                  dsimp only
                  rw [show ∀ h, q_bt (q_okv 4 (.int (nI 1))) (some (some (.int (nI 1)), h)) none = (some (some (.int (nI 1)), h) : Option qR) from fun h => ct_bt true h]
                  have hf3 := hf2.up 2 (tkV tx n (nx tx n (nx tx n a + 1)))
                  have h03 : (up (up T 4 1) 2 (tkV tx n (nx tx n (nx tx n a + 1)))) 3 = T 3 := by rw [up_n _ _ (by decide), up_n _ _ (by decide)]
                  refine an_mend hM ⟨q0, q1, q2⟩ j2 b3 hf3 fun a3 w3 w4 z1 z2 z3 z4 => ?_
                  have hf4 := hf3.up 3 (T 3 + 1)
                  rw [h03]
                  exact ih a3 w3 w4 _ _ (by omega) z1 z3 z4 hf4 (hT.nf (okI_t b1.2.2))
                · rw [b4, q_cIS, q_obS, if_neg (show ¬ (dgB tx n (nx tx n (nx tx n a + 1)) = true ∧ tkV tx n (nx tx n (nx tx n a + 1)) < 100 ∧ okI 1 100 (tkV tx n (nx tx n (nx tx n a + 1))) = true) from b1)]
                  dsimp only
                  rw [show ∀ h, q_bt (q_okv 4 (.int (nI 0))) (some (some (.int (nI 0)), h)) none = (some (some (.int (nI 0)), h) : Option qR) from fun h => ct_bt false h, R15_0]
                  exact ⟨i2, w', f', rfl, q0, q1, q2, k1.2.2.2.1⟩
