/-! ===== the reference: rooms, the way on, a step ===== -/
theorem n1 : nI 0 - nI 1 < nI 0 := by decide
theorem pm1 (n : Nat) : nI (n + 1) - nI 1 = nI n := by rw [pk_sub (by omega)]; rfl
theorem n_pm (x : Int32) : x + (-1 : Int32) = x - nI 1 := by
  rw [Int32.sub_eq_add_neg]
  rfl
theorem m_inRoom {σ : qH} {m : Nat} {tr : Int64} {z : Nat → Int32} {T P : Nat → Nat} (h0 : σ.1 m = some (mC m tr z)) (h2 : σ.1 (m + 2) = some (iA 35 T)) (h4 : σ.1 (m + 4) = some (iA 22 P)) (hT : T 1 ≤ 5) (hP : ∀ f, f < 5 → P f < 8) {r : Nat} (hr : r < 2 ^ 31) :
    q_call 62 [.ref m, .int (nI r)] σ = some (some (.int (nI (inR T P r))), σ) := by
  rw [k_62 h0, e_62_0]
  refine (q_for (fun i => q_run 62 4 [(0, .ref m), (1, .int (nI r)), (2, .int (nI (bits (fun f => P f == r) i))), (3, .int (nI i))] [] σ) (T 1) (fun i hi => ?_)).trans ?_
  · rw [e_62_4, m_told h0, q_obS, a_rd h2 (by decide) (by decide), q_obS, if_neg (nI_ge hi (by omega)), m_s h0, q_obS, a_rd h4 (by omega) (by decide), q_obS, e_62_32, e_62_32, nI_add]
    have hPi := hP i (by omega)
    by_cases hc : P i = r
    · have hb : (P i == r) = true := by simpa using hc
      rw [if_pos (by rw [hc]), n_shl (by omega) (by have := Nat.pow_le_pow_right (show 0 < 2 by decide) (show i ≤ 5 by omega); omega), Nat.one_mul, n_or, bits_t (c := fun f => P f == r) hb]
    · have hb : (P i == r) = false := by simpa using hc
      rw [if_neg (fun q => hc ((nI_eq (by omega) hr).mp q)), n_or, Nat.or_zero, bits_f (c := fun f => P f == r) hb]
  · rw [e_62_4, m_told h0, q_obS, a_rd h2 (by decide) (by decide), q_obS, if_pos (nI_le (Nat.le_refl _) (by omega))]
    rfl
theorem m_beyond {σ : qH} {m : Nat} {tr : Int64} {z : Nat → Int32} {T P : Nat → Nat} (h0 : σ.1 m = some (mC m tr z)) (h2 : σ.1 (m + 2) = some (iA 35 T)) (h4 : σ.1 (m + 4) = some (iA 22 P)) (hT : WT T) (hP : WP T P) {r : Nat} (hr : r < 5) (b : Bool) :
    q_call 66 [.ref m, .int (nI r), .int (nI b.toNat)] σ = some (some (.int (optI (bey T P r b))), σ) := by
  obtain ⟨t0, t1, t2, t5, t6, t7, t8, t9⟩ := id hT
  obtain ⟨p0, p1, p5, p6, p7, p8⟩ := id hP
  have hP20 : P 20 < 2 ^ 31 := Nat.lt_of_lt_of_le p7 (Nat.le_trans (pow_le5 t0) (by decide))
  have hTd : T (15 + r) < 2 ^ 31 := Nat.lt_of_lt_of_le (t5 r hr).2.2.1 (Nat.le_trans (pow_le5 t0) (by decide))
  have hin : ∀ q, q < 2 ^ 31 → q_call 62 [.ref m, .int (nI q)] σ = some (some (.int (nI (inR T P q))), σ) := fun q hq => m_inRoom h0 h2 h4 t1 (hP.p8 hT) hq
  have step : ∀ i, i < T 0 → ∀ found : Int32, q_run 66 13 [(0, .ref m), (1, .int (nI r)), (2, .int (nI b.toNat)), (3, .int found), (4, .int (nI (i + 1) - nI 1))] [] σ = q_run 66 13 [(0, .ref m), (1, .int (nI r)), (2, .int (nI b.toNat)), (3, .int (if cand T P r b i = true then nI i else found)), (4, .int (nI i - nI 1))] [] σ := by
    intro i hi found
    have hi5 : i < 5 := by omega
    have hones : ones (inR T P i) ≤ 5 := cnt_le _ 5
    have ht5 := (t5 i hi5).1
    have hp15 := (p5 i hi5).2.2
    rw [pm1, e_66_13, if_neg (show ¬ nI i < nI 0 from nI_pos (by omega)), m_told h0, q_obS, nI_add, a_rd h2 (by omega) (by decide), q_obS, m_has hTd (by omega), q_cIS, q_obS]
    have hx : ∀ s : Int32, q_run 66 106 [(0, .ref m), (1, .int (nI r)), (2, .int (nI b.toNat)), (4, .int (nI i))] [.int s] σ = q_run 66 13 [(0, .ref m), (1, .int (nI r)), (2, .int (nI b.toNat)), (3, .int s), (4, .int (nI i - nI 1))] [] σ := by
      intro s
      rw [e_66_106, n_pm]
    cases hd : (T (15 + r)).testBit i with
    | false =>
      dsimp only
      rw [if_pos (show nI (false.toNat) = nI 0 from rfl), e_66_75, e_66_76, if_pos rfl, e_66_105, hx]
      simp [cand, hd]
    | true =>
      dsimp only
      rw [if_neg (show ¬ nI (true.toNat) = nI 0 by decide), m_s h0, q_obS, a_rd h4 (by decide) (by decide), q_obS, m_has hP20 (by omega), q_cIS, q_obS]
      cases hg : (P 20).testBit i with
      | true =>
        dsimp only
        rw [if_neg (show ¬ nI (true.toNat) = nI 0 by decide), e_66_75, e_66_76, if_pos rfl, e_66_105, hx]
        simp [cand, opn, hg]
      | false =>
        dsimp only
        rw [if_pos (show nI (false.toNat) = nI 0 from rfl), hin i (by omega), q_cIS, q_obS]
        dsimp only
        rw [m_ones (Nat.lt_of_lt_of_le (inR_lt hT i) (by decide)), q_cIS, q_obS]
        dsimp only
        rw [m_told h0, q_obS, nI_add, a_rd h2 (by omega) (by decide), q_obS]
        by_cases ho : T (5 + i) ≤ ones (inR T P i)
        · rw [if_pos (nI_le ho (by omega)), e_66_75, e_66_76, if_pos rfl, e_66_105, hx]
          simp [cand, opn, hg, Nat.not_lt.mpr ho]
        · rw [if_neg (fun q => ho ((nI_leI (by omega) (by omega)).mp q)), e_66_76, if_neg (by decide)]
          have ho2 : ones (inR T P i) < T (5 + i) := Nat.not_le.mp ho
          cases b with
          | false =>
            rw [if_pos (show nI (false.toNat) = nI 0 from rfl), e_66_100, hx]
            simp [cand, opn, hg, hd, ho2]
          | true =>
            rw [if_neg (show ¬ nI (true.toNat) = nI 0 by decide), m_s h0, q_obS, nI_add, a_rd h4 (by omega) (by decide), q_obS]
            by_cases hc : P (15 + i) ≤ 0
            · rw [if_pos (nI_le hc (by omega)), e_66_105, hx]
              simp [cand, Nat.le_zero.mp hc]
            · rw [if_neg (fun q => hc ((nI_leI (by omega) (by omega)).mp q)), e_66_100, hx]
              simp [cand, opn, hg, hd, ho2, Nat.pos_of_ne_zero (fun q => hc (Nat.le_of_eq q))]
  rw [k_66 h0, e_66_0, m_told h0, q_obS, a_rd h2 (by decide) (by decide), q_obS]
  have all : ∀ d i, i + d = T 0 → q_run 66 13 [(0, .ref m), (1, .int (nI r)), (2, .int (nI b.toNat)), (3, .int (optI (lowF (cand T P r b) (i + d) 0))), (4, .int (nI (i + d) - nI 1))] [] σ = q_run 66 13 [(0, .ref m), (1, .int (nI r)), (2, .int (nI b.toNat)), (3, .int (optI (lowF (cand T P r b) i d))), (4, .int (nI i - nI 1))] [] σ := by
    intro d
    induction d with
    | zero => intro i _; rfl
    | succ d ih =>
      intro i hi
      have e1 := ih (i + 1) (by omega)
      have e2 := step i (by omega) (optI (lowF (cand T P r b) (i + 1) d))
      rw [show i + (d + 1) = i + 1 + d by omega]
      refine Eq.trans e1 (Eq.trans e2 ?_)
      congr 7
      show (if cand T P r b i = true then nI i else optI (lowF (cand T P r b) (i + 1) d)) = optI (if cand T P r b i then some i else lowF (cand T P r b) (i + 1) d)
      cases cand T P r b i <;> rfl
  have e0 := all (T 0) 0 (by omega)
  rw [Nat.zero_add] at e0
  refine Eq.trans e0 ?_
  rw [e_66_13, if_pos n1]
  rfl
