/-! ===== apart: the reference's answer ===== -/
theorem tkd_tb (Q : Nat → Nat) (F r : Nat) : ∀ k, k ≤ F → ((tkd Q F k).testBit r = true ↔ ∃ g, g < F ∧ F ≤ g + k ∧ Q g = r)
  | 0, _ => ⟨fun h => by simp [tkd] at h, fun ⟨g, h1, h2, _⟩ => by omega⟩
  | k + 1, hk => by
    show (tkd Q F k ||| 2 ^ Q (F - 1 - k)).testBit r = true ↔ _
    rw [Nat.testBit_or, Bool.or_eq_true, tkd_tb Q F r k (by omega), Nat.testBit_two_pow, decide_eq_true_iff]
    constructor
    · rintro (⟨g, h1, h2, h3⟩ | h)
      · exact ⟨g, h1, by omega, h3⟩
      · exact ⟨F - 1 - k, by omega, by omega, h⟩
    · rintro ⟨g, h1, h2, h3⟩
      by_cases e : g = F - 1 - k
      · right; rw [← e]; exact h3
      · left; exact ⟨g, h1, by omega, h3⟩
theorem tk_tb (Q : Nat → Nat) (r : Nat) : ∀ f, (tk Q f).testBit r = true ↔ ∃ g, g < f ∧ Q g = r
  | 0 => ⟨fun h => by simp [tk] at h, fun ⟨g, h1, _⟩ => by omega⟩
  | f + 1 => by
    show (tk Q f ||| 2 ^ Q f).testBit r = true ↔ _
    rw [Nat.testBit_or, Bool.or_eq_true, tk_tb Q r f, Nat.testBit_two_pow, decide_eq_true_iff]
    constructor
    · rintro (⟨g, h1, h2⟩ | h)
      · exact ⟨g, by omega, h2⟩
      · exact ⟨f, by omega, h⟩
    · rintro ⟨g, h1, h2⟩
      by_cases e : g = f
      · right; rw [← e]; exact h2
      · left; exact ⟨g, by omega, h2⟩
theorem tkd_tk (Q : Nat → Nat) (F : Nat) : tkd Q F F = tk Q F := by
  apply Nat.eq_of_testBit_eq
  intro r
  apply Bool.eq_iff_iff.mpr
  rw [tkd_tb Q F r F (Nat.le_refl _), tk_tb]
  exact ⟨fun ⟨g, h1, _, h3⟩ => ⟨g, h1, h3⟩, fun ⟨g, h1, h3⟩ => ⟨g, h1, by omega, h3⟩⟩
theorem refC_congr {T Q Q2 : Nat → Nat} {F f : Nat} (hf : f < F) (h : ∀ g, g < F → Q g = Q2 g) : refC T Q F f = refC T Q2 F f := by
  unfold refC
  rw [h f hf, load_congr h, allB_congr (c := fun g => !(Q g == Q2 f) || T (30 + g) == T (30 + f)) (e := fun g => !(Q2 g == Q2 f) || T (30 + g) == T (30 + f)) f 0 fun g _ hg => by rw [h g (by omega)]]
theorem refG_congr {T Q Q2 : Nat → Nat} {F : Nat} (h : ∀ g, g < F → Q g = Q2 g) : refG T Q F = refG T Q2 F := allB_congr _ _ fun f _ hf => refC_congr (by omega) h
theorem lay_P0 {P Q : Nat → Nat} (hP : ∀ j, 22 ≤ j → P j = 0) (hQ : ∀ j, 22 ≤ j → Q j = 0) : lay (fun j => nI (P j)) 0 22 (fun k => nI (Q k)) = fun j => nI (Q j) := by
  funext j
  unfold lay
  by_cases h : j < 22
  · rw [if_pos (by omega)]; rfl
  · rw [if_neg (by omega)]
    show nI (P j) = nI (Q j)
    rw [hP j (by omega), hQ j (by omega)]
def x2V (F : Nat) : Option (Nat → Nat) → Int32
  | none => -9
  | some Q => nI (ones (tk Q F))
def x3V (f : Int32) : Option (Nat → Nat) → Int32
  | none => -9
  | some Q => if nI 0 ≤ f then nI (Q f.toNatClampNeg) else -9
theorem m_better {σ : qH} {m : Nat} {tr : Int64} {z : Nat → Int32} {T S D : Nat → Nat} (h0 : σ.1 m = some (mC m tr z)) (h2 : σ.1 (m + 2) = some (iA 35 T)) (h4 : σ.1 (m + 4) = some (iA 22 S)) (t1 : T 1 ≤ 5) (hD : ∀ j, j < T 1 → S j = D j) (hD5 : ∀ j, j < T 1 → D j < 5) {f : Int32} (hf : f = -1 ∨ ∃ j, j < T 1 ∧ f = nI j) (x4 : Int32) (i : Nat) (B : Option (Nat → Nat)) (g : Bool) :
    q_run 122 144 [(0, .ref m), (1, .int f), (2, .int (x2V (T 1) B)), (3, .int (x3V f B)), (4, .int x4), (5, .int (nI i)), (7, .int (nI (tk D (T 1)))), (8, .int (nI g.toNat)), (9, .int (nI (T 1)))] [] σ = q_run 122 62 [(0, .ref m), (1, .int f), (2, .int (x2V (T 1) (if g = true ∧ ones (tk D (T 1)) < prR (T 1) B then some D else B))), (3, .int (x3V f (if g = true ∧ ones (tk D (T 1)) < prR (T 1) B then some D else B))), (4, .int x4), (5, .int (nI (i + 1)))] [] σ := by
  have hlt : tk D (T 1) < 32 := tk_lt (n := 5) _ hD5
  have h1 := ones_le (tk D (T 1))
  have e292 : q_run 122 292 [(0, .ref m), (1, .int f), (4, .int x4), (5, .int (nI i)), (7, .int (nI (tk D (T 1))))] [] σ = q_run 122 62 [(0, .ref m), (1, .int f), (2, .int (x2V (T 1) (some D))), (3, .int (x3V f (some D))), (4, .int x4), (5, .int (nI (i + 1)))] [] σ := by
    rw [e_122_292, m_ones (by omega), q_cIS, q_obS]
    dsimp only
    rcases hf with rfl | ⟨j, hj, rfl⟩
    · rw [if_neg (by decide), e_122_313, e_122_314, nI_add]; rfl
    · rw [if_pos (nI_le (Nat.zero_le _) (by omega)), m_s h0, q_obS, a_rd h4 (by omega) (by decide), q_obS, e_122_313, e_122_314, nI_add, hD j hj]
      show _ = q_run 122 62 [(0, .ref m), (1, .int (nI j)), (2, .int (nI (ones (tk D (T 1))))), (3, .int (if nI 0 ≤ nI j then nI (D (nI j).toNatClampNeg) else -9)), (4, .int x4), (5, .int (nI (i + 1)))] [] σ
      rw [if_pos (nI_le (Nat.zero_le _) (by omega)), nI_clamp (by omega)]
  rw [e_122_144, m_told h0, q_obS, a_rd h2 (by decide) (by decide), q_obS, if_pos (nI_le (Nat.le_refl _) (by omega))]
  cases g with
  | false => rw [if_pos (show nI (false.toNat) = nI 0 from rfl), e_122_314, nI_add, if_neg (fun q => absurd q.1 (by decide))]
  | true =>
    rw [if_neg (show ¬ nI (true.toNat) = nI 0 by decide)]
    cases B with
    | none => rw [if_pos (show x2V (T 1) none = (-9 : Int32) from rfl), e292, if_pos ⟨rfl, by show _ < 6; omega⟩]
    | some Q =>
      have h3 := ones_le (tk Q (T 1))
      rw [show x2V (T 1) (some Q) = nI (ones (tk Q (T 1))) from rfl, if_neg (n_m9 (by omega)), m_ones (by omega), q_cIS, q_obS]
      dsimp only
      by_cases g2 : ones (tk D (T 1)) < ones (tk Q (T 1))
      · rw [if_neg (nI_ge g2 (by omega)), e292, if_pos ⟨rfl, g2⟩]
      · rw [if_pos (nI_le (by omega) (by omega)), e_122_314, nI_add, if_neg (fun q => g2 q.2)]; rfl
