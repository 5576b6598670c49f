/-! ===== apart: the reference's answer ===== -/
theorem tkd_tb (Q : Nat → Nat) (F r : Nat) : ∀ k, k ≤ F → ((tkd Q F k).testBit r = true ↔ ∃ g, g < F ∧ F ≤ g + k ∧ Q g = r)
  | 0, _ => ⟨fun h => by simp [tkd] at h, fun ⟨g, h1, h2, _⟩ => by omega⟩
  | k + 1, hk => by
    show (tkd Q F k ||| 2 ^ Q (F - 1 - k)).testBit r = true ↔ _
    rw [Nat.testBit_or, Bool.or_eq_true, tkd_tb Q F r k (by omega), Nat.testBit_two_pow, decide_eq_true_iff]
    constructor
    · rintro (⟨g, h1, h2, h3⟩ | h)
      · exact ⟨g, h1, by omega, h3⟩
      · exact ⟨F - 1 - k, by omega, by omega, h⟩
    · rintro ⟨g, h1, h2, h3⟩
      by_cases e : g = F - 1 - k
      · right; rw [← e]; exact h3
      · left; exact ⟨g, h1, by omega, h3⟩
theorem tk_tb (Q : Nat → Nat) (r : Nat) : ∀ f, (tk Q f).testBit r = true ↔ ∃ g, g < f ∧ Q g = r
  | 0 => ⟨fun h => by simp [tk] at h, fun ⟨g, h1, _⟩ => by omega⟩
  | f + 1 => by
    show (tk Q f ||| 2 ^ Q f).testBit r = true ↔ _
    rw [Nat.testBit_or, Bool.or_eq_true, tk_tb Q r f, Nat.testBit_two_pow, decide_eq_true_iff]
    constructor
    · rintro (⟨g, h1, h2⟩ | h)
      · exact ⟨g, by omega, h2⟩
      · exact ⟨f, by omega, h⟩
    · rintro ⟨g, h1, h2⟩
      by_cases e : g = f
      · right; rw [← e]; exact h2
      · left; exact ⟨g, by omega, h2⟩
theorem tkd_tk (Q : Nat → Nat) (F : Nat) : tkd Q F F = tk Q F := by
  apply Nat.eq_of_testBit_eq
  intro r
  apply Bool.eq_iff_iff.mpr
  rw [tkd_tb Q F r F (Nat.le_refl _), tk_tb]
  exact ⟨fun ⟨g, h1, _, h3⟩ => ⟨g, h1, h3⟩, fun ⟨g, h1, h3⟩ => ⟨g, h1, by omega, h3⟩⟩
theorem refC_congr {T Q Q2 : Nat → Nat} {F f : Nat} (hf : f < F) (h : ∀ g, g < F → Q g = Q2 g) : refC T Q F f = refC T Q2 F f := by
  unfold refC
  rw [h f hf, load_congr h, allB_congr (c := fun g => !(Q g == Q2 f) || T (30 + g) == T (30 + f)) (e := fun g => !(Q2 g == Q2 f) || T (30 + g) == T (30 + f)) f 0 fun g _ hg => by rw [h g (by omega)]]
theorem refG_congr {T Q Q2 : Nat → Nat} {F : Nat} (h : ∀ g, g < F → Q g = Q2 g) : refG T Q F = refG T Q2 F := allB_congr _ _ fun f _ hf => refC_congr (by omega) h
theorem lay_P0 {P Q : Nat → Nat} (hP : ∀ j, 22 ≤ j → P j = 0) (hQ : ∀ j, 22 ≤ j → Q j = 0) : lay (fun j => nI (P j)) 0 22 (fun k => nI (Q k)) = fun j => nI (Q j) := by
  funext j
  unfold lay
  by_cases h : j < 22
  · rw [if_pos (by omega)]; rfl
  · rw [if_neg (by omega)]
    show nI (P j) = nI (Q j)
    rw [hP j (by omega), hQ j (by omega)]
