/-! ===== apart: what the reference asks of a way ===== -/
theorem allB_iff {c : Nat → Bool} : ∀ n, allB c 0 n = true ↔ ∀ i, i < n → c i = true
  | 0 => ⟨fun _ i hi => absurd hi (Nat.not_lt_zero _), fun _ => rfl⟩
  | n + 1 => by
    rw [allB_s, Nat.zero_add, Bool.and_eq_true, allB_iff n]
    constructor
    · rintro ⟨h1, h2⟩ i hi
      by_cases e : i = n
      · rw [e]; exact h2
      · exact h1 i (by omega)
    · intro h
      exact ⟨fun i hi => h i (by omega), h n (by omega)⟩
def refC (T Q : Nat → Nat) (F f : Nat) : Bool := decide (load Q F (Q f) ≤ T (5 + Q f)) && allB (fun g => !(Q g == Q f) || T (30 + g) == T (30 + f)) 0 f
def refG (T Q : Nat → Nat) (F : Nat) : Bool := allB (refC T Q F) 0 F
theorem load_s (Q : Nat → Nat) (f r : Nat) : load Q (f + 1) r = load Q f r + (Q f == r).toNat := rfl
theorem load_mono {Q : Nat → Nat} {r a : Nat} : ∀ n, load Q a r ≤ load Q (a + n) r
  | 0 => Nat.le_refl _
  | n + 1 => Nat.le_trans (load_mono n) (by show _ ≤ load Q (a + n) r + _; omega)
theorem refG_good (T Q : Nat → Nat) (F : Nat) : refG T Q F = goodB T Q F := by
  have key : (∀ f, f < F → load Q f (Q f) < T (5 + Q f)) ↔ ∀ f, f < F → load Q F (Q f) ≤ T (5 + Q f) := by
    constructor
    · intro h
      have : ∀ n, n ≤ F → ∀ r, (∃ f, f < n ∧ Q f = r) → load Q n r ≤ T (5 + r) := by
        intro n
        induction n with
        | zero => rintro _ r ⟨f, hf, -⟩; omega
        | succ n ih =>
          rintro hn r ⟨f, hf, e⟩
          rw [load_s]
          by_cases g : Q n = r
          · have := h n (by omega)
            rw [g] at this
            have hb : (Q n == r) = true := by simpa using g
            rw [hb]; show load Q n r + 1 ≤ _; omega
          · have hb : (Q n == r) = false := by simpa using g
            rw [hb]
            refine ih (by omega) r ⟨f, ?_, e⟩
            by_cases e2 : f = n
            · rw [e2] at e; exact absurd e g
            · omega
      exact fun f hf => this F (Nat.le_refl _) _ ⟨f, hf, rfl⟩
    · intro h f hf
      have h1 := h f hf
      have h2 := load_mono (Q := Q) (r := Q f) (a := f + 1) (F - (f + 1))
      rw [show f + 1 + (F - (f + 1)) = F by omega, load_s, show (Q f == Q f) = true by simp] at h2
      have h3 : load Q f (Q f) + 1 ≤ load Q F (Q f) := h2
      omega
  apply Bool.eq_iff_iff.mpr
  unfold refG goodB
  rw [allB_iff, allB_iff]
  unfold refC mayJ stuf
  constructor
  · intro h f hf
    have hk := key.mpr fun f hf => by
      have := h f hf
      rw [Bool.and_eq_true] at this
      exact of_decide_eq_true this.1
    have := h f hf
    rw [Bool.and_eq_true] at this ⊢
    exact ⟨this.2, decide_eq_true (hk f hf)⟩
  · intro h f hf
    have hk := key.mp fun f hf => by
      have := h f hf
      rw [Bool.and_eq_true] at this
      exact of_decide_eq_true this.2
    have := h f hf
    rw [Bool.and_eq_true] at this ⊢
    exact ⟨decide_eq_true (hk f hf), this.1⟩
