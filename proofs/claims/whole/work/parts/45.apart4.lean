/-! ===== apart: the search as a count of all ways ===== -/
def digz (R F i : Nat) : Nat → Nat := fun g => if g < F then i / R ^ (F - 1 - g) % R else 0
def goodB (T Q : Nat → Nat) (f : Nat) : Bool := allB (fun g => mayJ T Q g (Q g)) 0 f
def stepO (T : Nat → Nat) (R F i : Nat) (b : Option (Nat → Nat)) : Option (Nat → Nat) := if goodB T (digz R F i) F = true ∧ ones (tk (digz R F i) F) < prR F b then some (digz R F i) else b
def refO (T : Nat → Nat) (R F lo : Nat) (b : Option (Nat → Nat)) : Nat → Option (Nat → Nat)
  | 0 => b
  | n + 1 => stepO T R F (lo + n) (refO T R F lo b n)
theorem refO_add (T : Nat → Nat) (R F lo m : Nat) (b : Option (Nat → Nat)) : ∀ n, refO T R F lo b (m + n) = refO T R F (lo + m) (refO T R F lo b m) n
  | 0 => rfl
  | n + 1 => by
    show stepO T R F (lo + (m + n)) (refO T R F lo b (m + n)) = stepO T R F (lo + m + n) _
    rw [refO_add T R F lo m b n, Nat.add_assoc]
theorem load_congr {Q Q2 : Nat → Nat} {f r : Nat} (h : ∀ g, g < f → Q g = Q2 g) : load Q f r = load Q2 f r := cnt_congr fun g hg => by rw [h g hg]
theorem allB_congr {c e : Nat → Bool} : ∀ d i, (∀ j, i ≤ j → j < i + d → c j = e j) → allB c i d = allB e i d
  | 0, _, _ => rfl
  | d + 1, i, h => by
    show (c i && allB c (i + 1) d) = (e i && allB e (i + 1) d)
    rw [h i (Nat.le_refl _) (by omega), allB_congr d (i + 1) fun j h1 h2 => h j (by omega) (by omega)]
theorem mayJ_congr {T Q Q2 : Nat → Nat} {f r : Nat} (h : ∀ g, g < f → Q g = Q2 g) : mayJ T Q f r = mayJ T Q2 f r := by
  unfold mayJ
  rw [load_congr h, allB_congr (c := stuf T Q f r) (e := stuf T Q2 f r) f 0 fun g _ hg => by unfold stuf; rw [h g (by omega)]]
theorem good_s (T Q : Nat → Nat) (f r : Nat) : goodB T (up Q f r) (f + 1) = (goodB T Q f && mayJ T Q f r) := by
  unfold goodB
  rw [allB_s, Nat.zero_add, up_s, mayJ_congr (Q := up Q f r) (Q2 := Q) fun g hg => up_n _ _ (by omega)]
  congr 1
  exact allB_congr _ _ fun g _ hg => by rw [up_n _ _ (by omega), mayJ_congr (Q := up Q f r) (Q2 := Q) fun g' hg' => up_n _ _ (by omega)]
theorem tree_ref {T : Nat → Nat} {R F : Nat} (hR : R = T 0) (hR0 : 0 < R ∨ F = 0) : ∀ d f Q a b, f + d = F → (∀ g, g < f → Q g = a / R ^ (f - 1 - g) % R) → (∀ g, f ≤ g → Q g = 0) → refO T R F (a * R ^ d) b (R ^ d) = if goodB T Q f = true then trO T F d f Q b else b
  | 0, f, Q, a, b, hf, h1, h2 => by
    have e : f = F := by omega
    subst e
    have eq : digz R f a = Q := by
      funext g
      unfold digz
      by_cases hg : g < f
      · rw [if_pos hg, h1 g hg]
      · rw [if_neg hg, h2 g (by omega)]
    show stepO T R f (a * 1 + 0) b = _
    rw [Nat.mul_one, Nat.add_zero]
    unfold stepO trO
    rw [eq]
    by_cases g : goodB T Q f = true
    · rw [if_pos g]
      by_cases g2 : ones (tk Q f) < prR f b
      · rw [if_pos ⟨g, g2⟩, if_pos g2]
      · rw [if_neg (fun q => g2 q.2), if_neg g2]
    · rw [if_neg g, if_neg (fun q => g q.1)]
  | d + 1, f, Q, a, b, hf, h1, h2 => by
    have hRp : 0 < R := hR0.resolve_right (by omega)
    have blk : ∀ n, n ≤ R → refO T R F (a * R ^ (d + 1)) b (n * R ^ d) = if goodB T Q f = true then foldO (mayJ T Q f) (fun r c => trO T F d (f + 1) (up Q f r) c) b n else b := by
      intro n
      induction n with
      | zero => intro _; rw [Nat.zero_mul]; show b = if _ then b else b; split <;> rfl
      | succ n ih =>
        intro hn
        rw [Nat.succ_mul, refO_add, ih (by omega)]
        have ea : a * R ^ (d + 1) + n * R ^ d = (a * R + n) * R ^ d := by rw [Nat.pow_succ, Nat.add_mul, Nat.mul_assoc, Nat.mul_comm R (R ^ d)]
        rw [ea, tree_ref hR hR0 d (f + 1) (up Q f n) (a * R + n) _ (by omega) (fun g hg => ?_) (fun g hg => by rw [up_n _ _ (by omega)]; exact h2 g (by omega)), good_s]
        · cases goodB T Q f with
          | false => rfl
          | true =>
            rw [Bool.true_and, if_pos rfl, if_pos rfl]
            rfl
        · by_cases e : g = f
          · subst e
            rw [up_s, show g + 1 - 1 - g = 0 by omega, Nat.pow_zero, Nat.div_one, Nat.add_comm, Nat.add_mul_mod_self_right, Nat.mod_eq_of_lt (by omega)]
          · rw [up_n _ _ e, h1 g (by omega), show f + 1 - 1 - g = (f - 1 - g) + 1 by omega, Nat.pow_succ, Nat.mul_comm (R ^ (f - 1 - g)) R, ← Nat.div_div_eq_div_mul, Nat.add_comm (a * R) n, Nat.add_mul_div_right _ _ hRp, Nat.div_eq_of_lt (show n < R by omega), Nat.zero_add]
    have := blk R (Nat.le_refl _)
    rw [show R ^ (d + 1) = R * R ^ d from by rw [Nat.pow_succ, Nat.mul_comm]] at this ⊢
    rw [this]
    subst hR
    rfl
