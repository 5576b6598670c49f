/-! ===== leaves: packed rows, bits, and the methods that only reckon ===== -/
def pkL (f : Nat → Nat) : Nat := f 0 + 256 * f 1 + 65536 * f 2 + 16777216 * f 3 + 4294967296 * f 4
def pkS (f : Nat → Nat) : Nat := 4096 * f 0 + 512 * f 1 + 64 * f 2 + 8 * f 3 + f 4
def up (f : Nat → Nat) (i v : Nat) : Nat → Nat := fun j => if j = i then v else f j
theorem up_s (f : Nat → Nat) (i v : Nat) : up f i v i = v := if_pos rfl
theorem up_n (f : Nat → Nat) {i j : Nat} (v : Nat) (h : j ≠ i) : up f i v j = f j := if_neg h
theorem i5 {i : Nat} (h : i < 5) : i = 0 ∨ i = 1 ∨ i = 2 ∨ i = 3 ∨ i = 4 := by omega
theorem pkL_lt {f : Nat → Nat} (hf : ∀ i, i < 5 → f i < 256) : pkL f < 1099511627776 := by
  have h0 := hf 0 (by decide); have h1 := hf 1 (by decide); have h2 := hf 2 (by decide); have h3 := hf 3 (by decide); have h4 := hf 4 (by decide)
  unfold pkL; omega
theorem pkS_lt {f : Nat → Nat} (hf : ∀ i, i < 5 → f i < 8) : pkS f < 32768 := by
  have h0 := hf 0 (by decide); have h1 := hf 1 (by decide); have h2 := hf 2 (by decide); have h3 := hf 3 (by decide); have h4 := hf 4 (by decide)
  unfold pkS; omega
theorem pkS_inj {f g : Nat → Nat} (hf : ∀ i, i < 5 → f i < 8) (hg : ∀ i, i < 5 → g i < 8) (h : pkS f = pkS g) : ∀ i, i < 5 → f i = g i := by
  have h0 := hf 0 (by decide); have h1 := hf 1 (by decide); have h2 := hf 2 (by decide); have h3 := hf 3 (by decide); have h4 := hf 4 (by decide)
  have g0 := hg 0 (by decide); have g1 := hg 1 (by decide); have g2 := hg 2 (by decide); have g3 := hg 3 (by decide); have g4 := hg 4 (by decide)
  unfold pkS at h
  intro i hi
  rcases i5 hi with rfl | rfl | rfl | rfl | rfl <;> omega
theorem pkL_congr {f g : Nat → Nat} (h : ∀ i, i < 5 → f i = g i) : pkL f = pkL g := by
  unfold pkL; rw [h 0 (by decide), h 1 (by decide), h 2 (by decide), h 3 (by decide), h 4 (by decide)]
theorem pkS_congr {f g : Nat → Nat} (h : ∀ i, i < 5 → f i = g i) : pkS f = pkS g := by
  unfold pkS; rw [h 0 (by decide), h 1 (by decide), h 2 (by decide), h 3 (by decide), h 4 (by decide)]
theorem c_lane {f : Nat → Nat} (hf : ∀ i, i < 5 → f i < 256) {i : Nat} (hi : i < 5) (σ : qH) : q_call 35 [.long (lN (pkL f)), .int (nI i)] σ = some (some (.int (nI (f i))), σ) := by
  rw [k_35, e_35_0]
  have h0 := hf 0 (by decide); have h1 := hf 1 (by decide); have h2 := hf 2 (by decide); have h3 := hf 3 (by decide); have h4 := hf 4 (by decide)
  have hlt := pkL_lt hf
  rw [pk_mul, wb_shr (by omega) (by omega), lN_i, n_and255]
  have e : pkL f / 2 ^ (8 * i) % 256 = f i := by
    unfold pkL
    rcases i5 hi with rfl | rfl | rfl | rfl | rfl <;> simp only [Nat.mul_zero, Nat.mul_one, Nat.reduceMul, Nat.reducePow] <;> omega
  rw [e]
theorem c_spot {f : Nat → Nat} (hf : ∀ i, i < 5 → f i < 8) {i : Nat} (hi : i < 5) (σ : qH) : q_call 49 [.int (nI (pkS f)), .int (nI i)] σ = some (some (.int (nI (f i))), σ) := by
  rw [k_49, e_49_0]
  have h0 := hf 0 (by decide); have h1 := hf 1 (by decide); have h2 := hf 2 (by decide); have h3 := hf 3 (by decide); have h4 := hf 4 (by decide)
  have hlt := pkS_lt hf
  rw [pk_sub (by omega), pk_mul, n_shr (by omega) (by omega), n_and7]
  have e : pkS f / 2 ^ (3 * (4 - i)) % 8 = f i := by
    unfold pkS
    rcases i5 hi with rfl | rfl | rfl | rfl | rfl <;> simp only [Nat.sub_zero, Nat.reduceSub, Nat.mul_zero, Nat.mul_one, Nat.reduceMul, Nat.reducePow] <;> omega
  rw [e]
theorem c_withSpot {f : Nat → Nat} (hf : ∀ i, i < 5 → f i < 8) {i v : Nat} (hi : i < 5) (hv : v < 8) (σ : qH) : q_call 37 [.int (nI (pkS f)), .int (nI i), .int (nI v)] σ = some (some (.int (nI (pkS (up f i v)))), σ) := by
  rw [k_37, e_37_0]
  have h0 := hf 0 (by decide); have h1 := hf 1 (by decide); have h2 := hf 2 (by decide); have h3 := hf 3 (by decide); have h4 := hf 4 (by decide)
  have hp : 2 ^ (3 * (4 - i)) ≤ 4096 := by rcases i5 hi with rfl | rfl | rfl | rfl | rfl <;> decide
  have e1 : 7 * 2 ^ (3 * (4 - i)) < 2 ^ 32 := by omega
  have e2 : v * 2 ^ (3 * (4 - i)) < 2 ^ 32 := by
    have : v * 2 ^ (3 * (4 - i)) ≤ 7 * 4096 := Nat.mul_le_mul (by omega) hp
    omega
  rw [pk_sub (by omega), pk_mul, n_and7, Nat.mod_eq_of_lt hv, n_shl (by omega) e1, n_shl (by omega) e2, n_not, n_or]
  congr 5
  have key : ∀ {hi' mid lo s : Nat}, mid < 8 → lo < 2 ^ s → 2 ^ (s + 3) * hi' + (2 ^ s * mid + lo) < 2 ^ 32 → (2 ^ (s + 3) * hi' + (2 ^ s * mid + lo)) &&& ((7 * 2 ^ s) ^^^ 4294967295) ||| v * 2 ^ s = 2 ^ (s + 3) * hi' + (2 ^ s * v + lo) := by
    intro hi' mid lo s hm hl hw
    have := n_clr (k := 3) (w := 32) hm hl hw
    rw [show (2 : Nat) ^ 3 - 1 = 7 from rfl, show (2 : Nat) ^ 32 - 1 = 4294967295 from rfl, Nat.mul_comm (2 ^ s) 7] at this
    rw [this, Nat.mul_comm v, n_put hv hl]
  unfold pkS
  rcases i5 hi with rfl | rfl | rfl | rfl | rfl <;> simp only [up, Nat.sub_zero, Nat.reduceSub, Nat.mul_zero, Nat.mul_one, Nat.reduceMul, Nat.reduceEqDiff, if_true, if_false, Nat.zero_ne_one, Nat.one_ne_zero, reduceIte]
  · have := key (hi' := 0) (mid := f 0) (lo := 512 * f 1 + 64 * f 2 + 8 * f 3 + f 4) (s := 12) h0 (by omega) (by omega)
    simp only [Nat.mul_zero, Nat.zero_add, Nat.reducePow, Nat.reduceMul, Nat.reduceAdd] at this ⊢
    rw [show 4096 * f 0 + 512 * f 1 + 64 * f 2 + 8 * f 3 + f 4 = 4096 * f 0 + (512 * f 1 + 64 * f 2 + 8 * f 3 + f 4) by omega, this]; omega
  · have := key (hi' := f 0) (mid := f 1) (lo := 64 * f 2 + 8 * f 3 + f 4) (s := 9) h1 (by omega) (by omega)
    simp only [Nat.reducePow, Nat.reduceMul, Nat.reduceAdd] at this ⊢
    rw [show 4096 * f 0 + 512 * f 1 + 64 * f 2 + 8 * f 3 + f 4 = 4096 * f 0 + (512 * f 1 + (64 * f 2 + 8 * f 3 + f 4)) by omega, this]; omega
  · have := key (hi' := 8 * f 0 + f 1) (mid := f 2) (lo := 8 * f 3 + f 4) (s := 6) h2 (by omega) (by omega)
    simp only [Nat.reducePow, Nat.reduceMul, Nat.reduceAdd] at this ⊢
    rw [show 4096 * f 0 + 512 * f 1 + 64 * f 2 + 8 * f 3 + f 4 = 512 * (8 * f 0 + f 1) + (64 * f 2 + (8 * f 3 + f 4)) by omega, this]; omega
  · have := key (hi' := 64 * f 0 + 8 * f 1 + f 2) (mid := f 3) (lo := f 4) (s := 3) h3 (by omega) (by omega)
    simp only [Nat.reducePow, Nat.reduceMul, Nat.reduceAdd] at this ⊢
    rw [show 4096 * f 0 + 512 * f 1 + 64 * f 2 + 8 * f 3 + f 4 = 64 * (64 * f 0 + 8 * f 1 + f 2) + (8 * f 3 + f 4) by omega, this]; omega
  · have := key (hi' := 512 * f 0 + 64 * f 1 + 8 * f 2 + f 3) (mid := f 4) (lo := 0) (s := 0) h4 (by omega) (by omega)
    simp only [Nat.reducePow, Nat.reduceMul, Nat.reduceAdd, Nat.pow_zero, Nat.one_mul, Nat.add_zero, Nat.mul_one, Nat.zero_add] at this ⊢
    rw [show 4096 * f 0 + 512 * f 1 + 64 * f 2 + 8 * f 3 + f 4 = 8 * (512 * f 0 + 64 * f 1 + 8 * f 2 + f 3) + f 4 by omega, this]; omega
