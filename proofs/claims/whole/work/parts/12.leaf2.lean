/-! ===== more leaves; loops ===== -/
theorem q_for (Rn : Nat → Option qR) (n : Nat) (h : ∀ i, i < n → Rn i = Rn (i + 1)) : Rn 0 = Rn n := by
  induction n with
  | zero => rfl
  | succ n ih => rw [ih (fun i hi => h i (by omega)), h n (by omega)]
theorem l_and (a b : Nat) : lN a &&& lN b = lN (a &&& b) := by
  apply Int64.toBitVec_inj.1
  show BitVec.ofNat 64 a &&& BitVec.ofNat 64 b = BitVec.ofNat 64 (a &&& b)
  apply BitVec.eq_of_getLsbD_eq
  intro i hi
  simp [hi]
theorem l_or (a b : Nat) : lN a ||| lN b = lN (a ||| b) := by
  apply Int64.toBitVec_inj.1
  show BitVec.ofNat 64 a ||| BitVec.ofNat 64 b = BitVec.ofNat 64 (a ||| b)
  apply BitVec.eq_of_getLsbD_eq
  intro i hi
  simp [hi]
theorem l_xor (a b : Nat) : lN a ^^^ lN b = lN (a ^^^ b) := by
  apply Int64.toBitVec_inj.1
  show BitVec.ofNat 64 a ^^^ BitVec.ofNat 64 b = BitVec.ofNat 64 (a ^^^ b)
  apply BitVec.eq_of_getLsbD_eq
  intro i hi
  simp [hi]
theorem l_m1 : (-1 : Int64) = lN 18446744073709551615 := by decide +kernel
theorem l_not (a b : Nat) : lN a &&& (lN b ^^^ (-1)) = lN (a &&& (b ^^^ 18446744073709551615)) := by rw [l_m1, l_xor, l_and]
theorem c_withLane {f : Nat → Nat} (hf : ∀ i, i < 5 → f i < 256) {i v : Nat} (hi : i < 5) (hv : v < 256) (σ : qH) : q_call 33 [.long (lN (pkL f)), .int (nI i), .int (nI v)] σ = some (some (.long (lN (pkL (up f i v)))), σ) := by
  rw [k_33, e_33_0]
  have h0 := hf 0 (by decide); have h1 := hf 1 (by decide); have h2 := hf 2 (by decide); have h3 := hf 3 (by decide); have h4 := hf 4 (by decide)
  rw [pk_mul, n_and255, Nat.mod_eq_of_lt hv, nI_l (n := v) (by omega), wb_shl 255 (k := 8 * i) (by omega), wb_shl v (k := 8 * i) (by omega), l_not, l_or]
  congr 5
  have key : ∀ {hi' mid lo s : Nat}, mid < 256 → lo < 2 ^ s → 2 ^ (s + 8) * hi' + (2 ^ s * mid + lo) < 2 ^ 64 → (2 ^ (s + 8) * hi' + (2 ^ s * mid + lo)) &&& ((255 * 2 ^ s) ^^^ 18446744073709551615) ||| v * 2 ^ s = 2 ^ (s + 8) * hi' + (2 ^ s * v + lo) := by
    intro hi' mid lo s hm hl hw
    have := n_clr (k := 8) (w := 64) hm hl hw
    rw [show (2 : Nat) ^ 8 - 1 = 255 from rfl, show (2 : Nat) ^ 64 - 1 = 18446744073709551615 from rfl, Nat.mul_comm (2 ^ s) 255] at this
    rw [this, Nat.mul_comm v, n_put hv hl]
  unfold pkL
  rcases i5 hi with rfl | rfl | rfl | rfl | rfl <;> simp only [up, Nat.mul_zero, Nat.mul_one, Nat.reduceMul, Nat.reduceEqDiff, if_true, if_false, Nat.zero_ne_one, Nat.one_ne_zero, reduceIte]
  · have := key (hi' := f 1 + 256 * f 2 + 65536 * f 3 + 16777216 * f 4) (mid := f 0) (lo := 0) (s := 0) h0 (by omega) (by omega)
    simp only [Nat.reducePow, Nat.reduceMul, Nat.reduceAdd, Nat.pow_zero, Nat.one_mul, Nat.add_zero, Nat.mul_one, Nat.zero_add] at this ⊢
    rw [show f 0 + 256 * f 1 + 65536 * f 2 + 16777216 * f 3 + 4294967296 * f 4 = 256 * (f 1 + 256 * f 2 + 65536 * f 3 + 16777216 * f 4) + f 0 by omega, this]; omega
  · have := key (hi' := f 2 + 256 * f 3 + 65536 * f 4) (mid := f 1) (lo := f 0) (s := 8) h1 (by omega) (by omega)
    simp only [Nat.reducePow, Nat.reduceMul, Nat.reduceAdd] at this ⊢
    rw [show f 0 + 256 * f 1 + 65536 * f 2 + 16777216 * f 3 + 4294967296 * f 4 = 65536 * (f 2 + 256 * f 3 + 65536 * f 4) + (256 * f 1 + f 0) by omega, this]; omega
  · have := key (hi' := f 3 + 256 * f 4) (mid := f 2) (lo := f 0 + 256 * f 1) (s := 16) h2 (by omega) (by omega)
    simp only [Nat.reducePow, Nat.reduceMul, Nat.reduceAdd] at this ⊢
    rw [show f 0 + 256 * f 1 + 65536 * f 2 + 16777216 * f 3 + 4294967296 * f 4 = 16777216 * (f 3 + 256 * f 4) + (65536 * f 2 + (f 0 + 256 * f 1)) by omega, this]; omega
  · have := key (hi' := f 4) (mid := f 3) (lo := f 0 + 256 * f 1 + 65536 * f 2) (s := 24) h3 (by omega) (by omega)
    simp only [Nat.reducePow, Nat.reduceMul, Nat.reduceAdd] at this ⊢
    rw [show f 0 + 256 * f 1 + 65536 * f 2 + 16777216 * f 3 + 4294967296 * f 4 = 4294967296 * f 4 + (16777216 * f 3 + (f 0 + 256 * f 1 + 65536 * f 2)) by omega, this]; omega
  · have := key (hi' := 0) (mid := f 4) (lo := f 0 + 256 * f 1 + 65536 * f 2 + 16777216 * f 3) (s := 32) h4 (by omega) (by omega)
    simp only [Nat.mul_zero, Nat.zero_add, Nat.reducePow, Nat.reduceMul, Nat.reduceAdd] at this ⊢
    rw [show f 0 + 256 * f 1 + 65536 * f 2 + 16777216 * f 3 + 4294967296 * f 4 = 4294967296 * f 4 + (f 0 + 256 * f 1 + 65536 * f 2 + 16777216 * f 3) by omega, this]; omega
theorem n_bit {a i : Nat} (ha : a < 2 ^ 31) (hi : i < 31) : (nI a >>> (nI i &&& 31)) &&& nI 1 = nI (a.testBit i).toNat := by
  rw [n_shr (by omega) ha, n_and1]
  congr 1
  rw [Nat.testBit_eq_decide_div_mod_eq]
  have : a / 2 ^ i % 2 < 2 := Nat.mod_lt _ (by decide)
  by_cases h : a / 2 ^ i % 2 = 1
  · rw [h]; rfl
  · rw [show a / 2 ^ i % 2 = 0 by omega]; rfl
theorem n_b1 (b : Bool) : (nI b.toNat = nI 1) ↔ b = true := by cases b <;> decide
theorem n_b0 (b : Bool) : (nI b.toNat = nI 0) ↔ b = false := by cases b <;> decide
theorem c_has {a i : Nat} (ha : a < 2 ^ 31) (hi : i < 31) (σ : qH) : q_call 52 [.int (nI a), .int (nI i)] σ = some (some (.int (nI (a.testBit i).toNat)), σ) := by
  rw [k_52, e_52_0]
  rw [n_bit ha hi]
  cases a.testBit i <;> rfl
theorem m_has {a i : Nat} (ha : a < 2 ^ 31) (hi : i < 31) (σ : qH) : q_call 64 [.int (nI a), .int (nI i)] σ = some (some (.int (nI (a.testBit i).toNat)), σ) := by
  rw [k_64, e_64_0]
  rw [n_bit ha hi]
  cases a.testBit i <;> rfl
/-- the bits i < n of which c says so; how many they are -/
def bits (c : Nat → Bool) : Nat → Nat
  | 0 => 0
  | n + 1 => bits c n + (c n).toNat * 2 ^ n
def cnt (c : Nat → Bool) : Nat → Nat
  | 0 => 0
  | n + 1 => cnt c n + (c n).toNat
def sumN (f : Nat → Nat) : Nat → Nat
  | 0 => 0
  | n + 1 => sumN f n + f n
theorem toNat_le1 (b : Bool) : b.toNat ≤ 1 := by cases b <;> decide
theorem bits_lt (c : Nat → Bool) : ∀ n, bits c n < 2 ^ n
  | 0 => Nat.zero_lt_one
  | n + 1 => by
    have := bits_lt c n
    have h1 : (c n).toNat * 2 ^ n ≤ 1 * 2 ^ n := Nat.mul_le_mul_right _ (toNat_le1 _)
    unfold bits
    rw [Nat.pow_succ]
    omega
theorem bits_or (c : Nat → Bool) (n : Nat) : bits c n ||| 2 ^ n = bits c n + 2 ^ n := by
  have := Nat.two_pow_add_eq_or_of_lt (bits_lt c n) 1
  rw [Nat.mul_one] at this
  rw [Nat.or_comm, ← this, Nat.add_comm]
theorem bits_t {c : Nat → Bool} {n : Nat} (h : c n = true) : bits c n ||| 2 ^ n = bits c (n + 1) := by
  show _ = bits c n + (c n).toNat * 2 ^ n
  rw [bits_or, h]; simp
theorem bits_f {c : Nat → Bool} {n : Nat} (h : c n = false) : bits c n = bits c (n + 1) := by
  show _ = bits c n + (c n).toNat * 2 ^ n
  rw [h]; simp
theorem bits_tb (c : Nat → Bool) : ∀ n i, (bits c n).testBit i = (decide (i < n) && c i)
  | 0, i => by simp [bits]
  | n + 1, i => by
    have ih := bits_tb c n i
    have e : bits c (n + 1) = bits c n + (c n).toNat * 2 ^ n := rfl
    cases hc : c n with
    | false =>
      rw [e, hc, show (false.toNat * 2 ^ n) = 0 by simp, Nat.add_zero, ih]
      by_cases h : i = n
      · subst h; simp [hc]
      · have : (i < n + 1) ↔ i < n := by omega
        simp [this]
    | true =>
      rw [e, hc, show (true.toNat * 2 ^ n) = 2 ^ n by simp, ← bits_or, Nat.testBit_or, ih, Nat.testBit_two_pow]
      by_cases h : i = n
      · subst h; simp [hc]
      · have : (i < n + 1) ↔ i < n := by omega
        have h2 : ¬ n = i := fun q => h q.symm
        simp [this, h2]
theorem bits_congr {c d : Nat → Bool} : ∀ {n : Nat}, (∀ i, i < n → c i = d i) → bits c n = bits d n
  | 0, _ => rfl
  | n + 1, h => by
    show bits c n + (c n).toNat * 2 ^ n = bits d n + (d n).toNat * 2 ^ n
    rw [bits_congr fun i hi => h i (by omega), h n (by omega)]
theorem cnt_congr {c d : Nat → Bool} : ∀ {n : Nat}, (∀ i, i < n → c i = d i) → cnt c n = cnt d n
  | 0, _ => rfl
  | n + 1, h => by
    show cnt c n + (c n).toNat = cnt d n + (d n).toNat
    rw [cnt_congr fun i hi => h i (by omega), h n (by omega)]
theorem cnt_le (c : Nat → Bool) : ∀ n, cnt c n ≤ n
  | 0 => Nat.le_refl _
  | n + 1 => by have := cnt_le c n; have := toNat_le1 (c n); unfold cnt; omega
theorem sumN_congr {f g : Nat → Nat} : ∀ {n : Nat}, (∀ i, i < n → f i = g i) → sumN f n = sumN g n
  | 0, _ => rfl
  | n + 1, h => by
    show sumN f n + f n = sumN g n + g n
    rw [sumN_congr fun i hi => h i (by omega), h n (by omega)]
/-- a set's size: bits below 5 -/
def ones (a : Nat) : Nat := cnt (fun i => a.testBit i) 5
theorem n_bits {a : Nat} (h : a < 32) : nI (ones a) = nI (ones a) := rfl
theorem m_ones {a : Nat} (ha : a < 2 ^ 31) (σ : qH) : q_call 65 [.int (nI a)] σ = some (some (.int (nI (ones a))), σ) := by
  rw [k_65, e_65_0]
  refine (q_for (fun i => q_run 65 4 [(0, .int (nI a)), (1, .int (nI (cnt (fun i => a.testBit i) i))), (2, .int (nI i))] [] σ) 5 (fun i hi => ?_)).trans ?_
  · try dsimp only
    rw [e_65_4, if_neg (nI_ge hi (by omega)), n_bit ha (by omega), nI_add, nI_add]
    rfl
  · try dsimp only
    rw [e_65_4, if_pos (nI_le (Nat.le_refl 5) (by decide))]
    rfl
set_option maxRecDepth 100000 in
theorem c_bitCount0 : ∀ a : Fin 32, q_call 88 [.int (nI a.val)] = fun σ => some (some (.int (nI (ones a.val))), σ) := by
  intro a
  funext σ
  rw [k_88, e_88_0]
  congr 3
  revert a
  decide +kernel
theorem c_bitCount {a : Nat} (ha : a < 32) (σ : qH) : q_call 88 [.int (nI a)] σ = some (some (.int (nI (ones a))), σ) := congrFun (c_bitCount0 ⟨a, ha⟩) σ
theorem c_sum {f : Nat → Nat} (hf : ∀ i, i < 5 → f i < 256) (σ : qH) : q_call 76 [.long (lN (pkL f))] σ = some (some (.int (nI (sumN f 5))), σ) := by
  rw [k_76, e_76_0]
  refine (q_for (fun i => q_run 76 4 [(0, .long (lN (pkL f))), (2, .int (nI (sumN f i))), (3, .int (nI i))] [] σ) 5 (fun i hi => ?_)).trans ?_
  · try dsimp only
    rw [e_76_4, if_neg (nI_ge hi (by omega)), c_lane hf hi]
    show q_run 76 4 [(0, .long (lN (pkL f))), (2, .int (nI (sumN f i) + nI (f i))), (3, .int (nI i + nI 1))] [] σ = _
    rw [nI_add, nI_add]
    rfl
  · try dsimp only
    rw [e_76_4, if_pos (nI_le (Nat.le_refl 5) (by decide))]
/-- the lowest bit of a set -/
def low (a : Nat) : Nat := if a.testBit 0 then 0 else if a.testBit 1 then 1 else if a.testBit 2 then 2 else if a.testBit 3 then 3 else 4
theorem c_lowest {a : Nat} (ha : a < 32) (h0 : a ≠ 0) (σ : qH) : q_call 56 [.int (nI a)] σ = some (some (.int (nI (low a))), σ) := by
  rw [k_56, e_56_0]
  have step : ∀ i, i < 5 → q_run 56 2 [(0, .int (nI a)), (1, .int (nI i))] [] σ = if a.testBit i then some (some (.int (nI i)), σ) else q_run 56 2 [(0, .int (nI a)), (1, .int (nI (i + 1)))] [] σ := by
    intro i hi
    rw [e_56_2, if_neg (nI_ge hi (by omega)), c_has (by omega) (by omega)]
    show (if nI (a.testBit i).toNat = nI 0 then q_run 56 2 [(0, .int (nI a)), (1, .int (nI i + nI 1))] [] σ else _) = _
    rw [nI_add]
    cases a.testBit i <;> rfl
  show q_run 56 2 [(0, .int (nI a)), (1, .int (nI 0))] [] σ = _
  rw [step 0 (by decide), step 1 (by decide), step 2 (by decide), step 3 (by decide), step 4 (by decide)]
  unfold low
  have h4 : a.testBit 0 = false → a.testBit 1 = false → a.testBit 2 = false → a.testBit 3 = false → a.testBit 4 = true := by
    intro b0 b1 b2 b3
    rw [Nat.testBit_eq_decide_div_mod_eq] at *
    simp only [decide_eq_false_iff_not, decide_eq_true_eq, Nat.reducePow] at *
    omega
  cases b0 : a.testBit 0 <;> cases b1 : a.testBit 1 <;> cases b2 : a.testBit 2 <;> cases b3 : a.testBit 3 <;> simp_all
-- in
theorem m_in (x lo hi : Int32) (σ : qH) : q_call 8 [.int x, .int lo, .int hi] σ = some (some (.int (nI (decide (lo ≤ x ∧ x ≤ hi)).toNat)), σ) := by
  rw [k_8, e_8_0]
  rw [e_8_14]
  by_cases h1 : x < lo
  · rw [if_pos h1, decide_eq_false (fun h => absurd h1 (Int32.not_lt.mpr h.1))]; rfl
  · rw [if_neg h1]
    by_cases h2 : hi < x
    · rw [if_pos h2, decide_eq_false (fun h => absurd h2 (Int32.not_lt.mpr h.2))]; rfl
    · rw [if_neg h2, decide_eq_true ⟨Int32.not_lt.mp h1, Int32.not_lt.mp h2⟩]; rfl
