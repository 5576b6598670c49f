/-! ===== the house as two rows of numbers: T (what was told, 35), P (now, 22) ===== -/
def inR (T P : Nat → Nat) (r : Nat) : Nat := bits (fun f => P f == r) (T 1)
def opn (T P : Nat → Nat) (q : Nat) : Bool := !(P 20).testBit q && decide (ones (inR T P q) < T (5 + q))
def cand (T P : Nat → Nat) (r : Nat) (carpet : Bool) (q : Nat) : Bool := (T (15 + r)).testBit q && opn T P q && (!carpet || decide (0 < P (15 + q)))
/-- the lowest of i .. i + d - 1 of which c says so -/
def lowF (c : Nat → Bool) (i : Nat) : Nat → Option Nat
  | 0 => none
  | d + 1 => if c i then some i else lowF c (i + 1) d
def optI (o : Option Nat) : Int32 := match o with
  | none => -9
  | some q => nI q
def bey (T P : Nat → Nat) (r : Nat) (carpet : Bool) : Option Nat := lowF (cand T P r carpet) 0 (T 0)
def bite (T P : Nat → Nat) (f : Nat) : Nat := if P (15 + P f) < T (25 + f) then P (15 + P f) else T (25 + f)
def moves (T P : Nat → Nat) (f : Nat) : Bool := (P 20).testBit (P f) || P (15 + P f) == 0
def eat (T P : Nat → Nat) (f : Nat) : Nat := if moves T P f then 0 else bite T P f
def actP (T P : Nat → Nat) (f : Nat) : Nat → Nat :=
  if moves T P f then up P f ((bey T P (P f) (!(P 20).testBit (P f))).getD (P f))
  else up (up (up P (15 + P f) (P (15 + P f) - bite T P f)) (5 + f) ((P (5 + f) + bite T P f) % T 2)) (10 + f) (if P (10 + f) + (P (5 + f) + bite T P f) / T 2 ≤ 99 then P (10 + f) + (P (5 + f) + bite T P f) / T 2 else 99)
/-- the flocks below n have acted: the numbers now, and what was eaten -/
def stepP (T P : Nat → Nat) : Nat → (Nat → Nat)
  | 0 => P
  | n + 1 => actP T (stepP T P n) n
def stepE (T P : Nat → Nat) (n : Nat) : Nat := sumN (fun f => eat T (stepP T P f) f) n
/-- a house as it may be told -/
def WT (T : Nat → Nat) : Prop := T 0 ≤ 5 ∧ T 1 ≤ 5 ∧ (1 ≤ T 2 ∧ T 2 ≤ 99) ∧ (∀ r, r < 5 → T (5 + r) ≤ 5 ∧ T (10 + r) ≤ 60 ∧ T (15 + r) < 2 ^ T 0 ∧ T (25 + r) ≤ 9 ∧ T (30 + r) ≤ 2) ∧ (∀ r, r < T 0 → 1 ≤ T (5 + r)) ∧ (∀ r, T 0 ≤ r → r < 5 → T (10 + r) = 0) ∧ (∀ f, f < T 1 → T (20 + f) < T 0 ∧ 1 ≤ T (25 + f)) ∧ (∀ f, T 1 ≤ f → f < 5 → T (20 + f) = 0)
def WP (T P : Nat → Nat) : Prop := (∀ f, f < T 1 → P f < T 0) ∧ (∀ f, T 1 ≤ f → f < 5 → P f = 0) ∧ (∀ f, f < 5 → P (5 + f) ≤ 98 ∧ P (10 + f) ≤ 99 ∧ P (15 + f) ≤ 60) ∧ (∀ r, T 0 ≤ r → r < 5 → P (15 + r) = 0) ∧ P 20 < 2 ^ T 0 ∧ P 21 ≤ 999 ∧ ∀ j, 22 ≤ j → P j = 0
theorem WP.p8 {T P : Nat → Nat} (hT : WT T) (hP : WP T P) : ∀ i, i < 5 → P i < 8 := by
  intro i hi
  by_cases h : i < T 1
  · have := hP.1 i h; have := hT.1; omega
  · rw [hP.2.1 i (by omega) hi]; decide
theorem lowF_some {c : Nat → Bool} : ∀ {d i q : Nat}, lowF c i d = some q → i ≤ q ∧ q < i + d ∧ c q = true ∧ ∀ j, i ≤ j → j < q → c j = false
  | 0, i, q, h => by cases h
  | d + 1, i, q, h => by
    unfold lowF at h
    by_cases hc : c i = true
    · rw [if_pos hc] at h; cases h
      exact ⟨Nat.le_refl _, by omega, hc, fun j h1 h2 => by omega⟩
    · rw [if_neg hc] at h
      obtain ⟨h1, h2, h3, h4⟩ := lowF_some h
      refine ⟨by omega, by omega, h3, fun j h5 h6 => ?_⟩
      by_cases e : j = i
      · rw [e]; simpa using hc
      · exact h4 j (by omega) h6
theorem lowF_none {c : Nat → Bool} : ∀ {d i : Nat}, lowF c i d = none → ∀ j, i ≤ j → j < i + d → c j = false
  | 0, i, _, j, h1, h2 => by omega
  | d + 1, i, h, j, h1, h2 => by
    unfold lowF at h
    by_cases hc : c i = true
    · rw [if_pos hc] at h; cases h
    · rw [if_neg hc] at h
      by_cases e : j = i
      · rw [e]; simpa using hc
      · exact lowF_none h j (by omega) (by omega)
theorem lowF_congr {c e : Nat → Bool} : ∀ {d i : Nat}, (∀ j, i ≤ j → j < i + d → c j = e j) → lowF c i d = lowF e i d
  | 0, _, _ => rfl
  | d + 1, i, h => by
    unfold lowF
    rw [h i (Nat.le_refl _) (by omega), lowF_congr fun j h1 h2 => h j (by omega) (by omega)]
theorem low_spec {a : Nat} (ha : a < 32) (h0 : a ≠ 0) : low a < 5 ∧ a.testBit (low a) = true ∧ ∀ j, j < low a → a.testBit j = false := by
  have key : ∀ b : Fin 32, b.val ≠ 0 → low b.val < 5 ∧ b.val.testBit (low b.val) = true ∧ ∀ j, j < low b.val → b.val.testBit j = false := by decide +kernel
  exact key ⟨a, ha⟩ h0
theorem tb_ge {a n i : Nat} (ha : a < 2 ^ n) (h : n ≤ i) : a.testBit i = false := Nat.testBit_lt_two_pow (Nat.lt_of_lt_of_le ha (Nat.pow_le_pow_right (by decide) h))
theorem tb_zero {a : Nat} (h : ∀ i, a.testBit i = false) : a = 0 := Nat.eq_of_testBit_eq fun i => by rw [h i]; simp
/-- the lowest of a set told by its bits -/
theorem low_F {a n : Nat} (hn : n ≤ 5) (ha : a < 2 ^ n) : (if a = 0 then none else some (low a)) = lowF (fun q => a.testBit q) 0 n := by
  have h32 : a < 32 := Nat.lt_of_lt_of_le ha (Nat.pow_le_pow_right (by decide) hn : 2 ^ n ≤ 2 ^ 5)
  by_cases h0 : a = 0
  · rw [if_pos h0]
    cases h : lowF (fun q => a.testBit q) 0 n with
    | none => rfl
    | some q =>
      have := (lowF_some h).2.2.1
      rw [h0] at this; simp at this
  · rw [if_neg h0]
    obtain ⟨l1, l2, l3⟩ := low_spec h32 h0
    cases h : lowF (fun q => a.testBit q) 0 n with
    | none =>
      exact absurd (tb_zero fun i => by
        by_cases hi : i < n
        · exact lowF_none h i (by omega) (by omega)
        · exact tb_ge ha (by omega)) h0
    | some q =>
      obtain ⟨-, m1, m2, m3⟩ := lowF_some h
      rcases Nat.lt_trichotomy (low a) q with g | g | g
      · have := m3 _ (Nat.zero_le _) g; rw [l2] at this; cases this
      · rw [g]
      · have := l3 _ g; rw [m2] at this; cases this
theorem pow_le5 {n : Nat} (h : n ≤ 5) : 2 ^ n ≤ 32 := (Nat.pow_le_pow_right (by decide) h : 2 ^ n ≤ 2 ^ 5)
theorem inR_lt {T P : Nat → Nat} (hT : WT T) (r : Nat) : inR T P r < 32 := Nat.lt_of_lt_of_le (bits_lt _ _) (pow_le5 hT.2.1)
theorem cnt_bits (c : Nat → Bool) : ∀ m n, n ≤ m → cnt (fun i => (bits c n).testBit i) m = cnt c n := by
  intro m
  induction m with
  | zero => intro n h; rw [Nat.le_zero.mp h]; rfl
  | succ m ih =>
    intro n h
    show cnt (fun i => (bits c n).testBit i) m + ((bits c n).testBit m).toNat = _
    by_cases e : n = m + 1
    · subst e
      have e1 : cnt (fun i => (bits c (m + 1)).testBit i) m = cnt c m := by
        rw [← ih m (Nat.le_refl m)]
        exact cnt_congr fun i hi => by rw [bits_tb, bits_tb]; simp [hi, show i < m + 1 by omega]
      rw [e1, bits_tb]
      simp [cnt]
    · rw [ih n (by omega), bits_tb]
      simp [show ¬ m < n by omega]
theorem ones_bits (c : Nat → Bool) {n : Nat} (h : n ≤ 5) : ones (bits c n) = cnt c n := cnt_bits c 5 n h
