/-! ===== the text: tokens, and what it tells ===== -/
def dgB (tx : Nat → Nat) (n k : Nat) : Bool := decide (k < n ∧ 48 ≤ tx k ∧ tx k ≤ 57)
def nxt (tx : Nat → Nat) (n : Nat) : Nat → Nat → Nat
  | 0, a => a
  | d + 1, a => if a < n ∧ tx a = 32 then nxt tx n d (a + 1) else a
/-- the next token's place (n: none) -/
def nx (tx : Nat → Nat) (n a : Nat) : Nat := nxt tx n (n - a) a
def den (tx : Nat → Nat) (n : Nat) : Nat → Nat → Nat
  | 0, a => a
  | d + 1, a => if dgB tx n a = true then den tx n d (a + 1) else a
/-- the end of the digits from a on -/
def de (tx : Nat → Nat) (n a : Nat) : Nat := den tx n (n - a) a
/-- the number told at s (1000: too large, or a 0 ahead) -/
def tkV (tx : Nat → Nat) (n s : Nat) : Nat := if dgB tx n (s + 1) = true then (if tx s = 48 ∨ dgB tx n (s + 2) = true then 1000 else 10 * (tx s - 48) + (tx (s + 1) - 48)) else tx s - 48
theorem nxt_spec {tx : Nat → Nat} {n : Nat} : ∀ d a, a + d = n → a ≤ nxt tx n d a ∧ nxt tx n d a ≤ n ∧ (∀ k, a ≤ k → k < nxt tx n d a → tx k = 32) ∧ (nxt tx n d a < n → tx (nxt tx n d a) ≠ 32)
  | 0, a, h => ⟨Nat.le_refl _, by show a ≤ n; omega, fun k h1 h2 => by have h3 : k < a := h2; omega, fun h1 => by have h3 : a < n := h1; omega⟩
  | d + 1, a, h => by
    unfold nxt
    by_cases g : a < n ∧ tx a = 32
    · rw [if_pos g]
      obtain ⟨h1, h2, h3, h4⟩ := nxt_spec (tx := tx) (n := n) d (a + 1) (by omega)
      refine ⟨by omega, h2, fun k k1 k2 => ?_, h4⟩
      by_cases e : k = a
      · rw [e]; exact g.2
      · exact h3 k (by omega) k2
    · rw [if_neg g]
      exact ⟨Nat.le_refl _, by omega, fun k h1 h2 => by omega, fun h1 h2 => g ⟨h1, h2⟩⟩
theorem nx_spec (tx : Nat → Nat) {n a : Nat} (h : a ≤ n) : a ≤ nx tx n a ∧ nx tx n a ≤ n ∧ (∀ k, a ≤ k → k < nx tx n a → tx k = 32) ∧ (nx tx n a < n → tx (nx tx n a) ≠ 32) := nxt_spec (n - a) a (by omega)
theorem den_spec {tx : Nat → Nat} {n : Nat} : ∀ d a, a + d = n → a ≤ den tx n d a ∧ den tx n d a ≤ n ∧ (∀ k, a ≤ k → k < den tx n d a → dgB tx n k = true) ∧ dgB tx n (den tx n d a) = false
  | 0, a, h => ⟨Nat.le_refl _, by show a ≤ n; omega, fun k h1 h2 => by have h3 : k < a := h2; omega, decide_eq_false (show ¬ (a < n ∧ 48 ≤ tx a ∧ tx a ≤ 57) by omega)⟩
  | d + 1, a, h => by
    unfold den
    by_cases g : dgB tx n a = true
    · rw [if_pos g]
      obtain ⟨h1, h2, h3, h4⟩ := den_spec (tx := tx) (n := n) d (a + 1) (by omega)
      refine ⟨by omega, h2, fun k k1 k2 => ?_, h4⟩
      by_cases e : k = a
      · rw [e]; exact g
      · exact h3 k (by omega) k2
    · rw [if_neg g]
      exact ⟨Nat.le_refl _, by omega, fun k h1 h2 => by omega, by simpa using g⟩
theorem de_spec (tx : Nat → Nat) {n a : Nat} (h : a ≤ n) : a ≤ de tx n a ∧ de tx n a ≤ n ∧ (∀ k, a ≤ k → k < de tx n a → dgB tx n k = true) ∧ dgB tx n (de tx n a) = false := den_spec (n - a) a (by omega)
theorem dgB_t {tx : Nat → Nat} {n k : Nat} (h : dgB tx n k = true) : k < n ∧ 48 ≤ tx k ∧ tx k ≤ 57 := of_decide_eq_true h
theorem dgB_f {tx : Nat → Nat} {n k : Nat} (h : dgB tx n k = false) : ¬ (k < n ∧ 48 ≤ tx k ∧ tx k ≤ 57) := of_decide_eq_false h
theorem tkV_le (tx : Nat → Nat) {n s : Nat} (h : dgB tx n s = true) : tkV tx n s < 100 ∨ tkV tx n s = 1000 := by
  have h1 := dgB_t h
  unfold tkV
  by_cases g : dgB tx n (s + 1) = true
  · rw [if_pos g]
    have h2 := dgB_t g
    by_cases g2 : tx s = 48 ∨ dgB tx n (s + 2) = true
    · rw [if_pos g2]; omega
    · rw [if_neg g2]; omega
  · rw [if_neg g]; omega
abbrev pR : Type := Nat ⊕ (Nat → Nat)
/-- a number that is ok comes next, or the fault is there -/
def gtN (tx : Nat → Nat) (n a : Nat) (ok : Nat → Bool) (k : Nat → Nat → pR) : pR :=
  if dgB tx n (nx tx n a) = true ∧ tkV tx n (nx tx n a) < 100 ∧ ok (tkV tx n (nx tx n a)) = true then k (tkV tx n (nx tx n a)) (de tx n (nx tx n a + 1)) else .inl (nx tx n a)
def gtE (tx : Nat → Nat) (n a : Nat) (k : Nat → pR) : pR :=
  if nx tx n a < n ∧ tx (nx tx n a) = 59 then k (nx tx n a + 1) else .inl (nx tx n a)
def okI (lo hi : Nat) : Nat → Bool := fun v => decide (lo ≤ v ∧ v < hi)
def rmT (T : Nat → Nat) (h c : Nat) : Nat → Nat := up (up (up (up T (5 + T 0) h) (10 + T 0) c) 0 (T 0 + 1)) 3 (T 3 + 1)
def drT (T : Nat → Nat) (A B : Nat) : Nat → Nat := up (up (up T (15 + A) (T (15 + A) ||| 2 ^ B)) (15 + B) (T (15 + B) ||| 2 ^ A)) 3 (T 3 + 1)
def flT (T : Nat → Nat) (h g s : Nat) : Nat → Nat := up (up (up (up (up T (20 + T 1) h) (25 + T 1) g) (30 + T 1) s) 1 (T 1 + 1)) 3 (T 3 + 1)
def nfT (T : Nat → Nat) (v : Nat) : Nat → Nat := up (up (up T 4 1) 2 v) 3 (T 3 + 1)
/-- the items from a on: the fault's place, or the house -/
def prs (tx : Nat → Nat) (n : Nat) : Nat → Nat → (Nat → Nat) → pR
  | 0, _, _ => .inl 0
  | d + 1, a, T =>
    if nx tx n a < n then
      if tx (nx tx n a) = 114 then
        if T 0 = 5 then .inl (nx tx n a)
        else gtN tx n (nx tx n a + 1) (okI 1 6) fun h a1 => gtN tx n a1 (okI 0 61) fun c a2 => gtE tx n a2 fun a3 => prs tx n d a3 (rmT T h c)
      else if tx (nx tx n a) = 100 then gtN tx n (nx tx n a + 1) (okI 0 (T 0)) fun A a1 => gtN tx n a1 (fun v => okI 0 (T 0) v && !(v == A)) fun B a2 => gtE tx n a2 fun a3 => prs tx n d a3 (drT T A B)
      else if tx (nx tx n a) = 102 then
        if T 1 = 5 then .inl (nx tx n a)
        else gtN tx n (nx tx n a + 1) (okI 0 (T 0)) fun h a1 => gtN tx n a1 (okI 1 10) fun g a2 => gtN tx n a2 (okI 0 3) fun s a3 => gtE tx n a3 fun a4 => prs tx n d a4 (flT T h g s)
      else if tx (nx tx n a) = 110 then
        if T 4 = 1 then .inl (nx tx n a)
        else gtN tx n (nx tx n a + 1) (okI 1 100) fun v a1 => gtE tx n a1 fun a2 => prs tx n d a2 (nfT T v)
      else .inl (nx tx n a)
    else .inr T
/-- a house as far as it is told -/
def WX (T : Nat → Nat) : Prop := WT T ∧ T 4 ≤ 1
theorem okI_t {lo hi v : Nat} (h : okI lo hi v = true) : lo ≤ v ∧ v < hi := of_decide_eq_true h
theorem WX.rm {T : Nat → Nat} (h : WX T) {r c : Nat} (h0 : ¬ T 0 = 5) (hr : 1 ≤ r ∧ r < 6) (hc : c < 61) : WX (rmT T r c) := by
  obtain ⟨⟨t0, t1, t2, t5, t6, t7, t8, t9⟩, h4⟩ := h
  have e0 : rmT T r c 0 = T 0 + 1 := by unfold rmT; rw [up_n _ _ (by decide), up_s]
  have eo : ∀ j, j ≠ 5 + T 0 → j ≠ 10 + T 0 → j ≠ 0 → j ≠ 3 → rmT T r c j = T j := fun j h1 h2 h3 h4 => by unfold rmT; rw [up_n _ _ h4, up_n _ _ h3, up_n _ _ h2, up_n _ _ h1]
  have e5 : rmT T r c (5 + T 0) = r := by unfold rmT; rw [up_n _ _ (by omega), up_n _ _ (by omega), up_n _ _ (by omega), up_s]
  have e10 : rmT T r c (10 + T 0) = c := by unfold rmT; rw [up_n _ _ (by omega), up_n _ _ (by omega), up_s]
  have e1 : rmT T r c 1 = T 1 := eo 1 (by omega) (by omega) (by decide) (by decide)
  refine ⟨⟨by rw [e0]; omega, by rw [e1]; exact t1, by rw [eo 2 (by omega) (by omega) (by decide) (by decide)]; exact t2, fun i hi => ?_, fun i hi => ?_, fun i h1 h2 => ?_, fun f hf => ?_, fun f h1 h2 => ?_⟩, by rw [eo 4 (by omega) (by omega) (by decide) (by decide)]; exact h4⟩
  · obtain ⟨k1, k2, k3, k4, k5⟩ := t5 i hi
    refine ⟨?_, ?_, ?_, ?_, ?_⟩
    · by_cases e : i = T 0
      · rw [e, e5]; omega
      · rw [eo _ (by omega) (by omega) (by omega) (by omega)]; exact k1
    · by_cases e : i = T 0
      · rw [e, e10]; omega
      · rw [eo _ (by omega) (by omega) (by omega) (by omega)]; exact k2
    · rw [eo _ (by omega) (by omega) (by omega) (by omega), e0, Nat.pow_succ]; omega
    · rw [eo _ (by omega) (by omega) (by omega) (by omega)]; exact k4
    · rw [eo _ (by omega) (by omega) (by omega) (by omega)]; exact k5
  · rw [e0] at hi
    by_cases e : i = T 0
    · rw [e, e5]; exact hr.1
    · rw [eo _ (by omega) (by omega) (by omega) (by omega)]; exact t6 i (by omega)
  · rw [e0] at h1
    rw [eo _ (by omega) (by omega) (by omega) (by omega)]; exact t7 i (by omega) h2
  · rw [e1] at hf
    have := t8 f hf
    rw [e0, eo _ (by omega) (by omega) (by omega) (by omega), eo _ (by omega) (by omega) (by omega) (by omega)]
    exact ⟨by omega, this.2⟩
  · rw [e1] at h1
    rw [eo _ (by omega) (by omega) (by omega) (by omega)]; exact t9 f h1 h2
theorem or_lt {a b n : Nat} (ha : a < 2 ^ n) (hb : b < 2 ^ n) : a ||| b < 2 ^ n := Nat.or_lt_two_pow ha hb
theorem drT_at (T : Nat → Nat) {A B j : Nat} (hAB : A ≠ B) (hj : j < 5) : drT T A B (15 + j) = if j = B then T (15 + B) ||| 2 ^ A else if j = A then T (15 + A) ||| 2 ^ B else T (15 + j) := by
  unfold drT
  rw [up_n _ _ (by omega)]
  by_cases e : j = B
  · rw [if_pos e, e, up_s]
  · rw [if_neg e, up_n _ _ (by omega)]
    by_cases e2 : j = A
    · rw [if_pos e2, e2, up_s]
    · rw [if_neg e2, up_n _ _ (by omega)]
theorem drT_o (T : Nat → Nat) {A B j : Nat} (hA : A < 5) (hB : B < 5) (h1 : j < 15 ∨ 20 ≤ j) (h3 : j ≠ 3) : drT T A B j = T j := by
  unfold drT
  rw [up_n _ _ h3, up_n _ _ (by omega), up_n _ _ (by omega)]
theorem WX.dr {T : Nat → Nat} (h : WX T) {A B : Nat} (hA : A < T 0) (hB : B < T 0) (hAB : A ≠ B) : WX (drT T A B) := by
  obtain ⟨⟨t0, t1, t2, t5, t6, t7, t8, t9⟩, h4⟩ := h
  have eo : ∀ j, (j < 15 ∨ 20 ≤ j) → j ≠ 3 → drT T A B j = T j := fun j h1 h3 => drT_o T (by omega) (by omega) h1 h3
  have p2 : ∀ {k}, k < T 0 → 2 ^ k < 2 ^ T 0 := fun hk => Nat.pow_lt_pow_right (by decide) hk
  refine ⟨⟨by rw [eo 0 (by omega) (by decide)]; exact t0, by rw [eo 1 (by omega) (by decide)]; exact t1, by rw [eo 2 (by omega) (by decide)]; exact t2, fun i hi => ?_, fun i hi => ?_, fun i h1 h2 => ?_, fun f hf => ?_, fun f h1 h2 => ?_⟩, by rw [eo 4 (by omega) (by decide)]; exact h4⟩
  · obtain ⟨k1, k2, k3, k4, k5⟩ := t5 i hi
    rw [eo (5 + i) (by omega) (by omega), eo (10 + i) (by omega) (by omega), eo (25 + i) (by omega) (by omega), eo (30 + i) (by omega) (by omega), eo 0 (by omega) (by decide), drT_at T hAB hi]
    refine ⟨k1, k2, ?_, k4, k5⟩
    by_cases e : i = B
    · rw [if_pos e]; exact or_lt (by rw [← e]; exact k3) (p2 hA)
    · rw [if_neg e]
      by_cases e2 : i = A
      · rw [if_pos e2]; exact or_lt (by rw [← e2]; exact k3) (p2 hB)
      · rw [if_neg e2]; exact k3
  · rw [eo 0 (by omega) (by decide)] at hi
    rw [eo _ (by omega) (by omega)]; exact t6 i hi
  · rw [eo 0 (by omega) (by decide)] at h1
    rw [eo _ (by omega) (by omega)]; exact t7 i h1 h2
  · rw [eo 1 (by omega) (by decide)] at hf
    rw [eo 0 (by omega) (by decide), eo _ (by omega) (by omega), eo _ (by omega) (by omega)]; exact t8 f hf
  · rw [eo 1 (by omega) (by decide)] at h1
    rw [eo _ (by omega) (by omega)]; exact t9 f h1 h2
theorem WX.fl {T : Nat → Nat} (h : WX T) {r g s : Nat} (h0 : ¬ T 1 = 5) (hr : r < T 0) (hg : 1 ≤ g ∧ g < 10) (hs : s < 3) : WX (flT T r g s) := by
  obtain ⟨⟨t0, t1, t2, t5, t6, t7, t8, t9⟩, h4⟩ := h
  have e1 : flT T r g s 1 = T 1 + 1 := by unfold flT; rw [up_n _ _ (by decide), up_s]
  have eo : ∀ j, j ≠ 20 + T 1 → j ≠ 25 + T 1 → j ≠ 30 + T 1 → j ≠ 1 → j ≠ 3 → flT T r g s j = T j := fun j h1 h2 h3 h4 h5 => by unfold flT; rw [up_n _ _ h5, up_n _ _ h4, up_n _ _ h3, up_n _ _ h2, up_n _ _ h1]
  have e20 : flT T r g s (20 + T 1) = r := by unfold flT; rw [up_n _ _ (by omega), up_n _ _ (by omega), up_n _ _ (by omega), up_n _ _ (by omega), up_s]
  have e25 : flT T r g s (25 + T 1) = g := by unfold flT; rw [up_n _ _ (by omega), up_n _ _ (by omega), up_n _ _ (by omega), up_s]
  have e30 : flT T r g s (30 + T 1) = s := by unfold flT; rw [up_n _ _ (by omega), up_n _ _ (by omega), up_s]
  have e0 : flT T r g s 0 = T 0 := eo 0 (by omega) (by omega) (by omega) (by decide) (by decide)
  refine ⟨⟨by rw [e0]; exact t0, by rw [e1]; omega, by rw [eo 2 (by omega) (by omega) (by omega) (by decide) (by decide)]; exact t2, fun i hi => ?_, fun i hi => ?_, fun i h1 h2 => ?_, fun f hf => ?_, fun f h1 h2 => ?_⟩, by rw [eo 4 (by omega) (by omega) (by omega) (by decide) (by decide)]; exact h4⟩
  · obtain ⟨k1, k2, k3, k4, k5⟩ := t5 i hi
    rw [eo (5 + i) (by omega) (by omega) (by omega) (by omega) (by omega), eo (10 + i) (by omega) (by omega) (by omega) (by omega) (by omega), eo (15 + i) (by omega) (by omega) (by omega) (by omega) (by omega), e0]
    refine ⟨k1, k2, k3, ?_, ?_⟩
    · by_cases e : i = T 1
      · rw [e, e25]; omega
      · rw [eo _ (by omega) (by omega) (by omega) (by omega) (by omega)]; exact k4
    · by_cases e : i = T 1
      · rw [e, e30]; omega
      · rw [eo _ (by omega) (by omega) (by omega) (by omega) (by omega)]; exact k5
  · rw [e0] at hi
    rw [eo _ (by omega) (by omega) (by omega) (by omega) (by omega)]; exact t6 i hi
  · rw [e0] at h1
    rw [eo _ (by omega) (by omega) (by omega) (by omega) (by omega)]; exact t7 i h1 h2
  · rw [e1] at hf
    rw [e0]
    by_cases e : f = T 1
    · rw [e, e20, e25]; exact ⟨hr, hg.1⟩
    · rw [eo _ (by omega) (by omega) (by omega) (by omega) (by omega), eo _ (by omega) (by omega) (by omega) (by omega) (by omega)]; exact t8 f (by omega)
  · rw [e1] at h1
    rw [eo _ (by omega) (by omega) (by omega) (by omega) (by omega)]; exact t9 f (by omega) h2
theorem WX.nf {T : Nat → Nat} (h : WX T) {v : Nat} (hv : 1 ≤ v ∧ v < 100) : WX (nfT T v) := by
  obtain ⟨⟨t0, t1, t2, t5, t6, t7, t8, t9⟩, h4⟩ := h
  have eo : ∀ j, j ≠ 2 → j ≠ 3 → j ≠ 4 → nfT T v j = T j := fun j h1 h2 h3 => by unfold nfT; rw [up_n _ _ h2, up_n _ _ h1, up_n _ _ h3]
  have e2 : nfT T v 2 = v := by unfold nfT; rw [up_n _ _ (by decide), up_s]
  have e4 : nfT T v 4 = 1 := by unfold nfT; rw [up_n _ _ (by decide), up_n _ _ (by decide), up_s]
  have e0 : nfT T v 0 = T 0 := eo 0 (by decide) (by decide) (by decide)
  have e1 : nfT T v 1 = T 1 := eo 1 (by decide) (by decide) (by decide)
  refine ⟨⟨by rw [e0]; exact t0, by rw [e1]; exact t1, by rw [e2]; omega, fun i hi => ?_, fun i hi => ?_, fun i h1 h2 => ?_, fun f hf => ?_, fun f h1 h2 => ?_⟩, by rw [e4]; exact Nat.le_refl _⟩
  · rw [e0, eo (5 + i) (by omega) (by omega) (by omega), eo (10 + i) (by omega) (by omega) (by omega), eo (15 + i) (by omega) (by omega) (by omega), eo (25 + i) (by omega) (by omega) (by omega), eo (30 + i) (by omega) (by omega) (by omega)]
    exact t5 i hi
  · rw [e0] at hi
    rw [eo _ (by omega) (by omega) (by omega)]; exact t6 i hi
  · rw [e0] at h1
    rw [eo _ (by omega) (by omega) (by omega)]; exact t7 i h1 h2
  · rw [e1] at hf
    rw [e0, eo _ (by omega) (by omega) (by omega), eo _ (by omega) (by omega) (by omega)]; exact t8 f hf
  · rw [e1] at h1
    rw [eo _ (by omega) (by omega) (by omega)]; exact t9 f h1 h2
