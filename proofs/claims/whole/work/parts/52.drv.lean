/-! ===== the way back: drives as a graph ===== -/
def mvB (T Q : Nat → Nat) (f r : Nat) : Bool := (T (15 + Q f)).testBit r && opn T Q r
/-- all are home -/
def hmB (T Q : Nat → Nat) : Bool := decide (pkS Q = pkS (fun i => T (20 + i)))
/-- a house now, the flocks elsewhere -/
def QB (T P Q : Nat → Nat) : Prop := WP T Q ∧ ∀ k, 5 ≤ k → Q k = P k
def mv (T Q : Nat → Nat) (f r : Nat) : Prop := f < T 1 ∧ r < T 0 ∧ mvB T Q f r = true
theorem QB.mv {T P Q : Nat → Nat} (hT : WT T) (h : QB T P Q) {f r : Nat} (hf : f < T 1) (hr : r < T 0) : QB T P (up Q f r) :=
  ⟨h.1.place hT.2.1 hf hr, fun k hk => by have := hT.2.1; rw [up_n _ _ (by omega)]; exact h.2 k hk⟩
theorem QB.eq {T P Q Q2 : Nat → Nat} (hT : WT T) (h : QB T P Q) (h2 : QB T P Q2) (e : pkS Q = pkS Q2) : Q = Q2 := by
  funext i
  by_cases hi : i < 5
  · exact pkS_inj (h.1.p8 hT) (h2.1.p8 hT) e i hi
  · rw [h.2 i (by omega), h2.2 i (by omega)]
def nl (a f r : Nat) : Nat := if a = 63 then 10 * f + r else a
/-- Q is reached by n drives, the first of them a (63: none) -/
def lr (T P : Nat → Nat) : Nat → Nat → (Nat → Nat) → Prop
  | 0, a, Q => a = 63 ∧ Q = P
  | n + 1, a, Q => ∃ a' Q' f r, lr T P n a' Q' ∧ mv T Q' f r ∧ Q = up Q' f r ∧ a = nl a' f r
theorem lr_QB {T P : Nat → Nat} (hT : WT T) (hP : WP T P) : ∀ {n a Q}, lr T P n a Q → QB T P Q
  | 0, a, Q, h => by rw [h.2]; exact ⟨hP, fun _ _ => rfl⟩
  | n + 1, a, Q, h => by
    obtain ⟨a', Q', f, r, h1, h2, rfl, -⟩ := h
    exact (lr_QB hT hP h1).mv hT h2.1 h2.2.1
theorem lr_lab {T P : Nat → Nat} (hT : WT T) : ∀ {n a Q}, lr T P (n + 1) a Q → a < 50
  | 0, a, Q, h => by
    obtain ⟨a', Q', f, r, h1, h2, -, rfl⟩ := h
    have := hT.1; have := hT.2.1; have := h2.1; have := h2.2.1
    unfold nl
    rw [if_pos h1.1]; omega
  | n + 1, a, Q, h => by
    obtain ⟨a', Q', f, r, h1, h2, -, rfl⟩ := h
    have := lr_lab hT h1
    unfold nl
    rw [if_neg (by omega)]; exact this
/-- home is k drives away -/
def pth (T : Nat → Nat) : Nat → (Nat → Nat) → Prop
  | 0, Q => hmB T Q = true
  | k + 1, Q => ∃ f r, mv T Q f r ∧ pth T k (up Q f r)
theorem lr_pth {T P : Nat → Nat} (hT : WT T) : ∀ {k n a Q}, lr T P (n + 1) a Q → pth T k Q → ∃ H, lr T P (n + 1 + k) a H ∧ hmB T H = true
  | 0, n, a, Q, h, h2 => ⟨Q, h, h2⟩
  | k + 1, n, a, Q, h, h2 => by
    obtain ⟨f, r, h3, h4⟩ := h2
    have ha := lr_lab hT h
    have : lr T P (n + 1 + 1) a (up Q f r) := ⟨a, Q, f, r, h, h3, rfl, by unfold nl; rw [if_neg (by omega)]⟩
    obtain ⟨H, g1, g2⟩ := lr_pth hT this h4
    exact ⟨H, by rw [show n + 1 + (k + 1) = n + 1 + 1 + k by omega]; exact g1, g2⟩
theorem pth_lr {T P : Nat → Nat} (hT : WT T) : ∀ {k n j a Q}, lr T P (n + 1 + k) a Q → pth T j Q → ∃ Q0, lr T P (n + 1) a Q0 ∧ pth T (k + j) Q0
  | 0, n, j, a, Q, h, h2 => ⟨Q, h, by rw [Nat.zero_add]; exact h2⟩
  | k + 1, n, j, a, Q, h, h2 => by
    obtain ⟨a', Q', f, r, h3, h4, rfl, rfl⟩ := (show lr T P (n + 1 + k + 1) a Q from h)
    have ha := lr_lab hT (show lr T P (n + k + 1) a' Q' by rw [show n + k + 1 = n + 1 + k by omega]; exact h3)
    have e : nl a' f r = a' := by unfold nl; rw [if_neg (by omega)]
    rw [e]
    obtain ⟨Q0, g1, g2⟩ := pth_lr hT (j := j + 1) h3 ⟨f, r, h4, h2⟩
    exact ⟨Q0, g1, by rw [show k + 1 + j = k + (j + 1) by omega]; exact g2⟩
theorem lr_one {T P : Nat → Nat} {a : Nat} {Q : Nat → Nat} : lr T P 1 a Q ↔ ∃ f r, mv T P f r ∧ Q = up P f r ∧ a = 10 * f + r := by
  constructor
  · rintro ⟨a', Q', f, r, h1, h2, h3, h4⟩
    obtain ⟨rfl, rfl⟩ := h1
    exact ⟨f, r, h2, h3, by rw [h4]; rfl⟩
  · rintro ⟨f, r, h1, h2, h3⟩
    exact ⟨63, P, f, r, ⟨rfl, rfl⟩, h1, h2, by rw [h3]; rfl⟩
/-- the lowest room, the lowest flock then room, by a drive to which g is so -/
def fdR (T Q : Nat → Nat) (g : (Nat → Nat) → Bool) (f : Nat) : Option Nat := lowF (fun r => mvB T Q f r && g (up Q f r)) 0 (T 0)
def fdF (T Q : Nat → Nat) (g : (Nat → Nat) → Bool) : Nat → Nat → Option Nat
  | _, 0 => none
  | f, d + 1 => match fdR T Q g f with
    | some r => some (10 * f + r)
    | none => fdF T Q g (f + 1) d
def fd (T Q : Nat → Nat) (g : (Nat → Nat) → Bool) : Option Nat := fdF T Q g 0 (T 1)
/-- home is n drives away at most -/
def dtB (T : Nat → Nat) : Nat → (Nat → Nat) → Bool
  | 0, Q => hmB T Q
  | n + 1, Q => dtB T n Q || (fd T Q (dtB T n)).isSome
theorem fdF_none {T Q : Nat → Nat} {g : (Nat → Nat) → Bool} : ∀ {d f}, fdF T Q g f d = none → ∀ f' r', f ≤ f' → f' < f + d → r' < T 0 → mvB T Q f' r' = true → g (up Q f' r') = false
  | 0, f, _, f', r', h1, h2, _, _ => by omega
  | d + 1, f, h, f', r', h1, h2, h3, h4 => by
    unfold fdF at h
    cases e : fdR T Q g f with
    | some r => rw [e] at h; cases h
    | none =>
      rw [e] at h
      by_cases e2 : f' = f
      · have := lowF_none e r' (Nat.zero_le _) (by omega)
        rw [e2] at h4 ⊢
        try dsimp only at this
        rw [h4, Bool.true_and] at this
        exact this
      · exact fdF_none h f' r' (by omega) (by omega) h3 h4
theorem fdF_some {T Q : Nat → Nat} {g : (Nat → Nat) → Bool} (h0 : T 0 ≤ 5) : ∀ {d f a}, fdF T Q g f d = some a → ∃ f' r', f ≤ f' ∧ f' < f + d ∧ r' < T 0 ∧ a = 10 * f' + r' ∧ mvB T Q f' r' = true ∧ g (up Q f' r') = true ∧ ∀ f2 r2, f ≤ f2 → f2 < f + d → r2 < T 0 → mvB T Q f2 r2 = true → g (up Q f2 r2) = true → a ≤ 10 * f2 + r2
  | 0, f, a, h => by cases h
  | d + 1, f, a, h => by
    unfold fdF at h
    cases e : fdR T Q g f with
    | some r =>
      rw [e] at h
      cases h
      obtain ⟨k1, k2, k3, k4⟩ := lowF_some e
      try dsimp only at k3
      rw [Bool.and_eq_true] at k3
      refine ⟨f, r, Nat.le_refl _, by omega, by omega, rfl, k3.1, k3.2, fun f2 r2 g1 g2 g3 g4 g5 => ?_⟩
      by_cases e2 : f2 = f
      · by_cases e3 : r2 < r
        · have := k4 r2 (Nat.zero_le _) e3
          try dsimp only at this
          rw [← e2, g4, g5] at this
          cases this
        · omega
      · omega
    | none =>
      rw [e] at h
      obtain ⟨f', r', k1, k2, k3, k4, k5, k6, k7⟩ := fdF_some h0 h
      refine ⟨f', r', by omega, by omega, k3, k4, k5, k6, fun f2 r2 g1 g2 g3 g4 g5 => ?_⟩
      by_cases e2 : f2 = f
      · have := lowF_none e r2 (Nat.zero_le _) (by omega)
        try dsimp only at this
        rw [← e2, g4, g5] at this
        cases this
      · exact k7 f2 r2 (by omega) (by omega) g3 g4 g5
theorem fd_iff {T Q : Nat → Nat} {g : (Nat → Nat) → Bool} (h0 : T 0 ≤ 5) : (fd T Q g).isSome = true ↔ ∃ f r, mv T Q f r ∧ g (up Q f r) = true := by
  constructor
  · intro h
    cases e : fd T Q g with
    | none => rw [e] at h; cases h
    | some a =>
      obtain ⟨f, r, h1, h2, h3, h4, h5, h6, -⟩ := fdF_some h0 e
      exact ⟨f, r, ⟨by omega, h3, h5⟩, h6⟩
  · rintro ⟨f, r, h, h2⟩
    cases e : fd T Q g with
    | some a => rfl
    | none =>
      have := fdF_none e f r (Nat.zero_le _) (by have := h.1; omega) h.2.1 h.2.2
      rw [h2] at this; cases this
theorem dtB_iff {T : Nat → Nat} (h0 : T 0 ≤ 5) : ∀ {n Q}, dtB T n Q = true ↔ ∃ k, k ≤ n ∧ pth T k Q
  | 0, Q => ⟨fun h => ⟨0, Nat.le_refl _, h⟩, fun ⟨k, h1, h2⟩ => by rw [Nat.le_zero.mp h1] at h2; exact h2⟩
  | n + 1, Q => by
    show (dtB T n Q || (fd T Q (dtB T n)).isSome) = true ↔ _
    rw [Bool.or_eq_true, dtB_iff h0, fd_iff h0]
    constructor
    · rintro (⟨k, h1, h2⟩ | ⟨f, r, h1, h2⟩)
      · exact ⟨k, by omega, h2⟩
      · obtain ⟨k, g1, g2⟩ := (dtB_iff h0).mp h2
        exact ⟨k + 1, by omega, f, r, h1, g2⟩
    · rintro ⟨k, h1, h2⟩
      cases k with
      | zero => exact Or.inl ⟨0, Nat.zero_le _, h2⟩
      | succ k =>
        obtain ⟨f, r, g1, g2⟩ := h2
        exact Or.inr ⟨f, r, g1, (dtB_iff h0).mpr ⟨k, by omega, g2⟩⟩
/-- what a search finds: home by n + 1 drives and not by fewer, the least first drive a; or no way -/
def ResF (T P : Nat → Nat) (n a : Nat) : Prop := (∃ H, lr T P (n + 1) a H ∧ hmB T H = true) ∧ (∀ a' H, lr T P (n + 1) a' H → hmB T H = true → a ≤ a') ∧ ∀ k, k ≤ n → ∀ a' H, lr T P k a' H → hmB T H = false
def ResN (T P : Nat → Nat) : Prop := ∀ k a' H, lr T P k a' H → hmB T H = false
theorem dt_no {T P : Nat → Nat} (hT : WT T) {n : Nat} (h : ∀ k, k ≤ n → ∀ a' H, lr T P k a' H → hmB T H = false) {m : Nat} (hm : m ≤ n) : dtB T m P = false := by
  cases e : dtB T m P with
  | false => rfl
  | true =>
    obtain ⟨k, h1, h2⟩ := (dtB_iff hT.1).mp e
    cases k with
    | zero =>
      have := h 0 (Nat.zero_le _) 63 P ⟨rfl, rfl⟩
      rw [show hmB T P = true from h2] at this; cases this
    | succ k =>
      obtain ⟨f, r, g1, g2⟩ := h2
      obtain ⟨H, g3, g4⟩ := lr_pth hT (n := 0) (lr_one.mpr ⟨f, r, g1, rfl, rfl⟩) g2
      have := h (0 + 1 + k) (by omega) _ _ g3
      rw [g4] at this; cases this
theorem ResN.dt {T P : Nat → Nat} (hT : WT T) (h : ResN T P) (m : Nat) : dtB T m P = false := dt_no hT (n := m) (fun k _ => h k) (Nat.le_refl _)
theorem ResF.dt {T P : Nat → Nat} (hT : WT T) {n a : Nat} (h : ResF T P n a) : dtB T (n + 1) P = true ∧ (∀ m, m ≤ n → dtB T m P = false) ∧ fd T P (dtB T n) = some a := by
  obtain ⟨⟨H, h1, h2⟩, h3, h4⟩ := h
  obtain ⟨Q0, g1, g2⟩ := pth_lr hT (k := n) (n := 0) (j := 0) (by rw [show 0 + 1 + n = n + 1 by omega]; exact h1) h2
  obtain ⟨f, r, k1, k2, k3⟩ := lr_one.mp g1
  have hd : dtB T n (up P f r) = true := (dtB_iff hT.1).mpr ⟨n + 0, by omega, by rw [← k2]; exact g2⟩
  have hs : (fd T P (dtB T n)).isSome = true := (fd_iff hT.1).mpr ⟨f, r, k1, hd⟩
  refine ⟨by show (_ || _) = true; rw [hs, Bool.or_true], fun m hm => dt_no hT h4 hm, ?_⟩
  cases e : fd T P (dtB T n) with
  | none => rw [e] at hs; cases hs
  | some b =>
    obtain ⟨f', r', m1, m2, m3, m4, m5, m6, m7⟩ := fdF_some hT.1 e
    have l1 := m7 f r (Nat.zero_le _) (by have := k1.1; omega) k1.2.1 k1.2.2 hd
    obtain ⟨k, n1, n2⟩ := (dtB_iff hT.1).mp m6
    obtain ⟨H', n3, n4⟩ := lr_pth hT (n := 0) (lr_one.mpr ⟨f', r', ⟨by omega, m3, m5⟩, rfl, rfl⟩) n2
    by_cases ek : k = n
    · have l2 := h3 (10 * f' + r') H' (by rw [show n + 1 = 0 + 1 + k by omega]; exact n3) n4
      congr 1; omega
    · have := h4 (0 + 1 + k) (by omega) _ _ n3
      rw [n4] at this; cases this
