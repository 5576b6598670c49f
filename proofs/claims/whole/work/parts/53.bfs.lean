/-! ===== the way back: the search breadth first, and what holds in it ===== -/
abbrev bK : Type := (Nat → Nat × (Nat → Nat)) × (Nat → Bool) × Nat × Option Nat
/-- the queue holds different houses, just those seen -/
def wfB (T P : Nat → Nat) (b : bK) : Prop := (∀ j, j < b.2.2.1 → QB T P (b.1 j).2 ∧ (b.1 j).1 ≤ 63 ∧ b.2.1 (pkS (b.1 j).2) = true) ∧ (∀ Q, QB T P Q → b.2.1 (pkS Q) = true → ∃ j, j < b.2.2.1 ∧ (b.1 j).2 = Q) ∧ ∀ i j, i < b.2.2.1 → j < b.2.2.1 → (b.1 i).2 = (b.1 j).2 → i = j
theorem pig : ∀ (N n : Nat) (g : Nat → Nat), (∀ i, i < n → g i < N) → (∀ i j, i < n → j < n → g i = g j → i = j) → n ≤ N
  | 0, n, g, h, _ => by
    by_cases e : n = 0
    · omega
    · exact absurd (h 0 (by omega)) (by omega)
  | N + 1, n, g, h, hi => by
    by_cases e : ∃ i, i < n ∧ g i = N
    · obtain ⟨i, h1, h2⟩ := e
      have := pig N (n - 1) (fun j => if j = i then g (n - 1) else g j) (fun j hj => by
        try dsimp only
        by_cases ej : j = i
        · rw [if_pos ej]
          have h3 := h (n - 1) (by omega)
          have h4 : g (n - 1) ≠ N := fun q => by have := hi (n - 1) i (by omega) h1 (q.trans h2.symm); omega
          omega
        · rw [if_neg ej]
          have h3 := h j (by omega)
          have h4 : g j ≠ N := fun q => ej (hi j i (by omega) h1 (q.trans h2.symm))
          omega) (fun a b ha hb hab => by
        try dsimp only at hab
        by_cases ea : a = i <;> by_cases eb : b = i
        · omega
        · rw [if_pos ea, if_neg eb] at hab; have := hi (n - 1) b (by omega) (by omega) hab; omega
        · rw [if_neg ea, if_pos eb] at hab; have := hi a (n - 1) (by omega) (by omega) hab; omega
        · rw [if_neg ea, if_neg eb] at hab; exact hi a b (by omega) (by omega) hab)
      omega
    · have := pig N n g (fun i hi' => by
        have h3 := h i hi'
        have h4 : g i ≠ N := fun q => e ⟨i, hi', q⟩
        omega) hi
      omega
def code5 (Q : Nat → Nat) : Nat := Q 0 + 5 * Q 1 + 25 * Q 2 + 125 * Q 3 + 625 * Q 4
theorem QB.p5 {T P Q : Nat → Nat} (hT : WT T) (h : QB T P Q) : ∀ i, i < 5 → Q i < 5 := by
  intro i hi
  by_cases e : i < T 1
  · have := h.1.1 i e; have := hT.1; omega
  · rw [h.1.2.1 i (by omega) hi]; decide
theorem code5_lt {Q : Nat → Nat} (h : ∀ i, i < 5 → Q i < 5) : code5 Q < 3125 := by
  have h0 := h 0 (by decide); have h1 := h 1 (by decide); have h2 := h 2 (by decide); have h3 := h 3 (by decide); have h4 := h 4 (by decide)
  unfold code5; omega
theorem code5_inj {Q R : Nat → Nat} (h : ∀ i, i < 5 → Q i < 5) (g : ∀ i, i < 5 → R i < 5) (e : code5 Q = code5 R) : pkS Q = pkS R := by
  have h0 := h 0 (by decide); have h1 := h 1 (by decide); have h2 := h 2 (by decide); have h3 := h 3 (by decide); have h4 := h 4 (by decide)
  have g0 := g 0 (by decide); have g1 := g 1 (by decide); have g2 := g 2 (by decide); have g3 := g 3 (by decide); have g4 := g 4 (by decide)
  unfold code5 at e
  unfold pkS
  omega
theorem wfB.le {T P : Nat → Nat} {b : bK} (hT : WT T) (h : wfB T P b) : b.2.2.1 ≤ 3125 :=
  pig 3125 b.2.2.1 (fun i => code5 (b.1 i).2) (fun i hi => code5_lt ((h.1 i hi).1.p5 hT)) (fun i j hi hj e => h.2.2 i j hi hj ((h.1 i hi).1.eq hT (h.1 j hj).1 (code5_inj ((h.1 i hi).1.p5 hT) ((h.1 j hj).1.p5 hT) e)))
def upl (l : Nat → Nat × (Nat → Nat)) (e : Nat) (y : Nat × (Nat → Nat)) : Nat → Nat × (Nat → Nat) := fun j => if j = e then y else l j
theorem upl_s (l : Nat → Nat × (Nat → Nat)) (e : Nat) (y : Nat × (Nat → Nat)) : upl l e y e = y := if_pos rfl
theorem upl_n (l : Nat → Nat × (Nat → Nat)) {e j : Nat} (y : Nat × (Nat → Nat)) (h : j ≠ e) : upl l e y j = l j := if_neg h
/-- a house arrives at the queue's end -/
def bA (T : Nat → Nat) (b : bK) (a : Nat) (Q : Nat → Nat) : bK :=
  if b.2.1 (pkS Q) = true then b else (upl b.1 b.2.2.1 (a, Q), upB b.2.1 (pkS Q), b.2.2.1 + 1, if hmB T Q = true ∧ b.2.2.2 = none then some a else b.2.2.2)
theorem bA_t (T : Nat → Nat) {b : bK} {a : Nat} {Q : Nat → Nat} (h : b.2.1 (pkS Q) = true) : bA T b a Q = b := if_pos h
theorem bA_f (T : Nat → Nat) {b : bK} {a : Nat} {Q : Nat → Nat} (h : b.2.1 (pkS Q) = false) : bA T b a Q = (upl b.1 b.2.2.1 (a, Q), upB b.2.1 (pkS Q), b.2.2.1 + 1, if hmB T Q = true ∧ b.2.2.2 = none then some a else b.2.2.2) := if_neg (by rw [h]; decide)
theorem wfB.put {T P : Nat → Nat} {b : bK} (hT : WT T) (h : wfB T P b) {Q : Nat → Nat} (hQ : QB T P Q) (hs : b.2.1 (pkS Q) = false) {a : Nat} (ha : a ≤ 63) (fi : Option Nat) : wfB T P (upl b.1 b.2.2.1 (a, Q), upB b.2.1 (pkS Q), b.2.2.1 + 1, fi) := by
  obtain ⟨h1, h2, h3⟩ := h
  refine ⟨fun j hj => ?_, fun R hR hs2 => ?_, fun i j hi hj hij => ?_⟩
  · show QB T P (upl b.1 b.2.2.1 (a, Q) j).2 ∧ (upl b.1 b.2.2.1 (a, Q) j).1 ≤ 63 ∧ upB b.2.1 (pkS Q) (pkS (upl b.1 b.2.2.1 (a, Q) j).2) = true
    by_cases e : j = b.2.2.1
    · rw [e, upl_s]
      exact ⟨hQ, ha, if_pos rfl⟩
    · rw [upl_n _ _ e]
      have hj' : j < b.2.2.1 + 1 := hj
      obtain ⟨g1, g2, g3⟩ := h1 j (by omega)
      refine ⟨g1, g2, ?_⟩
      unfold upB
      split
      · rfl
      · exact g3
  · show ∃ j, j < b.2.2.1 + 1 ∧ (upl b.1 b.2.2.1 (a, Q) j).2 = R
    by_cases e : pkS R = pkS Q
    · exact ⟨b.2.2.1, Nat.lt_succ_self _, by rw [upl_s]; exact hQ.eq hT hR e.symm⟩
    · have hs3 : upB b.2.1 (pkS Q) (pkS R) = true := hs2
      unfold upB at hs3
      rw [if_neg e] at hs3
      obtain ⟨j, g1, g2⟩ := h2 R hR hs3
      exact ⟨j, by omega, by rw [upl_n _ _ (by omega)]; exact g2⟩
  · have hi' : i < b.2.2.1 + 1 := hi
    have hj' : j < b.2.2.1 + 1 := hj
    have hij' : (upl b.1 b.2.2.1 (a, Q) i).2 = (upl b.1 b.2.2.1 (a, Q) j).2 := hij
    by_cases e1 : i = b.2.2.1 <;> by_cases e2 : j = b.2.2.1
    · omega
    · rw [e1, upl_s, upl_n _ _ e2] at hij'
      have := (h1 j (by omega)).2.2
      rw [← hij', hs] at this; cases this
    · rw [e2, upl_s, upl_n _ _ e1] at hij'
      have := (h1 i (by omega)).2.2
      rw [hij', hs] at this; cases this
    · rw [upl_n _ _ e1, upl_n _ _ e2] at hij'
      exact h3 i j (by omega) (by omega) hij'
theorem wfB.lt {T P : Nat → Nat} {b : bK} (hT : WT T) (h : wfB T P b) {Q : Nat → Nat} (hQ : QB T P Q) (hs : b.2.1 (pkS Q) = false) : b.2.2.1 < 3125 := (h.put hT hQ hs (a := 0) (by decide) none).le hT
/-- a layer: the houses h .. le - 1 of the queue, all those that n drives reach first -/
def bB (T P : Nat → Nat) (n h le : Nat) (l0 : Nat → Nat × (Nat → Nat)) : Prop :=
  h ≤ le ∧ (∀ j, j < le → QB T P (l0 j).2 ∧ hmB T (l0 j).2 = false) ∧ (∀ i j, i < le → j < le → (l0 i).2 = (l0 j).2 → i = j) ∧
  (∀ j, h ≤ j → j < le → lr T P n (l0 j).1 (l0 j).2) ∧
  (∀ a Q, lr T P n a Q → (∃ j, j < h ∧ (l0 j).2 = Q) ∨ ∃ j, h ≤ j ∧ j < le ∧ (l0 j).2 = Q ∧ (l0 j).1 ≤ a) ∧
  (∀ i j, h ≤ i → i ≤ j → j < le → (l0 i).1 ≤ (l0 j).1) ∧
  (∀ j f r, j < h → mv T (l0 j).2 f r → ∃ k, k < le ∧ (l0 k).2 = up (l0 j).2 f r) ∧
  (∀ k a' H, k ≤ n → lr T P k a' H → ∃ j, j < le ∧ (l0 j).2 = H)
/-- what comes before drive f r of house c -/
def pre (c f r i g q : Nat) : Prop := i < c ∨ i = c ∧ (g < f ∨ g = f ∧ q < r)
theorem bB.ev {T P : Nat → Nat} {n h le : Nat} {l0 : Nat → Nat × (Nat → Nat)} (hT : WT T) (hB : bB T P n h le l0) {i g q c f r : Nat} (hi : h ≤ i) (hi2 : i < le) (hc : h ≤ c) (hc2 : c < le) (hq : q < T 0) (hp : pre c f r i g q) : nl (l0 i).1 g q ≤ nl (l0 c).1 f r := by
  obtain ⟨-, -, b3, b4, -, b6, -⟩ := hB
  have k1 := b4 i hi hi2
  have k2 := b4 c hc hc2
  have t0 := hT.1
  cases n with
  | zero =>
    have e : i = c := b3 i c hi2 hc2 (k1.2.trans k2.2.symm)
    unfold nl
    rw [if_pos k1.1, if_pos k2.1]
    unfold pre at hp
    omega
  | succ n =>
    have l1 := lr_lab hT k1
    have l2 := lr_lab hT k2
    unfold nl
    rw [if_neg (by omega), if_neg (by omega)]
    exact b6 i c hi (by unfold pre at hp; omega) hc2
theorem lr_mono {T P : Nat → Nat} (hT : WT T) {n a b : Nat} {Q R : Nat → Nat} (h1 : lr T P n a Q) (h2 : lr T P n b R) (h : a ≤ b) (f r : Nat) : nl a f r ≤ nl b f r := by
  cases n with
  | zero => rw [h1.1, h2.1]; exact Nat.le_refl _
  | succ n =>
    have l1 := lr_lab hT h1
    have l2 := lr_lab hT h2
    unfold nl
    rw [if_neg (by omega), if_neg (by omega)]
    exact h
def bI (T P : Nat → Nat) (n h le : Nat) (l0 : Nat → Nat × (Nat → Nat)) (c f r : Nat) (b : bK) : Prop :=
  wfB T P b ∧ le ≤ b.2.2.1 ∧ (∀ j, j < le → b.1 j = l0 j) ∧ (∀ a, b.2.2.2 = some a → ResF T P n a) ∧ (b.2.2.2 = none →
    (∀ j, le ≤ j → j < b.2.2.1 → ∃ i g q, pre c f r i g q ∧ h ≤ i ∧ i < le ∧ mv T (l0 i).2 g q ∧ (b.1 j).2 = up (l0 i).2 g q ∧ (b.1 j).1 = nl (l0 i).1 g q) ∧
    (∀ i j, le ≤ i → i ≤ j → j < b.2.2.1 → (b.1 i).1 ≤ (b.1 j).1) ∧
    (∀ i g q, pre c f r i g q → h ≤ i → i < le → mv T (l0 i).2 g q → (∃ j, j < le ∧ (l0 j).2 = up (l0 i).2 g q) ∨ ∃ j, le ≤ j ∧ j < b.2.2.1 ∧ (b.1 j).2 = up (l0 i).2 g q ∧ (b.1 j).1 ≤ nl (l0 i).1 g q) ∧
    (∀ j, j < b.2.2.1 → hmB T (b.1 j).2 = false))
theorem bI.next {T P : Nat → Nat} {n h le : Nat} {l0 : Nat → Nat × (Nat → Nat)} {c f r c' f' r' : Nat} {b : bK} (hI : bI T P n h le l0 c f r b) (hp : ∀ i g q, h ≤ i → i < le → mv T (l0 i).2 g q → (pre c f r i g q ↔ pre c' f' r' i g q)) : bI T P n h le l0 c' f' r' b := by
  obtain ⟨h1, h2, h3, h4, h5⟩ := hI
  refine ⟨h1, h2, h3, h4, fun e => ?_⟩
  obtain ⟨k1, k2, k3, k4⟩ := h5 e
  refine ⟨fun j g1 g2 => ?_, k2, fun i g q g1 g2 g3 g4 => k3 i g q ((hp i g q g2 g3 g4).mpr g1) g2 g3 g4, k4⟩
  obtain ⟨i, g, q, m1, m2, m3, m4, m5⟩ := k1 j g1 g2
  exact ⟨i, g, q, (hp i g q m2 m3 m4).mp m1, m2, m3, m4, m5⟩
theorem nl_le {a f r : Nat} (ha : a ≤ 63) (h : 10 * f + r ≤ 63) : nl a f r ≤ 63 := by unfold nl; split <;> omega
theorem bI.found {T P : Nat → Nat} {n h le : Nat} {l0 : Nat → Nat × (Nat → Nat)} {c f r : Nat} {b : bK} (hT : WT T) (hB : bB T P n h le l0) (hI : bI T P n h le l0 c f r b) (hc : h ≤ c) (hc2 : c < le) (hm : mv T (l0 c).2 f r) (hn : b.2.2.2 = none) (hh : hmB T (up (l0 c).2 f r) = true) : ResF T P n (nl (l0 c).1 f r) := by
  obtain ⟨b1, b2, b3, b4, b5, b6, b7, b8⟩ := id hB
  obtain ⟨h1, h2, h3, h4, h5⟩ := hI
  obtain ⟨k1, k2, k3, k4⟩ := h5 hn
  refine ⟨⟨_, ⟨_, _, f, r, b4 c hc hc2, hm, rfl, rfl⟩, hh⟩, fun a' H hl hH => ?_, fun k hk a' H hl => ?_⟩
  · obtain ⟨a2, Q2, g, q, m1, m2, rfl, rfl⟩ := hl
    rcases b5 a2 Q2 m1 with ⟨j, j1, rfl⟩ | ⟨j, j1, j2, rfl, j4⟩
    · obtain ⟨k, n1, n2⟩ := b7 j g q j1 m2
      have := (b2 k n1).2
      rw [n2, hH] at this; cases this
    · by_cases hp : pre c f r j g q
      · rcases k3 j g q hp j1 j2 m2 with ⟨k, n1, n2⟩ | ⟨k, n1, n2, n3, -⟩
        · have := (b2 k n1).2
          rw [n2, hH] at this; cases this
        · have := k4 k n2
          rw [n3, hH] at this; cases this
      · have e1 : nl (l0 c).1 f r ≤ nl (l0 j).1 g q := by
          by_cases e : j = c ∧ g = f ∧ q = r
          · rw [e.1, e.2.1, e.2.2]; exact Nat.le_refl _
          · exact hB.ev hT hc hc2 j1 j2 hm.2.1 (by unfold pre at hp ⊢; omega)
        exact Nat.le_trans e1 (lr_mono hT (b4 j j1 j2) m1 j4 g q)
  · obtain ⟨j, j1, j2⟩ := b8 k a' H hk hl
    rw [← j2]; exact (b2 j j1).2
theorem bI.step {T P : Nat → Nat} {n h le : Nat} {l0 : Nat → Nat × (Nat → Nat)} {c f r : Nat} {b : bK} (hT : WT T) (hB : bB T P n h le l0) (hI : bI T P n h le l0 c f r b) (hc : h ≤ c) (hc2 : c < le) (hm : mv T (l0 c).2 f r) : bI T P n h le l0 c f (r + 1) (bA T b (nl (l0 c).1 f r) (up (l0 c).2 f r)) := by
  obtain ⟨h1, h2, h3, h4, h5⟩ := id hI
  have hQ : QB T P (up (l0 c).2 f r) := (hB.2.1 c hc2).1.mv hT hm.1 hm.2.1
  have t0 := hT.1
  have t1 := hT.2.1
  have hm1 := hm.1
  have hm2 := hm.2.1
  have hlab : nl (l0 c).1 f r ≤ 63 := nl_le (by rw [← h3 c hc2]; exact (h1.1 c (by omega)).2.1) (by omega)
  have hpre : ∀ {i g q}, pre c f (r + 1) i g q → pre c f r i g q ∨ (i = c ∧ g = f ∧ q = r) := fun {i g q} w => by unfold pre at w ⊢; omega
  have hmon : ∀ {i g q}, pre c f r i g q → pre c f (r + 1) i g q := fun {i g q} w => by unfold pre at w ⊢; omega
  have hself : pre c f (r + 1) c f r := by unfold pre; omega
  cases hs : b.2.1 (pkS (up (l0 c).2 f r)) with
  | true =>
    rw [bA_t T hs]
    refine ⟨h1, h2, h3, h4, fun e => ?_⟩
    obtain ⟨k1, k2, k3, k4⟩ := h5 e
    refine ⟨fun j g1 g2 => ?_, k2, fun i g q g1 g2 g3 g4 => ?_, k4⟩
    · obtain ⟨i, g, q, m1, m2⟩ := k1 j g1 g2
      exact ⟨i, g, q, hmon m1, m2⟩
    · rcases hpre g1 with w | ⟨rfl, rfl, rfl⟩
      · exact k3 i g q w g2 g3 g4
      · obtain ⟨j, j1, j2⟩ := h1.2.1 _ hQ hs
        by_cases hj : j < le
        · exact Or.inl ⟨j, hj, by rw [← h3 j hj]; exact j2⟩
        · obtain ⟨i', g', q', m1, m2, m3, m4, m5, m6⟩ := k1 j (by omega) j1
          exact Or.inr ⟨j, by omega, j1, j2, by rw [m6]; exact hB.ev hT m2 m3 hc hc2 m4.2.1 m1⟩
  | false =>
    rw [bA_f T hs]
    have hw := h1.put hT hQ hs hlab (if hmB T (up (l0 c).2 f r) = true ∧ b.2.2.2 = none then some (nl (l0 c).1 f r) else b.2.2.2)
    refine ⟨hw, Nat.le_succ_of_le h2, fun j hj => ?_, fun a ha => ?_, fun e => ?_⟩
    · show upl _ _ _ j = _
      rw [upl_n _ _ (by omega)]; exact h3 j hj
    · have ha2 : (if hmB T (up (l0 c).2 f r) = true ∧ b.2.2.2 = none then some (nl (l0 c).1 f r) else b.2.2.2) = some a := ha
      by_cases hh : hmB T (up (l0 c).2 f r) = true ∧ b.2.2.2 = none
      · rw [if_pos hh] at ha2
        cases ha2
        exact hI.found hT hB hc hc2 hm hh.2 hh.1
      · rw [if_neg hh] at ha2
        exact h4 a ha2
    · have e2 : (if hmB T (up (l0 c).2 f r) = true ∧ b.2.2.2 = none then some (nl (l0 c).1 f r) else b.2.2.2) = none := e
      have e3 : b.2.2.2 = none := by
        by_cases hh : hmB T (up (l0 c).2 f r) = true ∧ b.2.2.2 = none
        · exact hh.2
        · rw [if_neg hh] at e2; exact e2
      have e4 : hmB T (up (l0 c).2 f r) = false := by
        cases hx : hmB T (up (l0 c).2 f r) with
        | false => rfl
        | true => rw [if_pos ⟨hx, e3⟩] at e2; cases e2
      obtain ⟨k1, k2, k3, k4⟩ := h5 e3
      refine ⟨fun j g1 g2 => ?_, fun i j g1 g2 g3 => ?_, fun i g q g1 g2 g3 g4 => ?_, fun j hj => ?_⟩
      · have g2' : j < b.2.2.1 + 1 := g2
        show ∃ i g q, pre c f (r + 1) i g q ∧ h ≤ i ∧ i < le ∧ mv T (l0 i).2 g q ∧ (upl b.1 b.2.2.1 (nl (l0 c).1 f r, up (l0 c).2 f r) j).2 = up (l0 i).2 g q ∧ (upl b.1 b.2.2.1 (nl (l0 c).1 f r, up (l0 c).2 f r) j).1 = nl (l0 i).1 g q
        by_cases ej : j = b.2.2.1
        · rw [ej, upl_s]
          exact ⟨c, f, r, hself, hc, hc2, hm, rfl, rfl⟩
        · rw [upl_n _ _ ej]
          obtain ⟨i, g, q, m1, m2⟩ := k1 j g1 (by omega)
          exact ⟨i, g, q, hmon m1, m2⟩
      · have g3' : j < b.2.2.1 + 1 := g3
        show (upl b.1 b.2.2.1 (nl (l0 c).1 f r, up (l0 c).2 f r) i).1 ≤ (upl b.1 b.2.2.1 (nl (l0 c).1 f r, up (l0 c).2 f r) j).1
        by_cases ej : j = b.2.2.1
        · by_cases ei : i = b.2.2.1
          · rw [ei, ej]; exact Nat.le_refl _
          · rw [ej, upl_s, upl_n _ _ ei]
            obtain ⟨i', g', q', m1, m2, m3, m4, m5, m6⟩ := k1 i g1 (by omega)
            rw [m6]
            exact hB.ev hT m2 m3 hc hc2 m4.2.1 m1
        · rw [upl_n _ _ ej, upl_n _ _ (by omega)]
          exact k2 i j g1 g2 (by omega)
      · rcases hpre g1 with w | ⟨rfl, rfl, rfl⟩
        · rcases k3 i g q w g2 g3 g4 with m | ⟨j, m1, m2, m3, m4⟩
          · exact Or.inl m
          · refine Or.inr ⟨j, m1, Nat.lt_succ_of_lt m2, ?_⟩
            show (upl b.1 b.2.2.1 _ j).2 = _ ∧ (upl b.1 b.2.2.1 _ j).1 ≤ _
            rw [upl_n _ _ (by omega)]; exact ⟨m3, m4⟩
        · refine Or.inr ⟨b.2.2.1, h2, Nat.lt_succ_self _, ?_⟩
          show (upl b.1 b.2.2.1 _ b.2.2.1).2 = _ ∧ (upl b.1 b.2.2.1 _ b.2.2.1).1 ≤ _
          rw [upl_s]; exact ⟨rfl, Nat.le_refl _⟩
      · have hj' : j < b.2.2.1 + 1 := hj
        show hmB T (upl b.1 b.2.2.1 (nl (l0 c).1 f r, up (l0 c).2 f r) j).2 = false
        by_cases ej : j = b.2.2.1
        · rw [ej, upl_s]; exact e4
        · rw [upl_n _ _ ej]; exact k4 j (by omega)
theorem bI.skip {T P : Nat → Nat} {n h le : Nat} {l0 : Nat → Nat × (Nat → Nat)} {c f r : Nat} {b : bK} (hI : bI T P n h le l0 c f r b) (hm : mvB T (l0 c).2 f r = false) : bI T P n h le l0 c f (r + 1) b :=
  hI.next fun i g q h1 h2 h3 => by
    constructor
    · intro w; unfold pre at w ⊢; omega
    · intro w
      by_cases e : i = c ∧ g = f ∧ q = r
      · rw [e.1, e.2.1, e.2.2] at h3
        rw [h3.2.2] at hm; cases hm
      · unfold pre at w ⊢; omega
theorem bI.start {T P : Nat → Nat} {n h : Nat} {b : bK} (hB : bB T P n h b.2.2.1 b.1) (hw : wfB T P b) (hn : b.2.2.2 = none) : bI T P n h b.2.2.1 b.1 h 0 0 b :=
  ⟨hw, Nat.le_refl _, fun _ _ => rfl, fun a ha => (by rw [hn] at ha; cases ha), fun _ => ⟨fun j h1 h2 => by omega, fun i j h1 h2 h3 => by omega, fun i g q h1 h2 h3 h4 => by unfold pre at h1; omega, fun j hj => (hB.2.1 j hj).2⟩⟩
theorem bI.done {T P : Nat → Nat} {n h le : Nat} {l0 : Nat → Nat × (Nat → Nat)} {b : bK} (hT : WT T) (hB : bB T P n h le l0) (hI : bI T P n h le l0 le 0 0 b) (hn : b.2.2.2 = none) : bB T P (n + 1) le b.2.2.1 b.1 := by
  obtain ⟨b1, b2, b3, b4, b5, b6, b7, b8⟩ := id hB
  obtain ⟨h1, h2, h3, h4, h5⟩ := hI
  obtain ⟨k1, k2, k3, k4⟩ := h5 hn
  have hall : ∀ {i g q}, i < le → pre le 0 0 i g q := fun hi => Or.inl hi
  have hnew : ∀ a Q, lr T P (n + 1) a Q → (∃ j, j < le ∧ (b.1 j).2 = Q) ∨ ∃ j, le ≤ j ∧ j < b.2.2.1 ∧ (b.1 j).2 = Q ∧ (b.1 j).1 ≤ a := by
    rintro a Q ⟨a', Q', f, r, m1, m2, rfl, rfl⟩
    rcases b5 a' Q' m1 with ⟨j, j1, rfl⟩ | ⟨j, j1, j2, rfl, j4⟩
    · obtain ⟨k, n1, n2⟩ := b7 j f r j1 m2
      exact Or.inl ⟨k, n1, by rw [h3 k n1]; exact n2⟩
    · rcases k3 j f r (hall j2) j1 j2 m2 with ⟨k, n1, n2⟩ | ⟨k, n1, n2, n3, n4⟩
      · exact Or.inl ⟨k, n1, by rw [h3 k n1]; exact n2⟩
      · exact Or.inr ⟨k, n1, n2, n3, Nat.le_trans n4 (lr_mono hT (b4 j j1 j2) m1 j4 f r)⟩
  refine ⟨h2, fun j hj => ⟨(h1.1 j hj).1, k4 j hj⟩, h1.2.2, fun j g1 g2 => ?_, hnew, k2, fun j f r g1 g2 => ?_, fun k a' H g1 g2 => ?_⟩
  · obtain ⟨i, g, q, m1, m2, m3, m4, m5, m6⟩ := k1 j g1 g2
    exact ⟨_, _, g, q, b4 i m2 m3, m4, m5, m6⟩
  · rw [h3 j g1] at g2 ⊢
    by_cases e : j < h
    · obtain ⟨k, n1, n2⟩ := b7 j f r e g2
      exact ⟨k, by omega, by rw [h3 k n1]; exact n2⟩
    · rcases k3 j f r (hall g1) (by omega) g1 g2 with ⟨k, n1, n2⟩ | ⟨k, n1, n2, n3, n4⟩
      · exact ⟨k, by omega, by rw [h3 k n1]; exact n2⟩
      · exact ⟨k, n2, n3⟩
  · by_cases e : k ≤ n
    · obtain ⟨j, j1, j2⟩ := b8 k a' H e g2
      exact ⟨j, by omega, by rw [h3 j j1]; exact j2⟩
    · rw [show k = n + 1 by omega] at g2
      rcases hnew a' H g2 with ⟨j, j1, j2⟩ | ⟨j, j1, j2, j3, -⟩
      · exact ⟨j, by omega, j2⟩
      · exact ⟨j, j2, j3⟩
theorem bB.none {T P : Nat → Nat} {n le : Nat} {l0 : Nat → Nat × (Nat → Nat)} (hB : bB T P n le le l0) : ResN T P := by
  obtain ⟨b1, b2, b3, b4, b5, b6, b7, b8⟩ := hB
  have key : ∀ k a Q, lr T P k a Q → ∃ j, j < le ∧ (l0 j).2 = Q := by
    intro k
    induction k with
    | zero => intro a Q h; exact b8 0 a Q (Nat.zero_le _) h
    | succ k ih =>
      rintro a Q ⟨a', Q', f, r, m1, m2, rfl, rfl⟩
      obtain ⟨j, j1, rfl⟩ := ih a' Q' m1
      exact b7 j f r j1 m2
  intro k a H h
  obtain ⟨j, j1, j2⟩ := key k a H h
  rw [← j2]; exact (b2 j j1).2
theorem bB.first {T P : Nat → Nat} {b : bK} (hP : QB T P P) (hh : hmB T P = false) (he : b.2.2.1 = 1) (hl : b.1 0 = (63, P)) : bB T P 0 0 b.2.2.1 b.1 := by
  rw [he]
  refine ⟨by decide, fun j hj => ?_, fun i j hi hj _ => by omega, fun j _ hj => ?_, fun a Q h => Or.inr ⟨0, Nat.le_refl _, by decide, ?_, ?_⟩, fun i j _ h1 h2 => ?_, fun j f r h1 _ => by omega, fun k a' H hk h => ⟨0, by decide, ?_⟩⟩
  · rw [show j = 0 by omega, hl]; exact ⟨hP, hh⟩
  · rw [show j = 0 by omega, hl]; exact ⟨rfl, rfl⟩
  · rw [hl]; exact h.2.symm
  · rw [hl, h.1]; exact Nat.le_refl _
  · rw [show i = j by omega]; exact Nat.le_refl _
  · rw [Nat.le_zero.mp hk] at h
    rw [hl]; exact h.2.symm
