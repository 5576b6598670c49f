/-! ===== the reference's tokens ===== -/
def ltI (tx : Nat → Nat) (n k : Nat) : Int32 := if k < n then nI (tx k) else -1
def wdB (v : Nat) : Bool := decide (v = 114 ∨ v = 100 ∨ v = 102 ∨ v = 110)
theorem upI_upI (w : Nat → Int32) (i : Nat) (a b : Int32) : upI (upI w i a) i b = upI w i b := by
  funext j
  unfold upI
  by_cases e : j = i
  · rw [if_pos e, if_pos e]
  · rw [if_neg e, if_neg e, if_neg e]
theorem upI_id {w : Nat → Int32} {i : Nat} {a : Int32} (h : w i = a) : upI w i a = w := by
  funext j
  unfold upI
  by_cases e : j = i
  · rw [if_pos e, e]; exact h.symm
  · rw [if_neg e]
/-- the number so far, j digits behind the first -/
def rvN (tx : Nat → Nat) (s : Nat) : Nat → Nat
  | 0 => tx s - 48
  | j + 1 => if tx s = 48 ∨ 99 < rvN tx s j then 1000 else 10 * rvN tx s j + (tx (s + 1 + j) - 48)
theorem rvN_le (tx : Nat → Nat) {s : Nat} (h0 : tx s ≤ 57) : ∀ j, (∀ i, i < j → tx (s + 1 + i) ≤ 57) → rvN tx s j ≤ 1000
  | 0, _ => by show tx s - 48 ≤ 1000; omega
  | j + 1, h => by
    have := rvN_le tx h0 j fun i hi => h i (by omega)
    have := h j (by omega)
    unfold rvN
    split
    · omega
    · omega
theorem rvN_big (tx : Nat → Nat) {s : Nat} (h0 : 48 ≤ tx s) : ∀ j, 2 ≤ j → 100 ≤ rvN tx s j
  | 0, h => by omega
  | 1, h => by omega
  | j + 2, _ => by
    show 100 ≤ if tx s = 48 ∨ 99 < rvN tx s (j + 1) then 1000 else 10 * rvN tx s (j + 1) + (tx (s + 1 + (j + 1)) - 48)
    by_cases g : tx s = 48 ∨ 99 < rvN tx s (j + 1)
    · rw [if_pos g]; omega
    · rw [if_neg g]
      have h1 : 10 ≤ rvN tx s (j + 1) := by
        cases j with
        | zero =>
          show 10 ≤ if tx s = 48 ∨ 99 < rvN tx s 0 then 1000 else 10 * rvN tx s 0 + (tx (s + 1 + 0) - 48)
          have e : rvN tx s 0 = tx s - 48 := rfl
          split
          · omega
          · rename_i q
            rw [e]; omega
        | succ j =>
          have h2 : 100 ≤ rvN tx s (j + 1 + 1) := rvN_big tx h0 (j + 2) (by omega)
          omega
      omega
theorem rvN_tk {tx : Nat → Nat} {n s : Nat} (hs : dgB tx n s = true) : (tkV tx n s < 100 → rvN tx s (de tx n (s + 1) - (s + 1)) = tkV tx n s) ∧ (¬ tkV tx n s < 100 → 100 ≤ rvN tx s (de tx n (s + 1) - (s + 1))) := by
  obtain ⟨d1, d2, d3⟩ := dgB_t hs
  obtain ⟨h1, h2, h3, h4⟩ := de_spec tx (show s + 1 ≤ n by omega)
  unfold tkV
  cases g1 : dgB tx n (s + 1) with
  | false =>
    have e : de tx n (s + 1) = s + 1 := by
      by_cases e : s + 1 < de tx n (s + 1)
      · have := h3 (s + 1) (Nat.le_refl _) e
        rw [g1] at this; cases this
      · omega
    rw [e, Nat.sub_self, if_neg (show ¬ (false = true) by decide)]
    exact ⟨fun _ => rfl, fun w => by omega⟩
  | true =>
    have e1 : s + 1 < de tx n (s + 1) := by
      by_cases e : de tx n (s + 1) = s + 1
      · rw [e, g1] at h4; cases h4
      · omega
    obtain ⟨f1, f2, f3⟩ := dgB_t g1
    rw [if_pos rfl]
    cases g2 : dgB tx n (s + 2) with
    | false =>
      have e : de tx n (s + 1) = s + 2 := by
        by_cases e : s + 2 < de tx n (s + 1)
        · have := h3 (s + 2) (by omega) e
          rw [g2] at this; cases this
        · omega
      rw [e, show s + 2 - (s + 1) = 0 + 1 by omega]
      by_cases g0 : tx s = 48
      · rw [if_pos (Or.inl g0)]
        refine ⟨fun w => by omega, fun _ => ?_⟩
        unfold rvN; rw [if_pos (Or.inl g0)]; omega
      · rw [if_neg (show ¬ (tx s = 48 ∨ false = true) from fun w => w.elim g0 (fun w => by cases w))]
        refine ⟨fun _ => ?_, fun w => by omega⟩
        unfold rvN
        have e : rvN tx s 0 = tx s - 48 := rfl
        rw [if_neg (by rw [e]; omega), e]
    | true =>
      have e2 : s + 2 < de tx n (s + 1) := by
        by_cases e : de tx n (s + 1) = s + 2
        · rw [e, g2] at h4; cases h4
        · omega
      rw [if_pos (Or.inr rfl)]
      exact ⟨fun w => by omega, fun _ => rvN_big tx d2 _ (by omega)⟩
/-- what a token leaves in the reference -/
def tkR (tx : Nat → Nat) (n s : Nat) (w w' : Nat → Int32) : Prop := w' 0 = w 0 ∧ w' 1 = w 1 ∧ w' 2 = w 2 ∧ w' 5 = nI s ∧
  ((n ≤ s ∧ w' 4 = nI 0) ∨
   (s < n ∧ dgB tx n s = true ∧ w' 4 = nI 2 ∧ w' 3 = nI (de tx n (s + 1)) ∧ ∃ rv, rv ≤ 1000 ∧ w' 6 = nI rv ∧ (tkV tx n s < 100 → rv = tkV tx n s) ∧ (¬ tkV tx n s < 100 → 100 ≤ rv)) ∨
   (s < n ∧ dgB tx n s = false ∧ w' 3 = nI (s + 1) ∧ w' 6 = nI (tx s) ∧ w' 4 = nI (if wdB (tx s) = true then 1 else if tx s = 59 then 3 else 4)))
section RK
variable {σ : qH} {m n : Nat} {tr : Int64} {w : Nat → Int32} {tx : Nat → Nat}
theorem m_let (h0 : σ.1 m = some (mC m tr w)) (h1 : σ.1 (m + 1) = some (iA 120 tx)) (hw : w 0 = nI n) (hn : n ≤ 120) {k : Nat} (hk : k < 2 ^ 31) : q_call 6 [.ref m, .int (nI k)] σ = some (some (.int (ltI tx n k)), σ) := by
  unfold ltI
  rw [k_6 h0, e_6_0, m_typed h0, q_obS, hw]
  by_cases g : k < n
  · rw [if_neg (nI_ge g (by omega)), m_text h0, q_obS, a_rd h1 (by omega) (by decide), q_obS, if_pos g]
  · rw [if_pos (nI_le (by omega) hk), if_neg g]
theorem m_word (σ : qH) {v : Nat} (hv : v < 256) : q_call 7 [.int (nI v)] σ = some (some (.int (nI (wdB v).toNat)), σ) := by
  have hne : ∀ {b : Nat}, b < 256 → v ≠ b → ¬ nI v = nI b := fun hb q w => q ((nI_eq (by omega) (by omega)).mp w)
  rw [k_7, e_7_0]
  unfold wdB
  by_cases g1 : v = 114
  · rw [if_pos (by rw [g1]), e_7_24, decide_eq_true (Or.inl g1)]; rfl
  · rw [if_neg (hne (by decide) g1)]
    by_cases g2 : v = 100
    · rw [if_pos (by rw [g2]), e_7_24, decide_eq_true (Or.inr (Or.inl g2))]; rfl
    · rw [if_neg (hne (by decide) g2)]
      by_cases g3 : v = 102
      · rw [if_pos (by rw [g3]), e_7_24, decide_eq_true (Or.inr (Or.inr (Or.inl g3)))]; rfl
      · rw [if_neg (hne (by decide) g3)]
        by_cases g4 : v = 110
        · rw [if_pos (by rw [g4]), e_7_24, decide_eq_true (Or.inr (Or.inr (Or.inr g4)))]; rfl
        · rw [if_neg (hne (by decide) g4), decide_eq_false (by omega)]; rfl
theorem m_digAt (σ : qH) (h8 : ∀ j, tx j < 256) (k : Nat) : q_call 9 [.int (ltI tx n k)] σ = some (some (.int (nI (dgB tx n k).toNat)), σ) := by
  have e : decide (nI 48 ≤ ltI tx n k ∧ ltI tx n k ≤ nI 57) = dgB tx n k := by
    unfold ltI dgB
    have := h8 k
    by_cases g : k < n
    · rw [if_pos g]
      exact dec_and _ _ ⟨fun w => ⟨g, (nI_leI (by decide) (by omega)).mp w.1, (nI_leI (by omega) (by decide)).mp w.2⟩, fun w => ⟨nI_le w.2.1 (by omega), nI_le w.2.2 (by decide)⟩⟩
    · rw [if_neg g, decide_eq_false (show ¬ (k < n ∧ 48 ≤ tx k ∧ tx k ≤ 57) from fun w => g w.1)]
      decide
  rw [k_9, e_9_0, m_in, q_cIS, q_obS, e]
  exact ct_bt _ _
/-- the digits -/
theorem m_digits2 (h1 : σ.1 (m + 1) = some (iA 120 tx)) (hn : n ≤ 120) (h8 : ∀ j, tx j < 256) {s : Nat} (hs : dgB tx n s = true) : ∀ d j (w : Nat → Int32), s + 1 + j + d = de tx n (s + 1) → w 0 = nI n → w 3 = nI (s + 1 + j) → w 6 = nI (rvN tx s j) →
    ∃ w', q_run 10 130 [(0, .ref m), (1, .int (nI (tx s)))] [] (q_upd σ m (mC m tr w)) = some (none, q_upd σ m (mC m tr w')) ∧ w' 0 = w 0 ∧ w' 1 = w 1 ∧ w' 2 = w 2 ∧ w' 4 = w 4 ∧ w' 5 = w 5 ∧ w' 3 = nI (de tx n (s + 1)) ∧ w' 6 = nI (rvN tx s (de tx n (s + 1) - (s + 1))) := by
  obtain ⟨d1, d2, d3⟩ := dgB_t hs
  obtain ⟨e1, e2, e3, e4⟩ := de_spec tx (show s + 1 ≤ n by omega)
  have q0 : ∀ {w}, (q_upd σ m (mC m tr w)).1 m = some (mC m tr w) := fun {w} => u_s ..
  have q1 : ∀ {w}, (q_upd σ m (mC m tr w)).1 (m + 1) = some (iA 120 tx) := fun {w} => (u_n _ _ (by omega)).trans h1
  intro d
  induction d with
  | zero =>
    intro j w hj w0 w3 w6
    refine ⟨w, ?_, rfl, rfl, rfl, rfl, rfl, by rw [w3]; congr 1, by rw [w6]; congr 2; omega⟩
    rw [e_10_130, m_at q0, q_obS, w3, m_let q0 q1 w0 hn (by omega), q_cIS, q_obS]
    dsimp only
    rw [m_digAt _ h8, q_cIS, q_obS, show s + 1 + j = de tx n (s + 1) by omega, e4]
    rfl
  | succ d ih =>
    intro j w hj w0 w3 w6
    have hd := e3 (s + 1 + j) (by omega) (by omega)
    obtain ⟨f1, f2, f3⟩ := dgB_t hd
    have hrl := rvN_le tx d3 j (fun i hi => (dgB_t (e3 (s + 1 + i) (by omega) (by omega))).2.2)
    have el : ltI tx n (s + 1 + j) = nI (tx (s + 1 + j)) := if_pos f1
    have key : q_run 10 130 [(0, .ref m), (1, .int (nI (tx s)))] [] (q_upd σ m (mC m tr w)) = q_run 10 186 [(0, .ref m), (1, .int (nI (tx s)))] [.int (nI (rvN tx s (j + 1))), .ref m] (q_upd σ m (mC m tr w)) := by
      rw [e_10_130, m_at q0, q_obS, w3, m_let q0 q1 w0 hn (by omega), q_cIS, q_obS]
      dsimp only
      rw [m_digAt _ h8, q_cIS, q_obS, hd]
      dsimp only
      rw [if_neg (show ¬ nI (true.toNat) = nI 0 by decide)]
      show _ = q_run 10 186 [(0, .ref m), (1, .int (nI (tx s)))] [.int (nI (if tx s = 48 ∨ 99 < rvN tx s j then 1000 else 10 * rvN tx s j + (tx (s + 1 + j) - 48))), .ref m] (q_upd σ m (mC m tr w))
      by_cases g0 : tx s = 48
      · rw [if_pos (by rw [g0]), e_10_160, if_pos (Or.inl g0)]
      · rw [if_neg (fun q => g0 ((nI_eq (by omega) (by decide)).mp q)), m_value q0, q_obS, w6]
        by_cases g : 99 < rvN tx s j
        · rw [if_neg (nI_ge g (by omega)), e_10_160, if_pos (Or.inr g)]
        · rw [if_pos (nI_le (by omega) (by decide)), q_obS, m_text q0, q_obS, m_at q0, q_obS, w3, a_rd q1 (by omega) (by decide), q_obS, pk_mul, nI_add, pk_sub (by omega), if_neg (by omega), show 10 * rvN tx s j + tx (s + 1 + j) - 48 = 10 * rvN tx s j + (tx (s + 1 + j) - 48) by omega]
    obtain ⟨w', k1, k2, k3, k4, k5, k6, k7, k8⟩ := ih (j + 1) (upI (upI w 6 (nI (rvN tx s (j + 1)))) 3 (nI (s + 1 + (j + 1)))) (by omega) w0 rfl rfl
    refine ⟨w', ?_, k2, k3, k4, k5, k6, k7, k8⟩
    rw [key, e_10_186, mp_value q0, q_obS, u_u, m_at q0, q_obS, show upI w 6 (nI (rvN tx s (j + 1))) 3 = nI (s + 1 + j) from w3, nI_add, mp_at q0, q_obS, u_u]
    exact k1
/-- a token -/
theorem m_token (h0 : σ.1 m = some (mC m tr w)) (h1 : σ.1 (m + 1) = some (iA 120 tx)) (hw : w 0 = nI n) (hn : n ≤ 120) (h8 : ∀ j, tx j < 256) {a : Nat} (ha : a ≤ n) (h3 : w 3 = nI a) : ∃ w', q_call 10 [.ref m] σ = some (none, q_upd σ m (mC m tr w')) ∧ tkR tx n (nx tx n a) w w' := by
  obtain ⟨g1, g2, g3, g4⟩ := nx_spec tx ha
  have q0 : ∀ {w}, (q_upd σ m (mC m tr w)).1 m = some (mC m tr w) := fun {w} => u_s ..
  have q1 : ∀ {w}, (q_upd σ m (mC m tr w)).1 (m + 1) = some (iA 120 tx) := fun {w} => (u_n _ _ (by omega)).trans h1
  have skip : ∀ d b, b + d = nx tx n a → a ≤ b → q_run 10 0 [(0, .ref m)] [] (q_upd σ m (mC m tr (upI w 3 (nI b)))) = q_run 10 0 [(0, .ref m)] [] (q_upd σ m (mC m tr (upI w 3 (nI (nx tx n a))))) := by
    intro d
    induction d with
    | zero => intro b hb _; rw [show b = nx tx n a by omega]
    | succ d ih =>
      intro b hb hab
      have e32 := g3 b hab (by omega)
      rw [← ih (b + 1) (by omega) (by omega), e_10_0, m_at q0, q_obS, show upI w 3 (nI b) 3 = nI b from rfl, m_let q0 q1 (show upI w 3 (nI b) 0 = nI n from hw) hn (by omega), q_cIS, q_obS]
      dsimp only
      rw [show ltI tx n b = nI 32 by unfold ltI; rw [if_pos (by omega), e32], if_pos rfl, m_at q0, q_obS, show upI w 3 (nI b) 3 = nI b from rfl, nI_add, mp_at q0, q_obS, u_u, upI_upI]
  have hst := skip (nx tx n a - a) a (by omega) (Nat.le_refl _)
  rw [upI_id h3, u_self h0] at hst
  rw [k_10 h0, hst]
  generalize hsq : nx tx n a = s at *
  have hl32 : ¬ ltI tx n s = nI 32 := by
    unfold ltI
    by_cases g : s < n
    · rw [if_pos g]
      exact fun q => g4 g ((nI_eq (by have := h8 s; omega) (by decide)).mp q)
    · rw [if_neg g]; decide
  have b0 : q_run 10 0 [(0, .ref m)] [] (q_upd σ m (mC m tr (upI w 3 (nI s)))) = if nI 0 ≤ ltI tx n s then (q_ob (q_cI (q_call 7 [.int (ltI tx n s)] (q_upd σ m (mC m tr (upI (upI w 3 (nI s)) 5 (nI s)))))) none fun p7 => if p7.1 = nI 0 then q_ob (q_cI (q_call 9 [.int (ltI tx n s)] p7.2)) none fun p8 => if p8.1 = nI 0 then if ltI tx n s = (nI 59) then q_run 10 85 [(0, .ref m), (1, .int (ltI tx n s))] [.int (nI 3), .ref m] p8.2 else q_run 10 85 [(0, .ref m), (1, .int (ltI tx n s))] [.int (nI 4), .ref m] p8.2 else q_run 10 85 [(0, .ref m), (1, .int (ltI tx n s))] [.int (nI 2), .ref m] p8.2 else q_run 10 85 [(0, .ref m), (1, .int (ltI tx n s))] [.int (nI 1), .ref m] p7.2) else q_run 10 85 [(0, .ref m), (1, .int (ltI tx n s))] [.int (nI 0), .ref m] (q_upd σ m (mC m tr (upI (upI w 3 (nI s)) 5 (nI s)))) := by
    rw [e_10_0, m_at q0, q_obS, show upI w 3 (nI s) 3 = nI s from rfl, m_let q0 q1 (show upI w 3 (nI s) 0 = nI n from hw) hn (by omega), q_cIS, q_obS]
    dsimp only
    rw [if_neg hl32, m_at q0, q_obS, show upI w 3 (nI s) 3 = nI s from rfl, mp_start q0, q_obS, u_u, m_at q0, q_obS, show upI (upI w 3 (nI s)) 5 (nI s) 3 = nI s from rfl, m_let q0 q1 (show upI (upI w 3 (nI s)) 5 (nI s) 0 = nI n from hw) hn (by omega), q_cIS, q_obS]
  -- behind the sort
  have b85 : ∀ k, k ≠ 0 → k ≠ 2 → k < 10 → ∀ v, q_run 10 85 [(0, .ref m), (1, .int v)] [.int (nI k), .ref m] (q_upd σ m (mC m tr (upI (upI w 3 (nI s)) 5 (nI s)))) = some (none, q_upd σ m (mC m tr (upI (upI (upI (upI (upI w 3 (nI s)) 5 (nI s)) 4 (nI k)) 6 v) 3 (nI (s + 1))))) := by
    intro k k0 k2 k10 v
    rw [e_10_85, mp_sort q0, q_obS, u_u, mp_value q0, q_obS, u_u, m_at q0, q_obS, m_sort q0, q_obS, show upI (upI (upI (upI w 3 (nI s)) 5 (nI s)) 4 (nI k)) 6 v 4 = nI k from rfl, if_neg (fun q => k0 ((nI_eq (by omega) (by decide)).mp q)), e_10_110, show upI (upI (upI (upI w 3 (nI s)) 5 (nI s)) 4 (nI k)) 6 v 3 = nI s from rfl, nI_add, mp_at q0, q_obS, u_u, m_sort q0, q_obS]
    exact if_neg (fun q : nI k = nI 2 => k2 ((nI_eq (by omega) (by decide)).mp q))
  rw [b0]
  by_cases hs : s < n
  · have h8s := h8 s
    have el : ltI tx n s = nI (tx s) := if_pos hs
    rw [el, if_pos (show nI 0 ≤ nI (tx s) from nI_pos' (by omega)), m_word _ h8s, q_cIS, q_obS]
    dsimp only
    cases hwd : wdB (tx s) with
    | true =>
      have hd : dgB tx n s = false := decide_eq_false (by have := of_decide_eq_true hwd; omega)
      rw [if_neg (show ¬ nI (true.toNat) = nI 0 by decide), b85 1 (by decide) (by decide) (by decide)]
      exact ⟨_, rfl, rfl, rfl, rfl, rfl, Or.inr (Or.inr ⟨hs, hd, rfl, rfl, by rw [hwd]; rfl⟩)⟩
    | false =>
      rw [if_pos (show nI (false.toNat) = nI 0 from rfl), ← el, m_digAt _ h8, q_cIS, q_obS, el]
      dsimp only
      cases hd : dgB tx n s with
      | false =>
        rw [if_pos (show nI (false.toNat) = nI 0 from rfl)]
        by_cases g : tx s = 59
        · rw [if_pos (by rw [g]), b85 3 (by decide) (by decide) (by decide)]
          exact ⟨_, rfl, rfl, rfl, rfl, rfl, Or.inr (Or.inr ⟨hs, hd, rfl, rfl, by rw [hwd, if_neg (by decide), if_pos g]; rfl⟩)⟩
        · rw [if_neg (fun q => g ((nI_eq (by omega) (by decide)).mp q)), b85 4 (by decide) (by decide) (by decide)]
          exact ⟨_, rfl, rfl, rfl, rfl, rfl, Or.inr (Or.inr ⟨hs, hd, rfl, rfl, by rw [hwd, if_neg (by decide), if_neg g]; rfl⟩)⟩
      | true =>
        obtain ⟨d1, d2, d3⟩ := dgB_t hd
        obtain ⟨e1, e2, e3, e4⟩ := de_spec tx (show s + 1 ≤ n by omega)
        obtain ⟨w', k1, k2, k3, k4, k5, k6, k7, k8⟩ := m_digits2 (tr := tr) h1 hn h8 hd (de tx n (s + 1) - (s + 1)) 0 (upI (upI (upI (upI (upI (upI w 3 (nI s)) 5 (nI s)) 4 (nI 2)) 6 (nI (tx s))) 3 (nI (s + 1))) 6 (nI (tx s - 48))) (by omega) hw rfl rfl
        obtain ⟨r1, r2⟩ := rvN_tk hd
        refine ⟨w', ?_, k2, k3, k4, k6.trans rfl, Or.inr (Or.inl ⟨hs, hd, k5.trans rfl, k7, _, rvN_le tx d3 _ (fun i hi => (dgB_t (e3 (s + 1 + i) (by omega) (by omega))).2.2), k8, r1, r2⟩)⟩
        rw [if_neg (show ¬ nI (true.toNat) = nI 0 by decide), e_10_85, mp_sort q0, q_obS, u_u, mp_value q0, q_obS, u_u, m_at q0, q_obS, m_sort q0, q_obS, show upI (upI (upI (upI w 3 (nI s)) 5 (nI s)) 4 (nI 2)) 6 (nI (tx s)) 4 = nI 2 from rfl, if_neg (by decide), e_10_110, show upI (upI (upI (upI w 3 (nI s)) 5 (nI s)) 4 (nI 2)) 6 (nI (tx s)) 3 = nI s from rfl, nI_add, mp_at q0, q_obS, u_u, m_sort q0, q_obS, if_pos (show upI (upI (upI (upI (upI w 3 (nI s)) 5 (nI s)) 4 (nI 2)) 6 (nI (tx s))) 3 (nI (s + 1)) 4 = nI 2 from rfl), pk_sub d2, mp_value q0, q_obS, u_u]
        exact k1
  · have el : ltI tx n s = -1 := if_neg hs
    rw [el, if_neg (show ¬ nI 0 ≤ (-1 : Int32) by decide)]
    refine ⟨upI (upI (upI (upI (upI w 3 (nI s)) 5 (nI s)) 4 (nI 0)) 6 (-1)) 3 (nI s + nI 0), ?_, rfl, rfl, rfl, rfl, Or.inl ⟨by omega, rfl⟩⟩
    rw [e_10_85, mp_sort q0, q_obS, u_u, mp_value q0, q_obS, u_u, m_at q0, q_obS, m_sort q0, q_obS, if_pos (show upI (upI (upI (upI w 3 (nI s)) 5 (nI s)) 4 (nI 0)) 6 (-1) 4 = nI 0 from rfl), e_10_110, show upI (upI (upI (upI w 3 (nI s)) 5 (nI s)) 4 (nI 0)) 6 (-1) 3 = nI s from rfl, mp_at q0, q_obS, u_u, m_sort q0, q_obS]
    exact if_neg (show ¬ nI 0 = nI 2 by decide)
end RK
