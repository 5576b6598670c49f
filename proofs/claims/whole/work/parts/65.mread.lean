/-! ===== the reference reads ===== -/
def hR (σ : qH) (m : Nat) (tr : Int64) (w f : Nat → Int32) : qH := q_upd (q_upd σ (m + 3) (iF 35 f)) m (mC m tr w)
section HR
variable {σ : qH} {m : Nat} {tr : Int64} {w f : Nat → Int32}
theorem hR_0 : (hR σ m tr w f).1 m = some (mC m tr w) := u_s ..
theorem hR_3 : (hR σ m tr w f).1 (m + 3) = some (iF 35 f) := (u_n _ _ (by omega)).trans (u_s ..)
theorem hR_o {a : Nat} (h1 : a ≠ m) (h2 : a ≠ m + 3) : (hR σ m tr w f).1 a = σ.1 a := (u_n _ _ h1).trans (u_n _ _ h2)
theorem hR_u (w2 : Nat → Int32) : q_upd (hR σ m tr w f) m (mC m tr w2) = hR σ m tr w2 f := u_u ..
theorem hR_u3 (f2 : Nat → Int32) : q_upd (hR σ m tr w f) (m + 3) (iF 35 f2) = hR σ m tr w f2 := by
  unfold hR
  rw [u_c _ _ _ (show m ≠ m + 3 by omega), u_u]
end HR
def mOk (σ : qH) (m n : Nat) (tx : Nat → Nat) : Prop := σ.1 (m + 1) = some (iA 120 tx) ∧ n ≤ 120 ∧ ∀ j, tx j < 256
def dRel (f : Nat → Int32) (T : Nat → Nat) : Prop := ∀ j, j < 35 → f j = nI (T j)
theorem dRel.up {f : Nat → Int32} {T : Nat → Nat} (h : dRel f T) (p v : Nat) : dRel (upI f p (nI v)) (up T p v) := by
  intro j hj
  by_cases e : j = p
  · show (if j = p then _ else _) = nI (if j = p then _ else _)
    rw [if_pos e, if_pos e]
  · show (if j = p then _ else _) = nI (if j = p then _ else _)
    rw [if_neg e, if_neg e]; exact h j hj
/-- the token looked for: a number from lo on, below hi -/
def cN (tx : Nat → Nat) (n s : Nat) (ok : Nat → Bool) : Prop := dgB tx n s = true ∧ tkV tx n s < 100 ∧ ok (tkV tx n s) = true
section RM
variable {σ : qH} {m n : Nat} {tr : Int64} {w f : Nat → Int32} {tx : Nat → Nat}
theorem m_isNum (hM : mOk σ m n tx) (hw : w 0 = nI n) {a : Nat} (ha : a ≤ n) (h3 : w 3 = nI a) {lo hi : Nat} {HI : Int32} (hlo : lo < 100) (hi100 : hi ≤ 100) (hHI : ∀ v, v ≤ 1000 → (nI v ≤ HI ↔ v < hi)) :
    ∃ w', tkR tx n (nx tx n a) w w' ∧ ((cN tx n (nx tx n a) (okI lo hi) ∧ w' 6 = nI (tkV tx n (nx tx n a)) ∧ w' 3 = nI (de tx n (nx tx n a + 1)) ∧ q_call 11 [.ref m, .int (nI lo), .int HI] (hR σ m tr w f) = some (some (.int (nI 1)), hR σ m tr w' f)) ∨ (¬ cN tx n (nx tx n a) (okI lo hi) ∧ q_call 11 [.ref m, .int (nI lo), .int HI] (hR σ m tr w f) = some (some (.int (nI 0)), hR σ m tr w' f))) := by
  obtain ⟨w', k1, k2⟩ := m_token (σ := hR σ m tr w f) (tr := tr) (w := w) (tx := tx) hR_0 ((hR_o (by omega) (by omega)).trans hM.1) hw hM.2.1 hM.2.2 ha h3
  rw [hR_u] at k1
  refine ⟨w', k2, ?_⟩
  have st : q_call 11 [.ref m, .int (nI lo), .int HI] (hR σ m tr w f) = if w' 4 = nI 2 then q_ob (q_cI (q_call 8 [.int (w' 6), .int (nI lo), .int HI] (hR σ m tr w' f))) none fun p4 => if p4.1 = nI 0 then q_run 11 28 [] [] p4.2 else some (some (.int (nI 1)), p4.2) else q_run 11 28 [] [] (hR σ m tr w' f) := by
    rw [k_11 hR_0, e_11_0, k1, q_cVS, q_obS, m_sort hR_0, q_obS, m_value hR_0, q_obS]
  rw [st]
  obtain ⟨-, -, -, -, k3⟩ := k2
  rcases k3 with ⟨c1, c2⟩ | ⟨c1, c2, c3, c4, rv, c5, c6, c7, c8⟩ | ⟨c1, c2, c3, c4, c5⟩
  · refine Or.inr ⟨fun q => by have := (dgB_t q.1).1; omega, ?_⟩
    rw [c2, if_neg (by decide), e_11_28]
  · have e : decide (nI lo ≤ nI rv ∧ nI rv ≤ HI) = decide (lo ≤ rv ∧ rv < hi) := dec_and _ _ ⟨fun q => ⟨(nI_leI (by omega) (by omega)).mp q.1, (hHI rv c5).mp q.2⟩, fun q => ⟨nI_le q.1 (by omega), (hHI rv c5).mpr q.2⟩⟩
    rw [c3, if_pos rfl, c6, m_in, q_cIS, q_obS, e]
    dsimp only
    by_cases g : lo ≤ rv ∧ rv < hi
    · have hv : tkV tx n (nx tx n a) < 100 := by
        by_cases q : tkV tx n (nx tx n a) < 100
        · exact q
        · have := c8 q; omega
      have er := c7 hv
      refine Or.inl ⟨⟨c2, hv, decide_eq_true (by rw [← er]; exact g)⟩, by rw [er], c4, ?_⟩
      rw [decide_eq_true g, if_neg (show ¬ nI (true.toNat) = nI 0 by decide)]
    · refine Or.inr ⟨fun q => g ?_, ?_⟩
      · have er := c7 q.2.1
        rw [er]; exact okI_t q.2.2
      · rw [decide_eq_false g, if_pos (show nI (false.toNat) = nI 0 from rfl), e_11_28]
  · refine Or.inr ⟨fun q => (by have := q.1; rw [c2] at this; cases this), ?_⟩
    rw [c5, if_neg ?_, e_11_28]
    intro q
    have := (nI_eq (by split <;> (try split) <;> omega) (by decide)).mp q
    split at this
    · omega
    · split at this <;> omega
/-- a number that goes into the draft -/
theorem m_number (hM : mOk σ m n tx) (hw : w 0 = nI n) {a : Nat} (ha : a ≤ n) (h3 : w 3 = nI a) {lo hi p : Nat} {HI : Int32} (hp : p < 35) (hlo : lo < 100) (hi100 : hi ≤ 100) (hHI : ∀ v, v ≤ 1000 → (nI v ≤ HI ↔ v < hi)) :
    ∃ w', tkR tx n (nx tx n a) w w' ∧ ((cN tx n (nx tx n a) (okI lo hi) ∧ w' 3 = nI (de tx n (nx tx n a + 1)) ∧ q_call 12 [.ref m, .int (nI p), .int (nI lo), .int HI] (hR σ m tr w f) = some (some (.int (nI 1)), hR σ m tr w' (upI f p (nI (tkV tx n (nx tx n a)))))) ∨ (¬ cN tx n (nx tx n a) (okI lo hi) ∧ ∃ f', q_call 12 [.ref m, .int (nI p), .int (nI lo), .int HI] (hR σ m tr w f) = some (some (.int (nI 0)), hR σ m tr w' f'))) := by
  obtain ⟨w', k1, k2⟩ := m_isNum (σ := σ) (tr := tr) (f := f) hM hw ha h3 hlo hi100 hHI
  refine ⟨w', k1, ?_⟩
  rcases k2 with ⟨c1, c2, c3, c4⟩ | ⟨c1, c4⟩
  · refine Or.inl ⟨c1, c3, ?_⟩
    rw [k_12 hR_0, e_12_0, c4, q_cIS, q_obS]
    dsimp only
    rw [m_draft hR_0, q_obS, m_value hR_0, q_obS, f_wr hR_3 hp (by decide), q_obS, hR_u3, c2]
    exact ct_bt true _
  · refine Or.inr ⟨c1, upI f p (w' 6), ?_⟩
    rw [k_12 hR_0, e_12_0, c4, q_cIS, q_obS]
    dsimp only
    rw [m_draft hR_0, q_obS, m_value hR_0, q_obS, f_wr hR_3 hp (by decide), q_obS, hR_u3]
    exact ct_bt false _
/-- the reference's answer, and what stays -/
def mAns (σ : qH) (m n : Nat) (tr : Int64) (c1 c2 : Int32) (o : Option qR) : pR → Prop
  | .inl s => s ≤ n ∧ ∃ w f, o = some (some (.int (nI 0)), hR σ m tr w f) ∧ w 0 = nI n ∧ w 1 = c1 ∧ w 2 = c2 ∧ w 5 = nI s
  | .inr T => ∃ w f, o = some (some (.int (nI 1)), hR σ m tr w f) ∧ w 0 = nI n ∧ w 1 = c1 ∧ w 2 = c2 ∧ dRel f T
def wK (n : Nat) (c1 c2 : Int32) (w : Nat → Int32) : Prop := w 0 = nI n ∧ w 1 = c1 ∧ w 2 = c2
theorem tkR.k {c1 c2 : Int32} {s : Nat} {w' : Nat → Int32} (h : tkR tx n s w w') (hk : wK n c1 c2 w) : wK n c1 c2 w' := ⟨h.1.trans hk.1, h.2.1.trans hk.2.1, h.2.2.1.trans hk.2.2⟩
theorem an_mnum {c1 c2 : Int32} (hM : mOk σ m n tx) (hw : wK n c1 c2 w) {a : Nat} (ha : a ≤ n) (h3 : w 3 = nI a) {lo hi p : Nat} {HI : Int32} (hp : p < 35) (hlo : lo < 100) (hi100 : hi ≤ 100) (hHI : ∀ v, v ≤ 1000 → (nI v ≤ HI ↔ v < hi)) {C : Option qR → Option qR} (hC : ∀ h, C (some (some (.int (nI 0)), h)) = some (some (.int (nI 0)), h)) {F K : Int32 × qH → Option qR} (hF : ∀ p, F p = some (some (.int (nI 0)), p.2)) {k : Nat → Nat → pR}
    (hk : ∀ v a1 w1, v < 100 → okI lo hi v = true → a1 ≤ n → a + 1 ≤ a1 → wK n c1 c2 w1 → w1 3 = nI a1 → mAns σ m n tr c1 c2 (C (K (nI 1, hR σ m tr w1 (upI f p (nI v))))) (k v a1)) :
    mAns σ m n tr c1 c2 (C (q_ob (q_cI (q_call 12 [.ref m, .int (nI p), .int (nI lo), .int HI] (hR σ m tr w f))) none fun p => if p.1 = nI 0 then F p else K p)) (gtN tx n a (okI lo hi) k) := by
  obtain ⟨g1, g2, -, -⟩ := nx_spec tx ha
  obtain ⟨w', k1, k2⟩ := m_number (σ := σ) (tr := tr) (f := f) hM hw.1 ha h3 hp hlo hi100 hHI
  unfold gtN
  rcases k2 with ⟨d1, d3, d4⟩ | ⟨d1, f', d4⟩
  · have hl := (dgB_t d1.1).1
    obtain ⟨e1, e2, -, -⟩ := de_spec tx (show nx tx n a + 1 ≤ n by omega)
    rw [d4, q_cIS, q_obS, if_pos (show dgB tx n (nx tx n a) = true ∧ tkV tx n (nx tx n a) < 100 ∧ okI lo hi (tkV tx n (nx tx n a)) = true from d1)]
    dsimp only
    rw [if_neg (show ¬ nI 1 = nI 0 by decide)]
    exact hk _ _ w' d1.2.1 d1.2.2 e2 (by omega) (k1.k hw) d3
  · rw [d4, q_cIS, q_obS, if_neg (show ¬ (dgB tx n (nx tx n a) = true ∧ tkV tx n (nx tx n a) < 100 ∧ okI lo hi (tkV tx n (nx tx n a)) = true) from d1)]
    dsimp only
    rw [if_pos rfl, hF, hC]
    obtain ⟨q0, q1, q2⟩ := k1.k hw
    exact ⟨g2, w', f', rfl, q0, q1, q2, k1.2.2.2.1⟩
theorem an_misn {c1 c2 : Int32} (hM : mOk σ m n tx) (hw : wK n c1 c2 w) {a : Nat} (ha : a ≤ n) (h3 : w 3 = nI a) {lo hi : Nat} {HI : Int32} (hlo : lo < 100) (hi100 : hi ≤ 100) (hHI : ∀ v, v ≤ 1000 → (nI v ≤ HI ↔ v < hi)) {C : Option qR → Option qR} (hC : ∀ h, C (some (some (.int (nI 0)), h)) = some (some (.int (nI 0)), h)) {F K : Int32 × qH → Option qR} (hF : ∀ p, F p = some (some (.int (nI 0)), p.2)) {ok : Nat → Bool} {k : Nat → Nat → pR}
    (hok : ∀ v, v < 100 → ok v = true → okI lo hi v = true)
    (hk : ∀ v a1 w1, v < 100 → okI lo hi v = true → a1 ≤ n → a + 1 ≤ a1 → wK n c1 c2 w1 → w1 3 = nI a1 → w1 6 = nI v → w1 5 = nI (nx tx n a) → (ok v = true → mAns σ m n tr c1 c2 (C (K (nI 1, hR σ m tr w1 f))) (k v a1)) ∧ (ok v = false → K (nI 1, hR σ m tr w1 f) = some (some (.int (nI 0)), hR σ m tr w1 f))) :
    mAns σ m n tr c1 c2 (C (q_ob (q_cI (q_call 11 [.ref m, .int (nI lo), .int HI] (hR σ m tr w f))) none fun p => if p.1 = nI 0 then F p else K p)) (gtN tx n a ok k) := by
  obtain ⟨g1, g2, -, -⟩ := nx_spec tx ha
  obtain ⟨w', k1, k2⟩ := m_isNum (σ := σ) (tr := tr) (f := f) hM hw.1 ha h3 hlo hi100 hHI
  obtain ⟨q0, q1, q2⟩ := k1.k hw
  unfold gtN
  rcases k2 with ⟨d1, d2, d3, d4⟩ | ⟨d1, d4⟩
  · have hl := (dgB_t d1.1).1
    obtain ⟨e1, e2, -, -⟩ := de_spec tx (show nx tx n a + 1 ≤ n by omega)
    obtain ⟨m1, m2⟩ := hk _ _ w' d1.2.1 d1.2.2 e2 (by omega) (k1.k hw) d3 d2 k1.2.2.2.1
    rw [d4, q_cIS, q_obS]
    dsimp only
    rw [if_neg (show ¬ nI 1 = nI 0 by decide)]
    by_cases hx : ok (tkV tx n (nx tx n a)) = true
    · rw [if_pos ⟨d1.1, d1.2.1, hx⟩]
      exact m1 hx
    · rw [if_neg (fun q => hx q.2.2), m2 (by simpa using hx), hC]
      exact ⟨g2, w', f, rfl, q0, q1, q2, k1.2.2.2.1⟩
  · rw [d4, q_cIS, q_obS]
    dsimp only
    rw [if_pos rfl, hF, hC, if_neg (fun q => d1 ⟨q.1, q.2.1, hok _ q.2.1 q.2.2⟩)]
    exact ⟨g2, w', f, rfl, q0, q1, q2, k1.2.2.2.1⟩
/-- what comes behind an item -/
noncomputable def R15 (m : Nat) (o : Option qR) : Option qR := q_ob (q_cI o) none fun p2 => if p2.1 = nI 0 then some (some (.int (nI 0)), p2.2) else q_ob (q_cV (q_call 10 [.ref m] p2.2)) none fun h3 => q_ob (q_getI h3 (.ref m) 7 13) none fun v4 => if v4 = (nI 3) then q_ob (q_getR h3 (.ref m) 7 4) none fun v5 => q_ob (q_aldI h3 (.ref v5) 1 (nI 3)) none fun v6 => q_ob (q_astI h3 (.ref v5) 1 (nI 3) (v6 + (nI 1))) none fun h7 => q_ob (q_cV (q_call 10 [.ref m] h7)) none fun h8 => q_run 15 38 [(0, .ref m)] [] h8 else some (some (.int (nI 0)), h3)
theorem R15_0 (h : qH) : R15 m (some (some (.int (nI 0)), h)) = some (some (.int (nI 0)), h) := by
  unfold R15
  rw [q_cIS, q_obS]
  exact if_pos rfl
theorem an_mend {c1 c2 : Int32} (hM : mOk σ m n tx) (hw : wK n c1 c2 w) {a : Nat} (ha : a ≤ n) (h3 : w 3 = nI a) {T : Nat → Nat} (hf : dRel f T) {k : Nat → pR}
    (hk : ∀ a1 w0 w1, a1 ≤ n → a + 1 ≤ a1 → wK n c1 c2 w1 → tkR tx n (nx tx n a1) w0 w1 → mAns σ m n tr c1 c2 (q_run 15 38 [(0, .ref m)] [] (hR σ m tr w1 (upI f 3 (nI (T 3 + 1))))) (k a1)) :
    mAns σ m n tr c1 c2 (R15 m (some (some (.int (nI 1)), hR σ m tr w f))) (gtE tx n a k) := by
  obtain ⟨g1, g2, -, -⟩ := nx_spec tx ha
  obtain ⟨w', k1, k2⟩ := m_token (σ := hR σ m tr w f) (tr := tr) (w := w) (tx := tx) hR_0 ((hR_o (by omega) (by omega)).trans hM.1) hw.1 hM.2.1 hM.2.2 ha h3
  rw [hR_u] at k1
  obtain ⟨q0, q1, q2⟩ := k2.k hw
  have st : R15 m (some (some (.int (nI 1)), hR σ m tr w f)) = if w' 4 = nI 3 then q_ob (q_cV (q_call 10 [.ref m] (hR σ m tr w' (upI f 3 (nI (T 3 + 1)))))) none fun h8 => q_run 15 38 [(0, .ref m)] [] h8 else some (some (.int (nI 0)), hR σ m tr w' f) := by
    unfold R15
    rw [q_cIS, q_obS]
    dsimp only
    rw [if_neg (show ¬ nI 1 = nI 0 by decide), k1, q_cVS, q_obS, m_sort hR_0, q_obS, m_draft hR_0, q_obS, f_rd hR_3 (by decide) (by decide), q_obS, hf 3 (by decide), nI_add, f_wr hR_3 (by decide) (by decide), q_obS, hR_u3]
  rw [st]
  unfold gtE
  have fail : ∀ (hne : ¬ w' 4 = nI 3) (hno : ¬ (nx tx n a < n ∧ tx (nx tx n a) = 59)), mAns σ m n tr c1 c2 (if w' 4 = nI 3 then q_ob (q_cV (q_call 10 [.ref m] (hR σ m tr w' (upI f 3 (nI (T 3 + 1)))))) none fun h8 => q_run 15 38 [(0, .ref m)] [] h8 else some (some (.int (nI 0)), hR σ m tr w' f)) (if nx tx n a < n ∧ tx (nx tx n a) = 59 then k (nx tx n a + 1) else .inl (nx tx n a)) := by
    intro hne hno
    rw [if_neg hne, if_neg hno]
    exact ⟨g2, w', f, rfl, q0, q1, q2, k2.2.2.2.1⟩
  have k2' := k2
  obtain ⟨-, -, -, -, k3⟩ := k2'
  rcases k3 with ⟨d1, d2⟩ | ⟨d1, d2, d3, d4, -⟩ | ⟨d1, d2, d3, d4, d5⟩
  · exact fail (by rw [d2]; decide) (by omega)
  · exact fail (by rw [d3]; decide) (fun q => by have := (dgB_t d2).2; omega)
  · by_cases g : tx (nx tx n a) = 59
    · have h4 : w' 4 = nI 3 := by rw [d5, g]; rfl
      rw [if_pos h4, if_pos ⟨d1, g⟩]
      obtain ⟨w2, m1, m2⟩ := m_token (σ := hR σ m tr w' (upI f 3 (nI (T 3 + 1)))) (tr := tr) (w := w') (tx := tx) hR_0 ((hR_o (by omega) (by omega)).trans hM.1) q0 hM.2.1 hM.2.2 (show nx tx n a + 1 ≤ n by omega) d3
      rw [hR_u] at m1
      rw [m1, q_cVS, q_obS]
      exact hk _ w' w2 (by omega) (by omega) (m2.k ⟨q0, q1, q2⟩) m2
    · refine fail ?_ (fun q => g q.2)
      rw [d5, if_neg g]
      split <;> decide
end RM
