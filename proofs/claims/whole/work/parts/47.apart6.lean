/-! ===== apart: the reference's digits ===== -/
/-- the rooms of the last k flocks; the row s with the last k flocks put -/
def tkd (Q : Nat → Nat) (F : Nat) : Nat → Nat
  | 0 => 0
  | k + 1 => tkd Q F k ||| 2 ^ Q (F - 1 - k)
def putS (S Q : Nat → Nat) (F k : Nat) : Nat → Nat := fun j => if j < F ∧ F ≤ j + k then Q j else S j
theorem putS_0 (S Q : Nat → Nat) (F : Nat) : putS S Q F 0 = S := funext fun j => if_neg (by omega)
theorem putS_s {S Q : Nat → Nat} {F k : Nat} (hk : k < F) : up (putS S Q F k) (F - 1 - k) (Q (F - 1 - k)) = putS S Q F (k + 1) := by
  funext j
  unfold up putS
  by_cases e : j = F - 1 - k
  · subst e; rw [if_pos rfl, if_pos (by omega)]
  · rw [if_neg e]
    by_cases g : j < F ∧ F ≤ j + k
    · rw [if_pos g, if_pos (by omega)]
    · rw [if_neg g, if_neg (by omega)]
theorem digz_lt {R F i : Nat} (hR : 0 < R) (g : Nat) : digz R F i g < R := by
  unfold digz
  split
  · exact Nat.mod_lt _ hR
  · exact hR
theorem m_digits {σ : qH} {m : Nat} {tr : Int64} {z : Nat → Int32} {T S : Nat → Nat} (h0 : σ.1 m = some (mC m tr z)) (h2 : σ.1 (m + 2) = some (iA 35 T)) (h4 : σ.1 (m + 4) = some (iA 22 S)) (hT : WT T) {i : Nat} (hi : i < 2 ^ 31) (hR : 0 < T 0 ∨ T 1 = 0) (x1 x2 x3 x4 : Int32) :
    q_run 122 89 [(0, .ref m), (1, .int x1), (2, .int x2), (3, .int x3), (4, .int x4), (5, .int (nI i)), (6, .int (nI i)), (7, .int (nI 0)), (8, .int (nI 1)), (9, .int (nI (T 1) - nI 1))] [] σ = q_run 122 144 [(0, .ref m), (1, .int x1), (2, .int x2), (3, .int x3), (4, .int x4), (5, .int (nI i)), (7, .int (nI (tkd (digz (T 0) (T 1) i) (T 1) (T 1)))), (8, .int (nI 1)), (9, .int (nI 0))] [] (q_upd σ (m + 4) (iA 22 (putS S (digz (T 0) (T 1) i) (T 1) (T 1)))) := by
  have t0 := hT.1
  have t1 := hT.2.1
  have q0 : ∀ {e}, (q_upd σ (m + 4) e).1 m = some (mC m tr z) := fun {e} => (u_n _ _ (by omega)).trans h0
  have q2 : ∀ {e}, (q_upd σ (m + 4) e).1 (m + 2) = some (iA 35 T) := fun {e} => (u_n _ _ (by omega)).trans h2
  have q4 : ∀ {e}, (q_upd σ (m + 4) e).1 (m + 4) = some e := fun {e} => u_s ..
  have hl := q_for (fun k => q_run 122 89 [(0, .ref m), (1, .int x1), (2, .int x2), (3, .int x3), (4, .int x4), (5, .int (nI i)), (6, .int (nI (i / (T 0) ^ k))), (7, .int (nI (tkd (digz (T 0) (T 1) i) (T 1) k))), (8, .int (nI 1)), (9, .int (nI (T 1 - k) - nI 1))] [] (q_upd σ (m + 4) (iA 22 (putS S (digz (T 0) (T 1) i) (T 1) k)))) (T 1) (fun k hk => by
    try dsimp only
    have hRp : 0 < T 0 := hR.resolve_right (by omega)
    have hdv : i / T 0 ^ k ≤ i := Nat.div_le_self _ _
    have hdg := digz_lt (R := T 0) (F := T 1) (i := i) hRp (T 1 - 1 - k)
    have eg : i / T 0 ^ k % T 0 = digz (T 0) (T 1) i (T 1 - 1 - k) := by
      unfold digz; rw [if_pos (by omega), show T 1 - 1 - (T 1 - 1 - k) = k by omega]
    have ex : nI (T 1 - k) - nI 1 = nI (T 1 - 1 - k) := by rw [show T 1 - k = (T 1 - 1 - k) + 1 by omega, pm1]
    have hn : ¬ nI (T 0) = nI 0 := fun q => absurd ((nI_eq (by omega) (by decide)).mp q) (by omega)
    rw [ex, e_122_89, if_neg (show ¬ nI (T 1 - 1 - k) < nI 0 from nI_pos (by omega)), m_s q0, q_obS, m_told q0, q_obS, a_rd q2 (by decide) (by decide), q_obS, if_neg hn, pk_rem (by omega) hRp (by omega), eg, a_wr q4 (by omega) (by decide), q_obS, u_u, putS_s hk, m_told q0, q_obS, a_rd q2 (by decide) (by decide), q_obS, if_neg hn, m_s q0, q_obS, a_rd q4 (by omega) (by decide), q_obS, pk_div (by omega) hRp (by omega), n_pm, Nat.div_div_eq_div_mul, ← Nat.pow_succ]
    have es : putS S (digz (T 0) (T 1) i) (T 1) (k + 1) (T 1 - 1 - k) = digz (T 0) (T 1) i (T 1 - 1 - k) := if_pos (by omega)
    rw [es, n_shl1 (by omega), n_or, show T 1 - (k + 1) = T 1 - 1 - k by omega]
    rfl)
  try dsimp only at hl
  rw [putS_0, u_self h4, Nat.pow_zero, Nat.div_one, Nat.sub_zero] at hl
  rw [show nI (tkd (digz (T 0) (T 1) i) (T 1) 0) = nI 0 from rfl] at hl
  rw [hl, e_122_89, Nat.sub_self, if_pos n1]
