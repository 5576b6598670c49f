/-! ===== the reference begins; its constructor ===== -/
def layN (T T2 : Nat → Nat) (n : Nat) : Nat → Nat := fun j => if j < n then T2 j else T j
theorem layN_s (T T2 : Nat → Nat) (n : Nat) : up (layN T T2 n) n (T2 n) = layN T T2 (n + 1) := by
  funext j
  unfold up layN
  by_cases h : j = n
  · subst h; rw [if_pos rfl, if_pos (by omega)]
  · rw [if_neg h]
    by_cases g : j < n
    · rw [if_pos g, if_pos (by omega)]
    · rw [if_neg g, if_neg (by omega)]
theorem layN_0 (T T2 : Nat → Nat) : layN T T2 0 = T := funext fun j => if_neg (by omega)
theorem layN_i (T T2 : Nat → Nat) {n j : Nat} (h : j < n) : layN T T2 n j = T2 j := if_pos h
def begP (T : Nat → Nat) : Nat → Nat := fun k => if k < 5 then T (20 + k) else if 15 ≤ k ∧ k ≤ 19 then T (10 + (k - 15)) else 0
theorem begP_z (T : Nat → Nat) {j : Nat} (h : 22 ≤ j) : begP T j = 0 := by unfold begP; rw [if_neg (by omega), if_neg (by omega)]
def keptN (kp : Nat → Bool) : Nat → Bool := fun j => if j < 2 then false else kp j
theorem m_begins {σ : qH} {m : Nat} {tr : Int64} {z : Nat → Int32} {T T2 P : Nat → Nat} {f : Nat → Int32} {kp : Nat → Bool} (h0 : σ.1 m = some (mC m tr z)) (h2 : σ.1 (m + 2) = some (iA 35 T)) (h3 : σ.1 (m + 3) = some (iF 35 f)) (hf : ∀ j, j < 35 → f j = nI (T2 j)) (h4 : σ.1 (m + 4) = some (iA 22 P)) (hP : ∀ j, 22 ≤ j → P j = 0) (h7 : σ.1 (m + 7) = some (.inr (3, (2, .inl (fun j => nI (kp j).toNat))))) :
    q_call 16 [.ref m] σ = some (none, q_upd (q_upd (q_upd (q_upd σ (m + 2) (iA 35 (layN T T2 35))) (m + 4) (iA 22 (begP T2))) m (mC m tr (upI (upI z 1 (nI 0)) 2 (nI 0)))) (m + 7) (.inr (3, (2, .inl (fun j => nI (keptN kp j).toNat))))) := by
  have l1 := q_for (fun i => q_run 16 2 [(0, .ref m), (1, .int (nI i))] [] (q_upd σ (m + 2) (iA 35 (layN T T2 i)))) 35 (fun i hi => by
    try dsimp only
    have q0 : ∀ {e}, (q_upd σ (m + 2) e).1 m = some (mC m tr z) := fun {e} => (u_n _ _ (by omega)).trans h0
    have q3 : ∀ {e}, (q_upd σ (m + 2) e).1 (m + 3) = some (iF 35 f) := fun {e} => (u_n _ _ (by omega)).trans h3
    have q2 : ∀ {e}, (q_upd σ (m + 2) e).1 (m + 2) = some e := fun {e} => u_s ..
    rw [e_16_2, if_neg (nI_ge hi (by decide)), m_told q0, q_obS, m_draft q0, q_obS, f_rd q3 hi (by decide), q_obS, hf i hi, a_wr q2 hi (by decide), q_obS, u_u, layN_s, nI_add])
  try dsimp only at l1
  rw [layN_0, u_self h2] at l1
  rw [k_16 h0, e_16_0, l1, e_16_2, if_pos (nI_le (Nat.le_refl _) (by decide))]
  have n0 : (q_upd σ (m + 2) (iA 35 (layN T T2 35))).1 m = some (mC m tr z) := (u_n _ _ (by omega)).trans h0
  have n2 : (q_upd σ (m + 2) (iA 35 (layN T T2 35))).1 (m + 2) = some (iA 35 (layN T T2 35)) := u_s ..
  have n4 : (q_upd σ (m + 2) (iA 35 (layN T T2 35))).1 (m + 4) = some (iA 22 P) := (u_n _ _ (by omega)).trans h4
  have n7 : (q_upd σ (m + 2) (iA 35 (layN T T2 35))).1 (m + 7) = some (.inr (3, (2, .inl (fun j => nI (kp j).toNat)))) := (u_n _ _ (by omega)).trans h7
  generalize q_upd σ (m + 2) (iA 35 (layN T T2 35)) = σ1 at n0 n2 n4 n7
  have q0 : ∀ {e}, (q_upd σ1 (m + 4) e).1 m = some (mC m tr z) := fun {e} => (u_n _ _ (by omega)).trans n0
  have q2 : ∀ {e}, (q_upd σ1 (m + 4) e).1 (m + 2) = some (iA 35 (layN T T2 35)) := fun {e} => (u_n _ _ (by omega)).trans n2
  have q7 : ∀ {e}, (q_upd σ1 (m + 4) e).1 (m + 7) = some (.inr (3, (2, .inl (fun j => nI (kp j).toNat)))) := fun {e} => (u_n _ _ (by omega)).trans n7
  have q4 : ∀ {e}, (q_upd σ1 (m + 4) e).1 (m + 4) = some e := fun {e} => u_s ..
  have l2 := q_for (fun i => q_run 16 28 [(0, .ref m), (1, .int (nI i))] [] (q_upd σ1 (m + 4) (iA 22 (layN P (begP T2) i)))) 22 (fun i hi => by
    try dsimp only
    have e83 : ∀ v, v = begP T2 i → q_run 16 83 [(0, .ref m), (1, .int (nI i))] [.int (nI v), .int (nI i), .ref (m + 4)] (q_upd σ1 (m + 4) (iA 22 (layN P (begP T2) i))) = q_run 16 28 [(0, .ref m), (1, .int (nI (i + 1)))] [] (q_upd σ1 (m + 4) (iA 22 (layN P (begP T2) (i + 1)))) := by
      intro v hv
      rw [e_16_83, a_wr q4 hi (by decide), q_obS, u_u, nI_add, hv, layN_s]
    rw [e_16_28, if_neg (nI_ge hi (by decide)), m_s q0, q_obS]
    by_cases g5 : i < 5
    · rw [if_neg (nI_ge g5 (by decide)), m_told q0, q_obS, nI_add, a_rd q2 (by omega) (by decide), q_obS]
      exact e83 _ (by rw [layN_i _ _ (by omega)]; unfold begP; rw [if_pos g5])
    · rw [if_pos (nI_le (by omega) (by omega)), m_in, q_cIS, q_obS]
      dsimp only
      by_cases g : 15 ≤ i ∧ i ≤ 19
      · rw [decide_eq_true ⟨nI_le g.1 (by omega), nI_le g.2 (by decide)⟩, if_neg (show ¬ nI (true.toNat) = nI 0 by decide), m_told q0, q_obS, nI_add, pk_sub (by omega), a_rd q2 (by omega) (by decide), q_obS]
        exact e83 _ (by rw [layN_i _ _ (by omega)]; unfold begP; rw [if_neg g5, if_pos g]; congr 1; omega)
      · rw [decide_eq_false (fun q => g ⟨(nI_leI (by decide) (by omega)).mp q.1, (nI_leI (by omega) (by decide)).mp q.2⟩), if_pos (show nI (false.toNat) = nI 0 from rfl)]
        exact e83 0 (by unfold begP; rw [if_neg g5, if_neg g]))
  try dsimp only at l2
  rw [layN_0, u_self n4] at l2
  have e22 : layN P (begP T2) 22 = begP T2 := by
    funext j
    unfold layN
    by_cases g : j < 22
    · rw [if_pos g]
    · rw [if_neg g, hP j (by omega), begP_z _ (by omega)]
  rw [e22] at l2
  have r0 : ∀ {e w}, (q_upd (q_upd σ1 (m + 4) e) m (mC m tr w)).1 m = some (mC m tr w) := fun {e w} => u_s ..
  have r7 : ∀ {e w}, (q_upd (q_upd σ1 (m + 4) e) m w).1 (m + 7) = some (.inr (3, (2, .inl (fun j => nI (kp j).toNat)))) := fun {e w} => (u_n _ _ (by omega)).trans q7
  have t0 : ∀ {e w v}, (q_upd (q_upd (q_upd σ1 (m + 4) e) m (mC m tr w)) (m + 7) v).1 m = some (mC m tr w) := fun {e w v} => (u_n _ _ (by omega)).trans r0
  have t7 : ∀ {e w v}, (q_upd (q_upd (q_upd σ1 (m + 4) e) m w) (m + 7) v).1 (m + 7) = some v := fun {e w v} => u_s ..
  have ek : (fun t => nI (up (up (fun j => (kp j).toNat) 0 0) 1 0 t)) = fun j => nI (keptN kp j).toNat := by
    funext t
    unfold up keptN
    by_cases g1 : t = 1
    · rw [if_pos g1, if_pos (by omega)]; rfl
    · rw [if_neg g1]
      by_cases g2 : t = 0
      · rw [if_pos g2, if_pos (by omega)]; rfl
      · rw [if_neg g2, if_neg (by omega)]
  rw [l2, e_16_28, if_pos (nI_le (Nat.le_refl _) (by decide)), mp_known q0, q_obS, mp_noted r0, q_obS, u_u, m_kept r0, q_obS, show vp_nar .boolean (nI 0) = nI 0 by decide, w_kind (P := fun j => (kp j).toNat) r7 (show 0 < 2 by decide) (by decide) 0, q_obS, m_kept t0, q_obS, w_kind (P := up (fun j => (kp j).toNat) 0 0) t7 (show 1 < 2 by decide) (by decide) 0, q_obS, u_u, ek]
def draft0 (f : Nat → Int32) : Nat → Int32 := upI (lay f 0 35 (fun _ => nI 0)) 2 (nI 20)
theorem draft0_i (f : Nat → Int32) {j : Nat} (hj : j < 35) : draft0 f j = nI (T0 j) := by
  unfold draft0 upI T0
  by_cases h : j = 2
  · rw [if_pos h, if_pos h]
  · rw [if_neg h, if_neg h]
    have := lay_in f (b := 0) (fun _ => nI 0) hj
    rw [Nat.zero_add] at this
    exact this
theorem m_reads0 {σ : qH} {m : Nat} {tr : Int64} {z : Nat → Int32} {f : Nat → Int32} (h0 : σ.1 m = some (mC m tr z)) (h3 : σ.1 (m + 3) = some (iF 35 f)) :
    q_call 15 [.ref m] σ = q_ob (q_cV (q_call 10 [.ref m] (q_upd (q_upd σ (m + 3) (iF 35 (draft0 f))) m (mC m tr (upI z 3 (nI 0)))))) none fun h4 => q_run 15 38 [(0, .ref m)] [] h4 := by
  have q0 : ∀ {e}, (q_upd σ (m + 3) e).1 m = some (mC m tr z) := fun {e} => (u_n _ _ (by omega)).trans h0
  have q3 : ∀ {e}, (q_upd σ (m + 3) e).1 (m + 3) = some e := fun {e} => u_s ..
  have l1 := q_for (fun i => q_run 15 2 [(0, .ref m), (1, .int (nI i))] [] (q_upd σ (m + 3) (iF 35 (lay f 0 i (fun _ => nI 0))))) 35 (fun i hi => by
    try dsimp only
    have e := lay_s f 0 i (fun _ => nI 0)
    rw [Nat.zero_add] at e
    rw [e_15_2, if_neg (nI_ge hi (by decide)), m_draft q0, q_obS, f_wr q3 hi (by decide), q_obS, u_u, e, nI_add])
  try dsimp only at l1
  rw [lay_0, u_self h3] at l1
  rw [k_15 h0, e_15_0, l1, e_15_2, if_pos (nI_le (Nat.le_refl _) (by decide)), m_draft q0, q_obS, f_wr q3 (by decide) (by decide), q_obS, u_u, mp_at q0, q_obS]
  rfl
theorem m_typed0 {σ : qH} {m : Nat} {tr : Int64} {z : Nat → Int32} (h0 : σ.1 m = some (mC m tr z)) {i : Int32} (hi : z 0 ≤ i) : q_call 6 [.ref m, .int i] σ = some (some (.int (-1)), σ) := by
  rw [k_6 h0, e_6_0, m_typed h0, q_obS, if_pos hi]
theorem m_nextE {σ : qH} {m : Nat} {tr : Int64} {z : Nat → Int32} (h0 : σ.1 m = some (mC m tr z)) (hi : z 0 ≤ z 3) :
    q_call 10 [.ref m] σ = some (none, q_upd σ m (mC m tr (upI (upI (upI (upI z 5 (z 3)) 4 (nI 0)) 6 (-1)) 3 (z 3 + nI 0)))) := by
  have q0 : ∀ {w}, (q_upd σ m (mC m tr w)).1 m = some (mC m tr w) := fun {w} => u_s ..
  rw [k_10 h0, e_10_0, m_at h0, q_obS, m_typed0 h0 hi, q_cIS, q_obS]
  dsimp only
  rw [if_neg (show ¬ (-1 : Int32) = nI 32 by decide), m_at h0, q_obS, mp_start h0, q_obS, m_at q0, q_obS, m_typed0 q0 (show upI z 5 (z 3) 0 ≤ upI z 5 (z 3) 3 from hi), q_cIS, q_obS]
  dsimp only
  rw [if_neg (show ¬ nI 0 ≤ (-1 : Int32) by decide), e_10_85, mp_sort q0, q_obS, u_u, mp_value q0, q_obS, u_u, m_at q0, q_obS, m_sort q0, q_obS, if_pos (show upI (upI (upI z 5 (z 3)) 4 (nI 0)) 6 (-1) 4 = nI 0 from rfl), e_10_110, mp_at q0, q_obS, u_u, m_sort q0, q_obS]
  exact if_neg (show ¬ nI 0 = nI 2 by decide)
