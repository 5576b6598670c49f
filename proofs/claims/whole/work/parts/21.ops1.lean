/-! ===== the calls, one by one: trace, count, flock, clear, type, forget, tells ===== -/
def QV (σ : qH) (x : Nat) : Prop := ∃ p tx n T P Hs kn I kp W no tr, QW σ x p tx n T P Hs kn I kp W no tr
/-- the answer's kind: the trace is a long, all else an int -/
def qv (k : Nat) (v : Value) : Bool := match v with
  | .int _ => k != 157
  | .long _ => k == 157
  | _ => false
def QO (σ : qH) (x kX kM : Nat) (as : List Value) : Prop := ∃ v σ', QA σ x kX kM as v σ' ∧ QV σ' x ∧ (σ'.2.1 ≤ σ.2.1 + 2 ∧ σ'.2.2 ≤ σ.2.2 + 40) ∧ (∀ a, a < x → σ'.1 a = σ.1 a) ∧ qv kX v = true
theorem QO.ro {σ : qH} {x kX kM : Nat} {as : List Value} {v : Value} (h : QV σ x) (h1 : q_call kX (.ref x :: as) σ = some (some v, σ)) (h2 : q_call kM (.ref (x + 24) :: as) σ = some (some v, σ)) (hv : qv kX v = true := by rfl) : QO σ x kX kM as :=
  ⟨v, σ, ⟨σ, h1, h2⟩, h, ⟨by omega, by omega⟩, fun _ _ => rfl, hv⟩
theorem o_trace {σ : qH} {x : Nat} (h : QV σ x) : QO σ x 157 158 [] := by
  obtain ⟨p, tx, n, T, P, Hs, kn, I, kp, W, no, tr, C, D, hC, hD, hX, hM, hQ⟩ := id h
  have h0 : σ.1 x = some (xC x p n (bits kp 2) tr) := by rw [← hX.1]; exact hC.at 0 (by decide) (by decide)
  obtain ⟨⟨z, hz, -⟩, -⟩ := hM
  have m0 : σ.1 (x + 24) = some (mC (x + 24) tr z) := by rw [← hz]; exact hD 0 (by decide)
  refine QO.ro (v := .long tr) h ?_ ?_
  · rw [k_157 h0, e_157_0, x_traced h0, q_obS]
  · rw [k_158 m0, e_158_0, m_trace m0, q_obS]
theorem o_count {σ : qH} {x : Nat} (h : QV σ x) (w : Int32) : QO σ x 155 156 [.int w] := by
  obtain ⟨p, tx, n, T, P, Hs, kn, I, kp, W, no, tr, C, D, hC, hD, hX, hM, hQ⟩ := id h
  obtain ⟨x0, x1, ⟨zz, x2⟩, x3, x4, x5, x6, x7, x8, ⟨ww, a, b, c, x9⟩, x10⟩ := hX
  have h0 : σ.1 x = some (xC x p n (bits kp 2) tr) := by rw [← x0]; exact hC.at 0 (by decide) (by decide)
  have hp : σ.1 p = some (planC T zz) := by rw [← x2]; exact hC.2.1
  have hg : σ.1 (x + 18) = some (grC W no ww a b c) := by rw [← x9]; exact hC.at 18 (by decide) (by decide)
  obtain ⟨⟨z, hz, z0, z1, z2⟩, m1, m2, m3⟩ := hM
  have m0 : σ.1 (x + 24) = some (mC (x + 24) tr z) := by rw [← hz]; exact hD 0 (by decide)
  have m2 : σ.1 (x + 24 + 2) = some (iA 35 T) := by rw [← m2]; exact hD 2 (by decide)
  have hgt : q_getI σ (.ref (x + 18)) 1 3 = some (nI no) := g_I hg rfl
  refine QO.ro (v := .int (if w = nI 0 then nI (T 0) else if w = nI 1 then nI (T 1) else if w = nI 2 then nI (T 2) else if w = nI 3 then nI no else if w = nI 4 then nI n else -1)) h ?_ ?_
  · rw [k_155 h0, e_155_0]
    simp only [x_plan h0, x_grazing h0, x_letters h0, q_obS, pl_rooms hp, pl_flocks hp, pl_lambAt hp, hgt]
    repeat' split
    all_goals rfl
  · rw [k_156 m0, e_156_0]
    simp only [m_told m0, q_obS, a_rd m2 (show 0 < 35 by decide) (by decide), a_rd m2 (show 1 < 35 by decide) (by decide), a_rd m2 (show 2 < 35 by decide) (by decide), m_noted m0, m_typed m0, z0, z2]
    repeat' split
    all_goals rfl
theorem n_in {x : Int32} {N : Nat} (hN : N < 2 ^ 31) : (∃ j, j < N ∧ x = nI j) ∨ ((x < nI 0 ∨ nI N ≤ x) ∧ ∀ j, j < N → x ≠ nI j) := by
  rcases pk_ix x hN with h | h | h
  · exact Or.inr ⟨Or.inl h, fun j hj e => by rw [e] at h; exact absurd h (nI_pos (by omega))⟩
  · exact Or.inr ⟨Or.inr h, fun j hj e => by rw [e, nI_leI hN (by omega)] at h; omega⟩
  · exact Or.inl h
theorem c_hasFlock {σ : qH} {p : Nat} {z : Int32} {T : Nat → Nat} (h : σ.1 p = some (planC T z)) (f : Int32) : q_call 71 [.ref p, .int f] σ = some (some (.int (nI (decide (0 ≤ f ∧ f < nI (T 1))).toNat)), σ) := by
  rw [k_71 h, e_71_0, e_71_16, pl_flocks h, q_obS]
  by_cases h1 : f < nI 0
  · rw [if_pos h1, decide_eq_false (fun q => absurd h1 (Int32.not_lt.mpr q.1))]; rfl
  · rw [if_neg h1]
    by_cases h2 : nI (T 1) ≤ f
    · rw [if_pos h2, decide_eq_false (fun q => absurd q.2 (Int32.not_lt.mpr h2))]; rfl
    · rw [if_neg h2, decide_eq_true ⟨Int32.not_lt.mp h1, Int32.not_le.mp h2⟩]; rfl
theorem c_hasRoom {σ : qH} {p : Nat} {z : Int32} {T : Nat → Nat} (h : σ.1 p = some (planC T z)) (f : Int32) : q_call 28 [.ref p, .int f] σ = some (some (.int (nI (decide (0 ≤ f ∧ f < nI (T 0))).toNat)), σ) := by
  rw [k_28 h, e_28_0, e_28_16, pl_rooms h, q_obS]
  by_cases h1 : f < nI 0
  · rw [if_pos h1, decide_eq_false (fun q => absurd h1 (Int32.not_lt.mpr q.1))]; rfl
  · rw [if_neg h1]
    by_cases h2 : nI (T 0) ≤ f
    · rw [if_pos h2, decide_eq_false (fun q => absurd q.2 (Int32.not_lt.mpr h2))]; rfl
    · rw [if_neg h2, decide_eq_true ⟨Int32.not_lt.mp h1, Int32.not_le.mp h2⟩]; rfl
theorem okv4 (b : Bool) : q_okv 4 (.int (nI b.toNat)) = true := by cases b <;> decide +kernel
theorem n_pred_le {a : Nat} (ha : a < 2 ^ 30) (f : Int32) : (nI 0 ≤ f ∧ f ≤ nI a - nI 1) ↔ (0 ≤ f ∧ f < nI a) := by
  have e : (nI a - nI 1).toInt = (a : Int) - 1 := by rw [pk_sub_toInt ha (by decide)]; rfl
  have e2 : (nI a).toInt = (a : Int) := nI_toInt (by omega)
  constructor
  · rintro ⟨h1, h2⟩
    refine ⟨h1, ?_⟩
    rw [Int32.le_iff_toInt_le, e] at h2
    rw [Int32.lt_iff_toInt_lt, e2]; omega
  · rintro ⟨h1, h2⟩
    refine ⟨h1, ?_⟩
    rw [Int32.lt_iff_toInt_lt, e2] at h2
    rw [Int32.le_iff_toInt_le, e]; omega
theorem m_isFlock {σ : qH} {m : Nat} {tr : Int64} {z : Nat → Int32} {T : Nat → Nat} (h0 : σ.1 m = some (mC m tr z)) (h2 : σ.1 (m + 2) = some (iA 35 T)) (hT : T 1 ≤ 5) (f : Int32) : q_call 73 [.ref m, .int f] σ = some (some (.int (nI (decide (0 ≤ f ∧ f < nI (T 1))).toNat)), σ) := by
  rw [k_73 h0, e_73_0, m_told h0, q_obS, a_rd h2 (by decide) (by decide), q_obS, m_in, q_cIS, q_obS]
  dsimp only
  rw [okv4]
  simp only [n_pred_le (show T 1 < 2 ^ 30 by omega)]
  rfl
theorem m_isRoom {σ : qH} {m : Nat} {tr : Int64} {z : Nat → Int32} {T : Nat → Nat} (h0 : σ.1 m = some (mC m tr z)) (h2 : σ.1 (m + 2) = some (iA 35 T)) (hT : T 0 ≤ 5) (f : Int32) : q_call 61 [.ref m, .int f] σ = some (some (.int (nI (decide (0 ≤ f ∧ f < nI (T 0))).toNat)), σ) := by
  rw [k_61 h0, e_61_0, m_told h0, q_obS, a_rd h2 (by decide) (by decide), q_obS, m_in, q_cIS, q_obS]
  dsimp only
  rw [okv4]
  simp only [n_pred_le (show T 0 < 2 ^ 30 by omega)]
  rfl
theorem n_within {f : Int32} {a : Nat} (ha : a < 2 ^ 31) (h : 0 ≤ f ∧ f < nI a) : ∃ j, j < a ∧ f = nI j := by
  rcases n_in (x := f) ha with g | ⟨g | g, -⟩
  · exact g
  · exact absurd g (Int32.not_lt.mpr h.1)
  · exact absurd h.2 (Int32.not_lt.mpr g)
theorem o_flock {σ : qH} {x : Nat} (h : QV σ x) (f w : Int32) : QO σ x 72 74 [.int f, .int w] := by
  obtain ⟨p, tx, n, T, P, Hs, kn, I, kp, W, no, tr, C, D, hC, hD, hX, hM, hQ⟩ := id h
  obtain ⟨x0, x1, ⟨zz, x2⟩, x3, x4⟩ := hX
  obtain ⟨q1, q2, hT, hP, q3⟩ := hQ
  have h0 : σ.1 x = some (xC x p n (bits kp 2) tr) := by rw [← x0]; exact hC.at 0 (by decide) (by decide)
  have hp : σ.1 p = some (planC T zz) := by rw [← x2]; exact hC.2.1
  have he : σ.1 (x + 3) = some (evR (nI (pkS P)) (lN (pkL (fun i => P (15 + i)))) (lN (pkL (fun i => P (5 + i)))) (lN (pkL (fun i => P (10 + i)))) (nI (P 20)) (nI (P 21))) := by rw [show evR _ _ _ _ _ _ = evC P from rfl, ← x3]; exact hC.at 3 (by decide) (by decide)
  obtain ⟨⟨z, hz, z0, z1, z2⟩, m1, m2, m3, m4, m5⟩ := hM
  have m0 : σ.1 (x + 24) = some (mC (x + 24) tr z) := by rw [← hz]; exact hD 0 (by decide)
  have m2 : σ.1 (x + 24 + 2) = some (iA 35 T) := by rw [← m2]; exact hD 2 (by decide)
  have m4 : σ.1 (x + 24 + 4) = some (iA 22 P) := by rw [← m4]; exact hD 4 (by decide)
  have t1 := hT.2.1
  by_cases hf : 0 ≤ f ∧ f < nI (T 1)
  · obtain ⟨i, hi, rfl⟩ := n_within (by omega) hf
    have hi5 : i < 5 := by omega
    refine QO.ro (v := .int (if w = nI 0 then nI (T (20 + i)) else if w = nI 1 then nI (T (25 + i)) else if w = nI 2 then nI (T (30 + i)) else if w = nI 3 then nI (P i) else if w = nI 4 then nI (P (5 + i)) else if w = nI 5 then nI (P (10 + i)) else -1)) h ?_ ?_
    · rw [k_72 h0, e_72_0, x_plan h0, q_obS, c_hasFlock hp, q_cIS, q_obS, decide_eq_true hf]
      dsimp only
      rw [if_neg (show ¬ nI (true.toNat) = nI 0 by decide)]
      simp only [x_plan h0, x_evening h0, q_obS, pl_homes hp, pl_hungers hp, pl_stuffs hp, ev_places he, ev_eaten he, ev_lambs he, c_spot hT.l.2.2.2.2.2 hi5, c_lane hT.l.2.2.2.1 hi5, c_lane hT.l.2.2.2.2.1 hi5, c_spot (hP.p8 hT) hi5, c_lane hP.l.1 hi5, c_lane hP.l.2.1 hi5, q_cIS]
      repeat' split
      all_goals rfl
    · rw [k_74 m0, e_74_0, m_isFlock m0 m2 t1, q_cIS, q_obS, decide_eq_true hf]
      dsimp only
      rw [if_neg (show ¬ nI (true.toNat) = nI 0 by decide)]
      simp (disch := omega) only [m_told m0, m_s m0, q_obS, nI_add, a_rd m2, a_rd m4]
      repeat' split
      all_goals rfl
  · refine QO.ro (v := .int (-1)) h ?_ ?_
    · rw [k_72 h0, e_72_0, x_plan h0, q_obS, c_hasFlock hp, q_cIS, q_obS, decide_eq_false hf]
      rfl
    · rw [k_74 m0, e_74_0, m_isFlock m0 m2 t1, q_cIS, q_obS, decide_eq_false hf]
      rfl
