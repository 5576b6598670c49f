/-! ===== a room ===== -/
def itP (T P : Nat → Nat) : Nat → (Nat → Nat)
  | 0 => P
  | n + 1 => stepP T (itP T P n) (T 1)
theorem WP.it {T P : Nat → Nat} (hT : WT T) (hP : WP T P) : ∀ n, WP T (itP T P n)
  | 0 => hP
  | n + 1 => (WP.it hT hP n).step hT _ (Nat.le_refl _)
/-- after how many steps, from k on, the carpet is gone: at most k + d -/
def barN (T P : Nat → Nat) (r k : Nat) : Nat → Nat
  | 0 => k
  | d + 1 => if itP T P k (15 + r) = 0 then k else barN T P r (k + 1) d
theorem barN_le (T P : Nat → Nat) (r : Nat) : ∀ d k, barN T P r k d ≤ k + d
  | 0, k => Nat.le_refl _
  | d + 1, k => by
    unfold barN
    split
    · omega
    · have := barN_le T P r d (k + 1); omega
theorem m_holds {σ : qH} {m : Nat} {tr : Int64} {z : Nat → Int32} {P : Nat → Nat} {f : Nat → Int32} (h0 : σ.1 m = some (mC m tr z)) (h4 : σ.1 (m + 4) = some (iA 22 P)) (h9 : σ.1 (m + 9) = some (iF 22 f)) :
    q_call 63 [.ref m] σ = some (none, q_upd σ (m + 9) (iF 22 (lay f 0 22 (fun k => nI (P k))))) := by
  have hl := q_for (fun j => q_run 63 2 [(0, .ref m), (1, .int (nI j))] [] (q_upd σ (m + 9) (iF 22 (lay f 0 j (fun k => nI (P k)))))) 22 (fun j hj => by
    try dsimp only
    have q0 : ∀ {e}, (q_upd σ (m + 9) e).1 m = some (mC m tr z) := fun {e} => (u_n _ _ (by omega)).trans h0
    have q4 : ∀ {e}, (q_upd σ (m + 9) e).1 (m + 4) = some (iA 22 P) := fun {e} => (u_n _ _ (by omega)).trans h4
    have q9 : ∀ {e}, (q_upd σ (m + 9) e).1 (m + 9) = some e := fun {e} => u_s ..
    have e := lay_s f 0 j (fun k => nI (P k))
    rw [Nat.zero_add] at e
    rw [e_63_2, if_neg (nI_ge hj (by omega)), m_aside q0, q_obS, m_s q0, q_obS, a_rd q4 hj (by decide), q_obS, f_wr q9 hj (by decide), q_obS, u_u, e, nI_add])
  try dsimp only at hl
  rw [lay_0, u_self h9] at hl
  rw [k_63 h0, e_63_0, hl, e_63_2, if_pos (nI_le (Nat.le_refl _) (by decide))]
theorem m_lets {σ : qH} {m : Nat} {tr : Int64} {z : Nat → Int32} {T P Q : Nat → Nat} {f : Nat → Int32} (h0 : σ.1 m = some (mC m tr z)) (h4 : σ.1 (m + 4) = some (iA 22 Q)) (h9 : σ.1 (m + 9) = some (iF 22 f)) (hf : ∀ j, j < 22 → f j = nI (P j)) (hP : WP T P) (hQ : WP T Q) :
    q_call 68 [.ref m] σ = some (none, q_upd σ (m + 4) (iA 22 P)) := by
  have hl := q_for (fun j => q_run 68 2 [(0, .ref m), (1, .int (nI j))] [] (q_upd σ (m + 4) (iF 22 (lay (fun t => nI (Q t)) 0 j (fun k => nI (P k)))))) 22 (fun j hj => by
    try dsimp only
    have q0 : ∀ {e}, (q_upd σ (m + 4) e).1 m = some (mC m tr z) := fun {e} => (u_n _ _ (by omega)).trans h0
    have q9 : ∀ {e}, (q_upd σ (m + 4) e).1 (m + 9) = some (iF 22 f) := fun {e} => (u_n _ _ (by omega)).trans h9
    have q4 : ∀ {e}, (q_upd σ (m + 4) e).1 (m + 4) = some e := fun {e} => u_s ..
    have e := lay_s (fun t => nI (Q t)) 0 j (fun k => nI (P k))
    rw [Nat.zero_add] at e
    rw [e_68_2, if_neg (nI_ge hj (by omega)), m_s q0, q_obS, m_aside q0, q_obS, f_rd q9 hj (by decide), q_obS, hf j hj, f_wr q4 hj (by decide), q_obS, u_u, e, nI_add])
  try dsimp only at hl
  rw [lay_0, ← iA_F, u_self h4, lay_P hQ hP, ← iA_F] at hl
  rw [k_68 h0, e_68_0, hl, e_68_2, if_pos (nI_le (Nat.le_refl _) (by decide))]
def barV (N : Nat) : Int32 := if N ≤ 60 then nI N else -9
theorem c_bare {σ : qH} {x p n kp : Nat} {tr : Int64} {T P : Nat → Nat} {zz : Int32} (h0 : σ.1 x = some (xC x p n kp tr)) (hp : σ.1 p = some (planC T zz)) (hpo : p = x + 2 ∨ x + 36 ≤ p) (he : σ.1 (x + 3) = some (evC P)) {e4 : qE} (h4 : σ.1 (x + 4) = some e4) (h4e : evX e4) (hT : WT T) (hP : WP T P) {r : Nat} (hr : r < T 0) :
    q_call 59 [.ref x, .int (nI r)] σ = some (some (.int (barV (barN T P r 0 61))), q_upd σ (x + 4) (evC (itP T P (barN T P r 0 61)))) := by
  have t0 := hT.1
  have q0 : ∀ {e}, (q_upd σ (x + 4) e).1 x = some (xC x p n kp tr) := fun {e} => (u_n _ _ (by omega)).trans h0
  have qp : ∀ {e}, (q_upd σ (x + 4) e).1 p = some (planC T zz) := fun {e} => (u_n _ _ (by omega)).trans hp
  have q4 : ∀ {e}, (q_upd σ (x + 4) e).1 (x + 4) = some e := fun {e} => u_s ..
  have hl : ∀ d k, k + d = 61 → q_run 59 13 [(0, .ref x), (1, .int (nI r)), (2, .int (nI k))] [] (q_upd σ (x + 4) (evC (itP T P k))) = some (some (.int (barV (barN T P r k d))), q_upd σ (x + 4) (evC (itP T P (barN T P r k d)))) := by
    intro d
    induction d with
    | zero =>
      intro k hk
      rw [e_59_13, if_pos (nI_lt (show 60 < k by omega) (by omega))]
      unfold barN barV
      rw [if_neg (by omega)]
    | succ d ih =>
      intro k hk
      have hW := hP.it hT k
      have h4v : (q_upd σ (x + 4) (evC (itP T P k))).1 (x + 4) = some (evR (nI (pkS (itP T P k))) (lN (pkL (fun i => itP T P k (15 + i)))) (lN (pkL (fun i => itP T P k (5 + i)))) (lN (pkL (fun i => itP T P k (10 + i)))) (nI (itP T P k 20)) (nI (itP T P k 21))) := u_s ..
      have hb := (hW.l.2.2 r (by omega))
      rw [e_59_13, if_neg (fun q => absurd ((nI_ltI (by decide) (by omega)).mp q) (by omega)), x_trial q0, q_obS, ev_carpets h4v, q_obS, c_lane hW.l.2.2 (by omega), q_cIS, q_obS]
      dsimp only
      unfold barN
      by_cases e : itP T P k (15 + r) = 0
      · rw [if_pos (by rw [e]), if_pos e]
        unfold barV; rw [if_pos (by omega)]
      · rw [if_neg (fun q => e ((nI_eq (by omega) (by decide)).mp q)), if_neg e, x_trial q0, q_obS, x_plan q0, q_obS, c_pass q4 qp (by omega) hT hW, q_cIS, q_obS, u_u, nI_add]
        exact ih (k + 1) (by omega)
  rw [k_59 h0, e_59_0, x_trial h0, q_obS, x_evening h0, q_obS, c_becomeE h4 h4e he (by omega), q_cVS, q_obS]
  exact hl 61 0 (by omega)
theorem m_bare {σ : qH} {m : Nat} {tr : Int64} {z : Nat → Int32} {T P : Nat → Nat} {f : Nat → Int32} (h0 : σ.1 m = some (mC m tr z)) (h2 : σ.1 (m + 2) = some (iA 35 T)) (h4 : σ.1 (m + 4) = some (iA 22 P)) (h9 : σ.1 (m + 9) = some (iF 22 f)) (hT : WT T) (hP : WP T P) {r : Nat} (hr : r < T 0) :
    q_call 69 [.ref m, .int (nI r)] σ = some (some (.int (barV (barN T P r 0 61))), q_upd σ (m + 9) (iF 22 (lay f 0 22 (fun k => nI (P k))))) := by
  have t0 := hT.1
  rw [k_69 h0, e_69_0, m_holds h0 h4 h9, q_cVS, q_obS]
  have n0 : (q_upd σ (m + 9) (iF 22 (lay f 0 22 (fun k => nI (P k))))).1 m = some (mC m tr z) := (u_n _ _ (by omega)).trans h0
  have n2 : (q_upd σ (m + 9) (iF 22 (lay f 0 22 (fun k => nI (P k))))).1 (m + 2) = some (iA 35 T) := (u_n _ _ (by omega)).trans h2
  have n4 : (q_upd σ (m + 9) (iF 22 (lay f 0 22 (fun k => nI (P k))))).1 (m + 4) = some (iA 22 P) := (u_n _ _ (by omega)).trans h4
  have n9 : (q_upd σ (m + 9) (iF 22 (lay f 0 22 (fun k => nI (P k))))).1 (m + 9) = some (iF 22 (lay f 0 22 (fun k => nI (P k)))) := u_s ..
  generalize q_upd σ (m + 9) (iF 22 (lay f 0 22 (fun k => nI (P k)))) = σ1 at n0 n2 n4 n9
  have q0 : ∀ {e}, (q_upd σ1 (m + 4) e).1 m = some (mC m tr z) := fun {e} => (u_n _ _ (by omega)).trans n0
  have q2 : ∀ {e}, (q_upd σ1 (m + 4) e).1 (m + 2) = some (iA 35 T) := fun {e} => (u_n _ _ (by omega)).trans n2
  have q9 : ∀ {e}, (q_upd σ1 (m + 4) e).1 (m + 9) = some (iF 22 (lay f 0 22 (fun k => nI (P k)))) := fun {e} => (u_n _ _ (by omega)).trans n9
  have q4 : ∀ {e}, (q_upd σ1 (m + 4) e).1 (m + 4) = some e := fun {e} => u_s ..
  have hl : ∀ d k, k + d = 61 → q_run 69 6 [(0, .ref m), (1, .int (nI r)), (2, .int (nI k))] [] (q_upd σ1 (m + 4) (iA 22 (itP T P k))) = q_run 69 35 [(0, .ref m), (2, .int (nI (barN T P r k d)))] [] (q_upd σ1 (m + 4) (iA 22 (itP T P (barN T P r k d)))) := by
    intro d
    induction d with
    | zero =>
      intro k hk
      rw [e_69_6, if_pos (nI_lt (show 60 < k by omega) (by omega))]
      rfl
    | succ d ih =>
      intro k hk
      have hW := hP.it hT k
      have hb := (hW.l.2.2 r (by omega))
      rw [e_69_6, if_neg (fun q => absurd ((nI_ltI (by decide) (by omega)).mp q) (by omega)), m_s q0, q_obS, nI_add, a_rd q4 (by omega) (by decide), q_obS]
      unfold barN
      by_cases e : itP T P k (15 + r) = 0
      · rw [if_pos (by rw [e]; decide), if_pos e]
      · rw [if_neg (fun q => e (Nat.le_zero.mp ((nI_leI (by omega) (by decide)).mp q))), if_neg e, m_steps q0 q2 q4 hT hW, q_cIS, q_obS, u_u, nI_add]
        exact ih (k + 1) (by omega)
  have := hl 61 0 (by omega)
  rw [show itP T P 0 = P from rfl, u_self n4] at this
  rw [this, e_69_35, m_lets q0 q4 q9 (fun j hj => by have := lay_in f (b := 0) (fun k => nI (P k)) hj; rw [Nat.zero_add] at this; exact this) hP (hP.it hT _), q_cVS, q_obS, u_u, u_self n4]
  have hN := barN_le T P r 61 0
  unfold barV
  by_cases e : barN T P r 0 61 ≤ 60
  · rw [if_pos (nI_le e (by decide)), if_pos e]
  · rw [if_neg (fun q => e ((nI_leI (by omega) (by decide)).mp q)), if_neg e]
theorem o_room {σ : qH} {x : Nat} (h : QV σ x) (r w : Int32) : QO σ x 60 70 [.int r, .int w] := by
  obtain ⟨p, tx, n, T, P, Hs, kn, I, kp, W, no, tr, C, D, hC, hD, hX, hM, hQ⟩ := id h
  obtain ⟨h0, ⟨zz, hp⟩, hpo, he0, -⟩ := hX.f hC
  have he : σ.1 (x + 3) = some (evR (nI (pkS P)) (lN (pkL (fun i => P (15 + i)))) (lN (pkL (fun i => P (5 + i)))) (lN (pkL (fun i => P (10 + i)))) (nI (P 20)) (nI (P 21))) := he0
  obtain ⟨z, m0, ⟨z0, z1, z2⟩, m2, m4⟩ := hM.f hD
  have hT : WT T := hQ.2.2.1
  have hP : WP T P := hQ.2.2.2.1
  obtain ⟨t0, t1, t2, t5, t6, t7, t8, t9⟩ := id hT
  have hw := pow_le5 t0
  have hp20 : P 20 < 2 ^ T 0 := hP.2.2.2.2.1
  by_cases hr : 0 ≤ r ∧ r < nI (T 0)
  · obtain ⟨r, hr', rfl⟩ := n_within (by omega) hr
    have hr5 : r < 5 := by omega
    by_cases hw5 : w = nI 5
    · subst hw5
      have h4 : σ.1 (x + 4) = some (C 4) := hC.at 4 (by decide) (by decide)
      obtain ⟨f9, hf9⟩ := hM.2.2.2.2.2.2.2.2.2.1
      have m9 : σ.1 (x + 24 + 9) = some (iF 22 f9) := by rw [← hf9]; exact hD 9 (by decide)
      have f1 : ∀ a, a ≠ x + 4 → (q_upd σ (x + 4) (evC (itP T P (barN T P r 0 61)))).1 a = σ.1 a := fun a ha => u_n _ _ ha
      have s1 : (q_upd σ (x + 4) (evC (itP T P (barN T P r 0 61)))).2 = σ.2 := rfl
      have cx : q_call 60 [.ref x, .int (nI r), .int (nI 5)] σ = some (some (.int (barV (barN T P r 0 61))), q_upd σ (x + 4) (evC (itP T P (barN T P r 0 61)))) := by
        rw [k_60 h0, e_60_0, x_plan h0, q_obS, c_hasRoom hp, q_cIS, q_obS]
        dsimp only
        rw [decide_eq_true hr, if_neg (show ¬ nI (true.toNat) = nI 0 by decide), if_neg (show ¬ nI 5 = nI 0 by decide), if_neg (show ¬ nI 5 = nI 1 by decide), if_neg (show ¬ nI 5 = nI 2 by decide), if_neg (show ¬ nI 5 = nI 3 by decide), if_neg (show ¬ nI 5 = nI 4 by decide), if_pos rfl, c_bare h0 hp hpo he0 h4 hX.2.2.2.2.1 hT hP hr', q_cIS, q_obS]
      have hC1 := hC.upd (k := 4) (by decide) (by decide) (evC (itP T P (barN T P r 0 61)))
      have hD1 := hD.x (k := 4) (by decide) (evC (itP T P (barN T P r 0 61)))
      have hX1 := hX.up4 (e := evC (itP T P (barN T P r 0 61))) ⟨_, _, _, _, _, _, rfl⟩
      generalize q_upd σ (x + 4) (evC (itP T P (barN T P r 0 61))) = σ1 at cx hC1 hD1 f1 s1
      have n0 := (f1 (x + 24) (by omega)).trans m0
      have n2 := (f1 (x + 24 + 2) (by omega)).trans m2
      have n4 := (f1 (x + 24 + 4) (by omega)).trans m4
      have n9 := (f1 (x + 24 + 9) (by omega)).trans m9
      have cm : q_call 70 [.ref (x + 24), .int (nI r), .int (nI 5)] σ1 = some (some (.int (barV (barN T P r 0 61))), q_upd σ1 (x + 24 + 9) (iF 22 (lay f9 0 22 (fun k => nI (P k))))) := by
        rw [k_70 n0, e_70_0, m_isRoom n0 n2 t0, q_cIS, q_obS]
        dsimp only
        rw [decide_eq_true hr, if_neg (show ¬ nI (true.toNat) = nI 0 by decide), if_neg (show ¬ nI 5 = nI 0 by decide), if_neg (show ¬ nI 5 = nI 1 by decide), if_neg (show ¬ nI 5 = nI 2 by decide), if_neg (show ¬ nI 5 = nI 3 by decide), if_neg (show ¬ nI 5 = nI 4 by decide), if_pos rfl, m_bare n0 n2 n4 n9 hT hP hr', q_cIS, q_obS]
      obtain ⟨q0, q1, q2, q3, q4, q5, q6, q7, q8, q9, qa, qb⟩ := hM
      refine QO.mk cx cm ⟨p, tx, n, T, P, Hs, kn, I, kp, W, no, tr, upC C 4 (evC (itP T P (barN T P r 0 61))), upC D 9 (iF 22 (lay f9 0 22 (fun k => nI (P k)))), hC1.m (k := 9) (by decide) _, hD1.upd (k := 9) _, hX1, ⟨q0, q1, q2, q3, q4, q5, q6, q7, q8, ⟨_, rfl⟩, qa, qb⟩, hQ⟩ s1 (fun a ha => by rw [u_n _ _ (by omega), f1 a (by omega)])
    · refine QO.ro (v := .int (if w = nI 0 then nI (T (5 + r)) else if w = nI 1 then nI (P (15 + r)) else if w = nI 2 then nI (T (15 + r)) else if w = nI 3 then nI (inR T P r) else if w = nI 4 then nI ((P 20).testBit r).toNat else -1)) h ?_ ?_
      · rw [k_60 h0, e_60_0, x_plan h0, q_obS, c_hasRoom hp, q_cIS, q_obS]
        dsimp only
        rw [decide_eq_true hr, if_neg (show ¬ nI (true.toNat) = nI 0 by decide), if_neg hw5]
        simp only [x_plan h0, x_evening h0, q_obS, pl_holds hp, pl_doors hp, ev_carpets he, ev_places he, ev_dogs he, c_lane hT.l.1 hr5, c_lane hT.l.2.2.1 hr5, c_lane hP.l.2.2 hr5, q_cIS, c_flocksIn hp hT hP (show r < 2 ^ 31 by omega), n_bit (show P 20 < 2 ^ 31 by omega) (show r < 31 by omega)]
        repeat' split
        all_goals rfl
      · rw [k_70 m0, e_70_0, m_isRoom m0 m2 t0, q_cIS, q_obS]
        dsimp only
        rw [decide_eq_true hr, if_neg (show ¬ nI (true.toNat) = nI 0 by decide), if_neg hw5]
        simp (disch := omega) only [m_told m0, m_s m0, q_obS, nI_add, a_rd m2, a_rd m4, m_inRoom m0 m2 m4 t1 (hP.p8 hT) (show r < 2 ^ 31 by omega), q_cIS, n_bit (show P 20 < 2 ^ 31 by omega) (show r < 31 by omega)]
        repeat' split
        all_goals rfl
  · refine QO.ro (v := .int (-1)) h ?_ ?_
    · rw [k_60 h0, e_60_0, x_plan h0, q_obS, c_hasRoom hp, q_cIS, q_obS, decide_eq_false hr]
      rfl
    · rw [k_70 m0, e_70_0, m_isRoom m0 m2 t0, q_cIS, q_obS, decide_eq_false hr]
      rfl
