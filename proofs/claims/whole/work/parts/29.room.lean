/-! ===== a room ===== -/
def itP (T P : Nat → Nat) : Nat → (Nat → Nat)
  | 0 => P
  | n + 1 => stepP T (itP T P n) (T 1)
theorem WP.it {T P : Nat → Nat} (hT : WT T) (hP : WP T P) : ∀ n, WP T (itP T P n)
  | 0 => hP
  | n + 1 => (WP.it hT hP n).step hT _ (Nat.le_refl _)
/-- after how many steps, from k on, the carpet is gone: at most k + d -/
def barN (T P : Nat → Nat) (r k : Nat) : Nat → Nat
  | 0 => k
  | d + 1 => if itP T P k (15 + r) = 0 then k else barN T P r (k + 1) d
theorem barN_le (T P : Nat → Nat) (r : Nat) : ∀ d k, barN T P r k d ≤ k + d
  | 0, k => Nat.le_refl _
  | d + 1, k => by
    unfold barN
    split
    · omega
    · have := barN_le T P r d (k + 1); omega
theorem m_holds {σ : qH} {m : Nat} {tr : Int64} {z : Nat → Int32} {P : Nat → Nat} {f : Nat → Int32} (h0 : σ.1 m = some (mC m tr z)) (h4 : σ.1 (m + 4) = some (iA 22 P)) (h9 : σ.1 (m + 9) = some (iF 22 f)) :
    q_call 63 [.ref m] σ = some (none, q_upd σ (m + 9) (iF 22 (lay f 0 22 (fun k => nI (P k))))) := by
  have hl := q_for (fun j => q_run 63 2 [(0, .ref m), (1, .int (nI j))] [] (q_upd σ (m + 9) (iF 22 (lay f 0 j (fun k => nI (P k)))))) 22 (fun j hj => by
    try dsimp only
    have q0 : ∀ {e}, (q_upd σ (m + 9) e).1 m = some (mC m tr z) := fun {e} => (u_n _ _ (by omega)).trans h0
    have q4 : ∀ {e}, (q_upd σ (m + 9) e).1 (m + 4) = some (iA 22 P) := fun {e} => (u_n _ _ (by omega)).trans h4
    have q9 : ∀ {e}, (q_upd σ (m + 9) e).1 (m + 9) = some e := fun {e} => u_s ..
    have e := lay_s f 0 j (fun k => nI (P k))
    rw [Nat.zero_add] at e
    rw [e_63_2, if_neg (nI_ge hj (by omega)), m_aside q0, q_obS, m_s q0, q_obS, a_rd q4 hj (by decide), q_obS, f_wr q9 hj (by decide), q_obS, u_u, e, nI_add])
  try dsimp only at hl
  rw [lay_0, u_self h9] at hl
  rw [k_63 h0, e_63_0, hl, e_63_2, if_pos (nI_le (Nat.le_refl _) (by decide))]
theorem m_lets {σ : qH} {m : Nat} {tr : Int64} {z : Nat → Int32} {T P Q : Nat → Nat} {f : Nat → Int32} (h0 : σ.1 m = some (mC m tr z)) (h4 : σ.1 (m + 4) = some (iA 22 Q)) (h9 : σ.1 (m + 9) = some (iF 22 f)) (hf : ∀ j, j < 22 → f j = nI (P j)) (hP : WP T P) (hQ : WP T Q) :
    q_call 68 [.ref m] σ = some (none, q_upd σ (m + 4) (iA 22 P)) := by
  have hl := q_for (fun j => q_run 68 2 [(0, .ref m), (1, .int (nI j))] [] (q_upd σ (m + 4) (iF 22 (lay (fun t => nI (Q t)) 0 j (fun k => nI (P k)))))) 22 (fun j hj => by
    try dsimp only
    have q0 : ∀ {e}, (q_upd σ (m + 4) e).1 m = some (mC m tr z) := fun {e} => (u_n _ _ (by omega)).trans h0
    have q9 : ∀ {e}, (q_upd σ (m + 4) e).1 (m + 9) = some (iF 22 f) := fun {e} => (u_n _ _ (by omega)).trans h9
    have q4 : ∀ {e}, (q_upd σ (m + 4) e).1 (m + 4) = some e := fun {e} => u_s ..
    have e := lay_s (fun t => nI (Q t)) 0 j (fun k => nI (P k))
    rw [Nat.zero_add] at e
    rw [e_68_2, if_neg (nI_ge hj (by omega)), m_s q0, q_obS, m_aside q0, q_obS, f_rd q9 hj (by decide), q_obS, hf j hj, f_wr q4 hj (by decide), q_obS, u_u, e, nI_add])
  try dsimp only at hl
  rw [lay_0, ← iA_F, u_self h4, lay_P hQ hP, ← iA_F] at hl
  rw [k_68 h0, e_68_0, hl, e_68_2, if_pos (nI_le (Nat.le_refl _) (by decide))]
def barV (N : Nat) : Int32 := if N ≤ 60 then nI N else -9
theorem c_bare {σ : qH} {x p n kp : Nat} {tr : Int64} {T P : Nat → Nat} {zz : Int32} (h0 : σ.1 x = some (xC x p n kp tr)) (hp : σ.1 p = some (planC T zz)) (hpo : p = x + 2 ∨ x + 36 ≤ p) (he : σ.1 (x + 3) = some (evC P)) {e4 : qE} (h4 : σ.1 (x + 4) = some e4) (h4e : evX e4) (hT : WT T) (hP : WP T P) {r : Nat} (hr : r < T 0) :
    q_call 59 [.ref x, .int (nI r)] σ = some (some (.int (barV (barN T P r 0 61))), q_upd σ (x + 4) (evC (itP T P (barN T P r 0 61)))) := by
  have t0 := hT.1
  have q0 : ∀ {e}, (q_upd σ (x + 4) e).1 x = some (xC x p n kp tr) := fun {e} => (u_n _ _ (by omega)).trans h0
  have qp : ∀ {e}, (q_upd σ (x + 4) e).1 p = some (planC T zz) := fun {e} => (u_n _ _ (by omega)).trans hp
  have q4 : ∀ {e}, (q_upd σ (x + 4) e).1 (x + 4) = some e := fun {e} => u_s ..
  have hl : ∀ d k, k + d = 61 → q_run 59 13 [(0, .ref x), (1, .int (nI r)), (2, .int (nI k))] [] (q_upd σ (x + 4) (evC (itP T P k))) = some (some (.int (barV (barN T P r k d))), q_upd σ (x + 4) (evC (itP T P (barN T P r k d)))) := by
    intro d
    induction d with
    | zero =>
      intro k hk
      rw [e_59_13, if_pos (nI_lt (show 60 < k by omega) (by omega))]
      unfold barN barV
      rw [if_neg (by omega)]
    | succ d ih =>
      intro k hk
      have hW := hP.it hT k
      have h4v : (q_upd σ (x + 4) (evC (itP T P k))).1 (x + 4) = some (evR (nI (pkS (itP T P k))) (lN (pkL (fun i => itP T P k (15 + i)))) (lN (pkL (fun i => itP T P k (5 + i)))) (lN (pkL (fun i => itP T P k (10 + i)))) (nI (itP T P k 20)) (nI (itP T P k 21))) := u_s ..
      have hb := (hW.l.2.2 r (by omega))
      rw [e_59_13, if_neg (fun q => absurd ((nI_ltI (by decide) (by omega)).mp q) (by omega)), x_trial q0, q_obS, ev_carpets h4v, q_obS, c_lane hW.l.2.2 (by omega), q_cIS, q_obS]
      dsimp only
      unfold barN
      by_cases e : itP T P k (15 + r) = 0
      · rw [if_pos (by rw [e]), if_pos e]
        unfold barV; rw [if_pos (by omega)]
      · rw [if_neg (fun q => e ((nI_eq (by omega) (by decide)).mp q)), if_neg e, x_trial q0, q_obS, x_plan q0, q_obS, c_pass q4 qp (by omega) hT hW, q_cIS, q_obS, u_u, nI_add]
        exact ih (k + 1) (by omega)
  rw [k_59 h0, e_59_0, x_trial h0, q_obS, x_evening h0, q_obS, c_becomeE h4 h4e he (by omega), q_cVS, q_obS]
  exact hl 61 0 (by omega)
theorem m_bare {σ : qH} {m : Nat} {tr : Int64} {z : Nat → Int32} {T P : Nat → Nat} {f : Nat → Int32} (h0 : σ.1 m = some (mC m tr z)) (h2 : σ.1 (m + 2) = some (iA 35 T)) (h4 : σ.1 (m + 4) = some (iA 22 P)) (h9 : σ.1 (m + 9) = some (iF 22 f)) (hT : WT T) (hP : WP T P) {r : Nat} (hr : r < T 0) :
    q_call 69 [.ref m, .int (nI r)] σ = some (some (.int (barV (barN T P r 0 61))), q_upd σ (m + 9) (iF 22 (lay f 0 22 (fun k => nI (P k))))) := by
  have t0 := hT.1
  rw [k_69 h0, e_69_0, m_holds h0 h4 h9, q_cVS, q_obS]
  have n0 : (q_upd σ (m + 9) (iF 22 (lay f 0 22 (fun k => nI (P k))))).1 m = some (mC m tr z) := (u_n _ _ (by omega)).trans h0
  have n2 : (q_upd σ (m + 9) (iF 22 (lay f 0 22 (fun k => nI (P k))))).1 (m + 2) = some (iA 35 T) := (u_n _ _ (by omega)).trans h2
  have n4 : (q_upd σ (m + 9) (iF 22 (lay f 0 22 (fun k => nI (P k))))).1 (m + 4) = some (iA 22 P) := (u_n _ _ (by omega)).trans h4
  have n9 : (q_upd σ (m + 9) (iF 22 (lay f 0 22 (fun k => nI (P k))))).1 (m + 9) = some (iF 22 (lay f 0 22 (fun k => nI (P k)))) := u_s ..
  generalize q_upd σ (m + 9) (iF 22 (lay f 0 22 (fun k => nI (P k)))) = σ1 at n0 n2 n4 n9
  have q0 : ∀ {e}, (q_upd σ1 (m + 4) e).1 m = some (mC m tr z) := fun {e} => (u_n _ _ (by omega)).trans n0
  have q2 : ∀ {e}, (q_upd σ1 (m + 4) e).1 (m + 2) = some (iA 35 T) := fun {e} => (u_n _ _ (by omega)).trans n2
  have q9 : ∀ {e}, (q_upd σ1 (m + 4) e).1 (m + 9) = some (iF 22 (lay f 0 22 (fun k => nI (P k)))) := fun {e} => (u_n _ _ (by omega)).trans n9
  have q4 : ∀ {e}, (q_upd σ1 (m + 4) e).1 (m + 4) = some e := fun {e} => u_s ..
  have hl : ∀ d k, k + d = 61 → q_run 69 6 [(0, .ref m), (1, .int (nI r)), (2, .int (nI k))] [] (q_upd σ1 (m + 4) (iA 22 (itP T P k))) = q_run 69 35 [(0, .ref m), (2, .int (nI (barN T P r k d)))] [] (q_upd σ1 (m + 4) (iA 22 (itP T P (barN T P r k d)))) := by
    intro d
    induction d with
    | zero =>
      intro k hk
      rw [e_69_6, if_pos (nI_lt (show 60 < k by omega) (by omega))]
      rfl
    | succ d ih =>
      intro k hk
      have hW := hP.it hT k
      have hb := (hW.l.2.2 r (by omega))
      rw [e_69_6, if_neg (fun q => absurd ((nI_ltI (by decide) (by omega)).mp q) (by omega)), m_s q0, q_obS, nI_add, a_rd q4 (by omega) (by decide), q_obS]
      unfold barN
      by_cases e : itP T P k (15 + r) = 0
      · rw [if_pos (by rw [e]; decide), if_pos e]
      · rw [if_neg (fun q => e (Nat.le_zero.mp ((nI_leI (by omega) (by decide)).mp q))), if_neg e, m_steps q0 q2 q4 hT hW, q_cIS, q_obS, u_u, nI_add]
        exact ih (k + 1) (by omega)
  have := hl 61 0 (by omega)
  rw [show itP T P 0 = P from rfl, u_self n4] at this
  rw [this, e_69_35, m_lets q0 q4 q9 (fun j hj => by have := lay_in f (b := 0) (fun k => nI (P k)) hj; rw [Nat.zero_add] at this; exact this) hP (hP.it hT _), q_cVS, q_obS, u_u, u_self n4]
  have hN := barN_le T P r 61 0
  unfold barV
  by_cases e : barN T P r 0 61 ≤ 60
  · rw [if_pos (nI_le e (by decide)), if_pos e]
  · rw [if_neg (fun q => e ((nI_leI (by omega) (by decide)).mp q)), if_neg e]
