/-! ===== homing ===== -/
theorem home_iff {T Q : Nat → Nat} (hT : WT T) (hQ : WP T Q) : (pkS Q = pkS (fun i => T (20 + i))) ↔ strF T Q = 0 := by
  have t9 := hT.2.2.2.2.2.2.2
  have t1 := hT.2.1
  constructor
  · intro h
    have := pkS_inj (hQ.p8 hT) hT.l.2.2.2.2.2 h
    unfold strF
    exact tb_zero fun i => by
      rw [bits_tb]
      by_cases hi : i < T 1
      · rw [this i (by omega)]; simp
      · simp [hi]
  · intro h
    refine pkS_congr fun i hi => ?_
    by_cases h1 : i < T 1
    · have e : (strF T Q).testBit i = false := by rw [h]; simp
      unfold strF at e
      rw [bits_tb, decide_eq_true h1, Bool.true_and] at e
      simpa using e
    · rw [hQ.2.1 i (by omega) hi]
      exact (t9 i (by omega) hi).symm
def homQ (T P : Nat → Nat) (d : Nat) : Nat → Nat := stepP T (up P 20 d) (T 1)
def homD (T P : Nat → Nat) (d : Nat) : Bool := decide (strF T (homQ T P d) = 0)
def homB (T P : Nat → Nat) : Nat → Option Nat
  | 0 => none
  | d + 1 => match homB T P d with
    | none => if homD T P d then some d else none
    | some b => if ones d < ones b ∧ homD T P d = true then some d else some b
def homF (o : Option Nat) : Nat := match o with
  | none => 6
  | some b => ones b
theorem homB_lt {T P : Nat → Nat} : ∀ {n b : Nat}, homB T P n = some b → b < n
  | 0, b, h => by cases h
  | n + 1, b, h => by
    unfold homB at h
    cases e : homB T P n with
    | none =>
      rw [e] at h; dsimp only at h
      split at h
      · cases h; omega
      · cases h
    | some c =>
      rw [e] at h; dsimp only at h
      have := homB_lt e
      split at h
      · cases h; omega
      · cases h; omega
theorem ones_le (a : Nat) : ones a ≤ 5 := cnt_le _ 5
theorem WP.homQ {T P : Nat → Nat} (hT : WT T) (hP : WP T P) {d : Nat} (hd : d < 2 ^ T 0) : WP T (homQ T P d) := (hP.dogs hT.2.1 hd).step hT _ (Nat.le_refl _)
theorem c_sendsHome {σ : qH} {x p n kp : Nat} {tr : Int64} {T P : Nat → Nat} {zz : Int32} (h0 : σ.1 x = some (xC x p n kp tr)) (hp : σ.1 p = some (planC T zz)) (hpo : p = x + 2 ∨ x + 36 ≤ p) (he : σ.1 (x + 3) = some (evC P)) {e4 : qE} (h4 : σ.1 (x + 4) = some e4) (h4e : evX e4) (hT : WT T) (hP : WP T P) {d : Nat} (hd : d < 2 ^ T 0) :
    q_call 110 [.ref x, .int (nI d)] σ = some (some (.int (nI (homD T P d).toNat)), q_upd σ (x + 4) (evC (homQ T P d))) := by
  have q0 : ∀ {e}, (q_upd σ (x + 4) e).1 x = some (xC x p n kp tr) := fun {e} => (u_n _ _ (by omega)).trans h0
  have qp : ∀ {e}, (q_upd σ (x + 4) e).1 p = some (planC T zz) := fun {e} => (u_n _ _ (by omega)).trans hp
  have q4 : ∀ {e}, (q_upd σ (x + 4) e).1 (x + 4) = some e := fun {e} => u_s ..
  have q4e : ∀ {a b c e g k}, (q_upd σ (x + 4) (evR a b c e g k)).1 (x + 4) = some (evR a b c e g k) := fun {a b c e g k} => u_s ..
  have hW := hP.dogs hT.2.1 hd
  have hH : WP T (homQ T P d) := hP.homQ hT hd
  rw [k_110 h0, e_110_0, x_trial h0, q_obS, x_evening h0, q_obS, c_becomeE h4 h4e he (by omega), q_cVS, q_obS, x_trial q0, q_obS, show evC P = evR (nI (pkS P)) (lN (pkL (fun i => P (15 + i)))) (lN (pkL (fun i => P (5 + i)))) (lN (pkL (fun i => P (10 + i)))) (nI (P 20)) (nI (P 21)) from rfl, evp_dogs q4e, q_obS, u_u, ← evC_dogs, x_trial q0, q_obS, x_plan q0, q_obS, c_pass q4 qp (by omega) hT hW, q_cIS, q_obS, u_u]
  dsimp only
  have qq : (q_upd σ (x + 4) (evC (stepP T (up P 20 d) (T 1)))).1 (x + 4) = some (evR (nI (pkS (homQ T P d))) (lN (pkL (fun i => homQ T P d (15 + i)))) (lN (pkL (fun i => homQ T P d (5 + i)))) (lN (pkL (fun i => homQ T P d (10 + i)))) (nI (homQ T P d 20)) (nI (homQ T P d 21))) := u_s ..
  have l1 := pkS_lt (hH.p8 hT)
  have l2 := pkS_lt hT.l.2.2.2.2.2
  rw [x_trial q0, q_obS, ev_places qq, q_obS, x_plan q0, q_obS, pl_homes qp, q_obS]
  unfold homD
  by_cases e : strF T (homQ T P d) = 0
  · rw [decide_eq_true e, if_pos (by rw [(home_iff hT hH).mpr e])]; rfl
  · rw [decide_eq_false e, if_neg (fun q => e ((home_iff hT hH).mp ((nI_eq (by omega) (by omega)).mp q)))]; rfl
theorem n_m9 {a : Nat} (ha : a < 2 ^ 31) : ¬ nI a = (-9 : Int32) := fun e => absurd (congrArg Int32.toInt e) (by show ¬ (nI a).toInt = -9; rw [nI_toInt (by omega)]; omega)
theorem c_homing {σ : qH} {x p n kp : Nat} {tr : Int64} {T P : Nat → Nat} {zz : Int32} (h0 : σ.1 x = some (xC x p n kp tr)) (hp : σ.1 p = some (planC T zz)) (hpo : p = x + 2 ∨ x + 36 ≤ p) (he : σ.1 (x + 3) = some (evC P)) {e4 : qE} (h4 : σ.1 (x + 4) = some e4) (h4e : evX e4) (hT : WT T) (hP : WP T P) :
    ∃ e, evX e ∧ q_call 111 [.ref x] σ = some (some (.int (optI (homB T P (2 ^ T 0)))), q_upd σ (x + 4) e) := by
  have t0 := hT.1
  have hw := pow_le5 t0
  have hl : ∀ d, d ≤ 2 ^ T 0 → ∃ e, evX e ∧ q_run 111 8 [(0, .ref x), (1, .int (-9)), (2, .int (nI 6)), (3, .int (nI 0))] [] σ = q_run 111 8 [(0, .ref x), (1, .int (optI (homB T P d))), (2, .int (nI (homF (homB T P d)))), (3, .int (nI d))] [] (q_upd σ (x + 4) e) := by
    intro d
    induction d with
    | zero => intro _; exact ⟨e4, h4e, by rw [u_self h4]; rfl⟩
    | succ d ih =>
      intro hd
      obtain ⟨e, hee, ih⟩ := ih (by omega)
      have q0 : (q_upd σ (x + 4) e).1 x = some (xC x p n kp tr) := (u_n _ _ (by omega)).trans h0
      have qp : (q_upd σ (x + 4) e).1 p = some (planC T zz) := (u_n _ _ (by omega)).trans hp
      have q3 : (q_upd σ (x + 4) e).1 (x + 3) = some (evC P) := (u_n _ _ (by omega)).trans he
      have q4 : (q_upd σ (x + 4) e).1 (x + 4) = some e := u_s ..
      rw [ih, e_111_8, x_plan q0, q_obS, pl_rooms qp, q_obS, n_shl1 t0, if_neg (nI_ge (show d < 2 ^ T 0 by omega) (by omega)), c_bitCount (by omega), q_cIS, q_obS]
      dsimp only
      have l1 := ones_le d
      have l2 : homF (homB T P d) ≤ 6 := by
        unfold homF
        split
        · exact Nat.le_refl _
        · have := ones_le (by assumption); exact Nat.le_trans (ones_le _) (by decide)
      have key : homB T P (d + 1) = if ones d < homF (homB T P d) ∧ homD T P d = true then some d else homB T P d := by
        show (match homB T P d with | none => _ | some b => _) = _
        cases homB T P d with
        | none =>
          show (if homD T P d then some d else none) = if ones d < 6 ∧ homD T P d = true then some d else none
          cases homD T P d with
          | true => rw [if_pos rfl, if_pos ⟨by omega, rfl⟩]
          | false => rw [if_neg (by decide), if_neg (fun q => absurd q.2 (by decide))]
        | some b => rfl
      by_cases hlt : ones d < homF (homB T P d)
      · rw [if_neg (nI_ge hlt (by omega)), c_sendsHome q0 qp hpo q3 q4 hee hT hP (by omega), q_cIS, q_obS, u_u]
        dsimp only
        cases hh : homD T P d with
        | true =>
          rw [hh] at key
          rw [if_pos ⟨hlt, rfl⟩] at key
          rw [if_neg (show ¬ nI (true.toNat) = nI 0 by decide), e_111_46, nI_add, key]
          exact ⟨_, ⟨_, _, _, _, _, _, rfl⟩, rfl⟩
        | false =>
          rw [hh] at key
          rw [if_neg (fun q => absurd q.2 (by decide))] at key
          rw [if_pos (show nI (false.toNat) = nI 0 from rfl), e_111_46, nI_add, key]
          exact ⟨_, ⟨_, _, _, _, _, _, rfl⟩, rfl⟩
      · rw [if_neg (fun q => hlt q.1)] at key
        rw [if_pos (nI_le (by omega) (by omega)), e_111_46, nI_add, key]
        exact ⟨e, hee, rfl⟩
  obtain ⟨e, hee, hl⟩ := hl _ (Nat.le_refl _)
  have q0 : (q_upd σ (x + 4) e).1 x = some (xC x p n kp tr) := (u_n _ _ (by omega)).trans h0
  have qp : (q_upd σ (x + 4) e).1 p = some (planC T zz) := (u_n _ _ (by omega)).trans hp
  exact ⟨e, hee, by rw [k_111 h0, e_111_0, hl, e_111_8, x_plan q0, q_obS, pl_rooms qp, q_obS, n_shl1 t0, if_pos (nI_le (Nat.le_refl _) (by omega))]⟩
theorem m_homing {σ : qH} {m : Nat} {tr : Int64} {z : Nat → Int32} {T P : Nat → Nat} {f : Nat → Int32} (h0 : σ.1 m = some (mC m tr z)) (h2 : σ.1 (m + 2) = some (iA 35 T)) (h4 : σ.1 (m + 4) = some (iA 22 P)) (h9 : σ.1 (m + 9) = some (iF 22 f)) (hT : WT T) (hP : WP T P) :
    q_call 112 [.ref m] σ = some (some (.int (optI (homB T P (2 ^ T 0)))), q_upd σ (m + 9) (iF 22 (lay f 0 22 (fun k => nI (P k))))) := by
  have t0 := hT.1
  have hw := pow_le5 t0
  rw [k_112 h0, e_112_0, m_holds h0 h4 h9, q_cVS, q_obS]
  have n0 : (q_upd σ (m + 9) (iF 22 (lay f 0 22 (fun k => nI (P k))))).1 m = some (mC m tr z) := (u_n _ _ (by omega)).trans h0
  have n2 : (q_upd σ (m + 9) (iF 22 (lay f 0 22 (fun k => nI (P k))))).1 (m + 2) = some (iA 35 T) := (u_n _ _ (by omega)).trans h2
  have n4 : (q_upd σ (m + 9) (iF 22 (lay f 0 22 (fun k => nI (P k))))).1 (m + 4) = some (iA 22 P) := (u_n _ _ (by omega)).trans h4
  have n9 : (q_upd σ (m + 9) (iF 22 (lay f 0 22 (fun k => nI (P k))))).1 (m + 9) = some (iF 22 (lay f 0 22 (fun k => nI (P k)))) := u_s ..
  generalize q_upd σ (m + 9) (iF 22 (lay f 0 22 (fun k => nI (P k)))) = σ1 at n0 n2 n4 n9
  have q0 : ∀ {e}, (q_upd σ1 (m + 4) e).1 m = some (mC m tr z) := fun {e} => (u_n _ _ (by omega)).trans n0
  have q2 : ∀ {e}, (q_upd σ1 (m + 4) e).1 (m + 2) = some (iA 35 T) := fun {e} => (u_n _ _ (by omega)).trans n2
  have q9 : ∀ {e}, (q_upd σ1 (m + 4) e).1 (m + 9) = some (iF 22 (lay f 0 22 (fun k => nI (P k)))) := fun {e} => (u_n _ _ (by omega)).trans n9
  have q4 : ∀ {e}, (q_upd σ1 (m + 4) e).1 (m + 4) = some e := fun {e} => u_s ..
  have hf : ∀ j, j < 22 → lay f 0 22 (fun k => nI (P k)) j = nI (P j) := fun j hj => by have := lay_in f (b := 0) (fun k => nI (P k)) hj; rw [Nat.zero_add] at this; exact this
  have hl := q_for (fun d => q_run 112 9 [(0, .ref m), (1, .int (optI (homB T P d))), (2, .int (nI d))] [] σ1) (2 ^ T 0) (fun d hd => by
    try dsimp only
    have hW := hP.dogs hT.2.1 hd
    have hH : WP T (homQ T P d) := hP.homQ hT hd
    rw [e_112_9, m_told n0, q_obS, a_rd n2 (by decide) (by decide), q_obS, n_shl1 t0, if_neg (nI_ge hd (by omega)), m_s n0, q_obS, a_wr n4 (by decide) (by decide), q_obS, m_steps q0 q2 q4 hT hW, q_cIS, q_obS, u_u]
    dsimp only
    rw [show stepP T (up P 20 d) (T 1) = homQ T P d from rfl, m_strays q0 q2 q4 hT hH, q_cIS, q_obS]
    dsimp only
    have hst : strF T (homQ T P d) < 32 := Nat.lt_of_lt_of_le (bits_lt _ _) (pow_le5 hT.2.1)
    have back : q_call 68 [.ref m] (q_upd σ1 (m + 4) (iA 22 (homQ T P d))) = some (none, σ1) := by rw [m_lets q0 q4 q9 hf hP hH, u_u, u_self n4]
    have l1 := ones_le d
    by_cases e : strF T (homQ T P d) = 0
    · rw [if_pos (by rw [e]), e_112_46, back, q_cVS, q_obS, if_neg (show ¬ nI 1 = nI 0 by decide)]
      have hh : homD T P d = true := decide_eq_true e
      cases hb : homB T P d with
      | none =>
        rw [if_pos (show optI none = (-9 : Int32) from rfl), e_112_72, e_112_77, nI_add]
        have : homB T P (d + 1) = some d := by unfold homB; rw [hb]; dsimp only; rw [if_pos hh]
        rw [this]; rfl
      | some b =>
        have hbl := homB_lt hb
        have l3 := ones_le b
        show (if nI b = -9 then _ else _) = _
        rw [if_neg (n_m9 (show b < 2 ^ 31 by omega)), show optI (some b) = nI b from rfl, m_ones (by omega), q_cIS, q_obS, m_ones (by omega), q_cIS, q_obS]
        dsimp only
        by_cases hlt : ones d < ones b
        · have : homB T P (d + 1) = some d := by unfold homB; rw [hb]; dsimp only; rw [if_pos ⟨hlt, hh⟩]
          rw [if_neg (nI_ge hlt (by omega)), e_112_72, e_112_77, nI_add, this]; rfl
        · have : homB T P (d + 1) = some b := by unfold homB; rw [hb]; dsimp only; rw [if_neg (fun q => hlt q.1)]
          rw [if_pos (nI_le (by omega) (by omega)), e_112_76, e_112_77, nI_add, this]; rfl
    · rw [if_neg (fun q => e ((nI_eq (by omega) (by decide)).mp q)), e_112_46, back, q_cVS, q_obS, if_pos rfl, e_112_76, e_112_77, nI_add]
      have hh : homD T P d = false := decide_eq_false e
      have : homB T P (d + 1) = homB T P d := by
        conv => lhs; unfold homB
        cases homB T P d with
        | none => dsimp only; rw [hh]; rfl
        | some b => dsimp only; rw [if_neg (fun q => by rw [hh] at q; exact absurd q.2 (by decide))]
      rw [this])
  try dsimp only at hl
  rw [show optI (homB T P 0) = -9 from rfl] at hl
  rw [hl, e_112_9, m_told n0, q_obS, a_rd n2 (by decide) (by decide), q_obS, n_shl1 t0, if_pos (nI_le (Nat.le_refl _) (by omega))]
theorem o_homing {σ : qH} {x : Nat} (h : QV σ x) : QO σ x 111 112 [] := by
  obtain ⟨p, tx, n, T, P, Hs, kn, I, kp, W, no, tr, C, D, hC, hD, hX, hM, hQ⟩ := id h
  obtain ⟨h0, ⟨zz, hp⟩, hpo, he, -⟩ := hX.f hC
  obtain ⟨z, m0, ⟨z0, z1, z2⟩, m2, m4⟩ := hM.f hD
  have hT : WT T := hQ.2.2.1
  have hP : WP T P := hQ.2.2.2.1
  have h4 : σ.1 (x + 4) = some (C 4) := hC.at 4 (by decide) (by decide)
  obtain ⟨f9, hf9⟩ := hM.2.2.2.2.2.2.2.2.2.1
  have m9 : σ.1 (x + 24 + 9) = some (iF 22 f9) := by rw [← hf9]; exact hD 9 (by decide)
  obtain ⟨e, hee, cx⟩ := c_homing h0 hp hpo he h4 hX.2.2.2.2.1 hT hP
  have f1 : ∀ a, a ≠ x + 4 → (q_upd σ (x + 4) e).1 a = σ.1 a := fun a ha => u_n _ _ ha
  have s1 : (q_upd σ (x + 4) e).2 = σ.2 := rfl
  have hC1 := hC.upd (k := 4) (by decide) (by decide) e
  have hD1 := hD.x (k := 4) (by decide) e
  have hX1 := hX.up4 hee
  generalize q_upd σ (x + 4) e = σ1 at cx hC1 hD1 f1 s1
  have n0 := (f1 (x + 24) (by omega)).trans m0
  have n2 := (f1 (x + 24 + 2) (by omega)).trans m2
  have n4 := (f1 (x + 24 + 4) (by omega)).trans m4
  have n9 := (f1 (x + 24 + 9) (by omega)).trans m9
  have cm := m_homing n0 n2 n4 n9 hT hP
  obtain ⟨q0, q1, q2, q3, q4, q5, q6, q7, q8, q9, qa, qb⟩ := hM
  exact QO.mk cx cm ⟨p, tx, n, T, P, Hs, kn, I, kp, W, no, tr, upC C 4 e, upC D 9 (iF 22 (lay f9 0 22 (fun k => nI (P k)))), hC1.m (k := 9) (by decide) _, hD1.upd (k := 9) _, hX1, ⟨q0, q1, q2, q3, q4, q5, q6, q7, q8, ⟨_, rfl⟩, qa, qb⟩, hQ⟩ s1 (fun a ha => by rw [u_n _ _ (by omega), f1 a (by omega)])
