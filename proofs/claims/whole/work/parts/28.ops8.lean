/-! ===== undo, keep, again ===== -/
theorem lay_P {T P Q : Nat → Nat} (hP : WP T P) (hQ : WP T Q) : lay (fun j => nI (P j)) 0 22 (fun k => nI (Q k)) = fun j => nI (Q j) := by
  funext j
  unfold lay
  by_cases h : j < 22
  · rw [if_pos (by omega)]; rfl
  · rw [if_neg (by omega)]
    show nI (P j) = nI (Q j)
    rw [hP.2.2.2.2.2.2 j (by omega), hQ.2.2.2.2.2.2 j (by omega)]
theorem iA_F (n : Nat) (P : Nat → Nat) : iA n P = iF n (fun j => nI (P j)) := rfl
theorem o_undo {σ : qH} {x : Nat} (h : QV σ x) : QO σ x 97 98 [] := by
  obtain ⟨p, tx, n, T, P, Hs, kn, I, kp, W, no, tr, C, D, hC, hD, hX, hM, hQ⟩ := id h
  obtain ⟨h0, ⟨zz, hp⟩, hpo, he, -⟩ := hX.f hC
  obtain ⟨b1, b2, hT, hP, hk, hH, b7, b8⟩ := hQ
  obtain ⟨x0, x1, x2, x3, x4, ⟨nx, hnx, x5, x5b⟩, x6, x7, x8, x9, xa, xb, xc, xd, xe⟩ := hX
  obtain ⟨⟨z, a0, z0, z1, z2⟩, a1, a2, a3, a4, ⟨f, a5, a5b⟩, a6, a7, a8, a9, aa, ab⟩ := hM
  have h5 : σ.1 (x + 5) = some (paC x nx kn) := by rw [← x5]; exact hC.at 5 (by decide) (by decide)
  have h6 : σ.1 (x + 6) = some (refs 10 (x + 7)) := by rw [← x6]; exact hC.at 6 (by decide) (by decide)
  have m0 : σ.1 (x + 24) = some (mC (x + 24) tr z) := by rw [← a0]; exact hD 0 (by decide)
  have m4 : σ.1 (x + 24 + 4) = some (iA 22 P) := by rw [← a4]; exact hD 4 (by decide)
  have m5 : σ.1 (x + 24 + 5) = some (iF 220 f) := by rw [← a5]; exact hD 5 (by decide)
  have g0 : q_getR σ (.ref (x + 5)) 2 0 = some (x + 6) := g_R h5 rfl
  have g1 : q_getI σ (.ref (x + 5)) 2 1 = some (nI nx) := g_I h5 rfl
  have g2 : q_getI σ (.ref (x + 5)) 2 2 = some (nI kn) := g_I h5 rfl
  have em : nI nx + nI 10 - nI 1 - (nI nx + nI 10 - nI 1) / nI 10 * nI 10 = nI ((nx + 9) % 10) := by
    rw [nI_add, pk_sub (by omega), pk_rem (by omega) (by decide) (by decide), show nx + 10 - 1 = nx + 9 by omega]
  have hlt : (nx + 9) % 10 < 10 := Nat.mod_lt _ (by decide)
  by_cases hk0 : kn = 0
  · subst hk0
    refine QO.ro (v := .int (-2)) h ?_ ?_
    · rw [k_97 h0, e_97_0, x_past h0, q_obS, x_evening h0, q_obS, k_96 h5, e_96_0, g1, q_obS, if_neg (show ¬ nI 10 = nI 0 by decide), g0, q_obS, em, c_slot h6 (by decide) hlt, q_cRS, q_obS]
      dsimp only
      rw [g2, q_obS, if_pos (show nI 0 < nI 1 by decide), e_96_34, q_cIS, q_obS]
      rfl
    · rw [k_98 m0, e_98_0, m_known m0, q_obS, z1, if_pos rfl]
  · have hlast : C (7 + (nx + 9) % 10) = evC (Hs (kn - 1)) := by
      have := x5b (kn - 1) (by omega)
      rw [show (nx + 10 - kn + (kn - 1)) % 10 = (nx + 9) % 10 by omega] at this
      exact this
    have hl7 : σ.1 (x + 7 + (nx + 9) % 10) = some (evC (Hs (kn - 1))) := by rw [Nat.add_assoc, ← hlast]; exact hC.at _ (by omega) (by omega)
    have hPl : WP T (Hs (kn - 1)) := hH _ (by omega)
    have ek : nI kn - nI 1 = nI (kn - 1) := pk_sub (by omega)
    have cx : q_call 97 [.ref x] σ = some (some (.int (nI (kn - 1))), q_upd (q_upd σ (x + 3) (evC (Hs (kn - 1)))) (x + 5) (paC x ((nx + 9) % 10) (kn - 1))) := by
      have h5a : (q_upd σ (x + 3) (evC (Hs (kn - 1)))).1 (x + 5) = some (paC x nx kn) := (u_n _ _ (by omega)).trans h5
      have p1 : ∀ y, q_put (q_upd σ (x + 3) (evC (Hs (kn - 1)))) (.ref (x + 5)) 2 1 0 (.int (nI y)) = some (q_upd (q_upd σ (x + 3) (evC (Hs (kn - 1)))) (x + 5) (paC x y kn)) := fun y => p_F h5a (show 1 < 3 by decide) rfl
      have h5b : ∀ {y w}, (q_upd (q_upd σ (x + 3) (evC (Hs (kn - 1)))) (x + 5) (paC x y w)).1 (x + 5) = some (paC x y w) := fun {y w} => u_s ..
      have g3 : ∀ {y w}, q_getI (q_upd (q_upd σ (x + 3) (evC (Hs (kn - 1)))) (x + 5) (paC x y w)) (.ref (x + 5)) 2 2 = some (nI w) := fun {y w} => g_I h5b rfl
      have p2 : ∀ {y w} v, q_put (q_upd (q_upd σ (x + 3) (evC (Hs (kn - 1)))) (x + 5) (paC x y w)) (.ref (x + 5)) 2 2 0 (.int (nI v)) = some (q_upd (q_upd (q_upd σ (x + 3) (evC (Hs (kn - 1)))) (x + 5) (paC x y w)) (x + 5) (paC x y v)) := fun {y w} v => p_F h5b (show 2 < 3 by decide) rfl
      have h0b : (q_upd (q_upd σ (x + 3) (evC (Hs (kn - 1)))) (x + 5) (paC x ((nx + 9) % 10) (kn - 1))).1 x = some (xC x p n (bits kp 2) tr) := (u_n _ _ (by omega)).trans ((u_n _ _ (by omega)).trans h0)
      rw [k_97 h0, e_97_0, x_past h0, q_obS, x_evening h0, q_obS, k_96 h5, e_96_0, g1, q_obS, if_neg (show ¬ nI 10 = nI 0 by decide), g0, q_obS, em, c_slot h6 (by decide) hlt, q_cRS, q_obS]
      dsimp only
      rw [g2, q_obS, if_neg (show ¬ nI kn < nI 1 from fun q => absurd ((nI_ltI (by omega) (by decide)).mp q) (by omega)), c_becomeE he ⟨_, _, _, _, _, _, rfl⟩ hl7 (by omega), q_cVS, q_obS, p1, q_obS, g3, q_obS, ek, p2, q_obS, u_u, q_cIS, q_obS]
      dsimp only
      rw [if_neg (show ¬ nI 1 = nI 0 by decide), x_past h0b, q_obS, g3, q_obS]
    have hC2 := (hC.upd (k := 3) (by decide) (by decide) (evC (Hs (kn - 1)))).upd (k := 5) (by decide) (by decide) (paC x ((nx + 9) % 10) (kn - 1))
    have hD2 := (hD.x (k := 3) (by decide) (evC (Hs (kn - 1)))).x (k := 5) (by decide) (paC x ((nx + 9) % 10) (kn - 1))
    have f2 : ∀ a, a < x → (q_upd (q_upd σ (x + 3) (evC (Hs (kn - 1)))) (x + 5) (paC x ((nx + 9) % 10) (kn - 1))).1 a = σ.1 a := fun a ha => by rw [u_n _ _ (by omega), u_n _ _ (by omega)]
    have s2 : (q_upd (q_upd σ (x + 3) (evC (Hs (kn - 1)))) (x + 5) (paC x ((nx + 9) % 10) (kn - 1))).2 = σ.2 := rfl
    have n0 : (q_upd (q_upd σ (x + 3) (evC (Hs (kn - 1)))) (x + 5) (paC x ((nx + 9) % 10) (kn - 1))).1 (x + 24) = some (mC (x + 24) tr z) := (u_n _ _ (by omega)).trans ((u_n _ _ (by omega)).trans m0)
    have n4 : (q_upd (q_upd σ (x + 3) (evC (Hs (kn - 1)))) (x + 5) (paC x ((nx + 9) % 10) (kn - 1))).1 (x + 24 + 4) = some (iA 22 P) := (u_n _ _ (by omega)).trans ((u_n _ _ (by omega)).trans m4)
    have n5 : (q_upd (q_upd σ (x + 3) (evC (Hs (kn - 1)))) (x + 5) (paC x ((nx + 9) % 10) (kn - 1))).1 (x + 24 + 5) = some (iF 220 f) := (u_n _ _ (by omega)).trans ((u_n _ _ (by omega)).trans m5)
    generalize q_upd (q_upd σ (x + 3) (evC (Hs (kn - 1)))) (x + 5) (paC x ((nx + 9) % 10) (kn - 1)) = σ2 at cx hC2 hD2 f2 s2 n0 n4 n5
    have n0b : (q_upd σ2 (x + 24) (mC (x + 24) tr (upI z 1 (nI (kn - 1))))).1 (x + 24) = some (mC (x + 24) tr (upI z 1 (nI (kn - 1)))) := u_s ..
    have n4b : (q_upd σ2 (x + 24) (mC (x + 24) tr (upI z 1 (nI (kn - 1))))).1 (x + 24 + 4) = some (iA 22 P) := (u_n _ _ (by omega)).trans n4
    have n5b : (q_upd σ2 (x + 24) (mC (x + 24) tr (upI z 1 (nI (kn - 1))))).1 (x + 24 + 5) = some (iF 220 f) := (u_n _ _ (by omega)).trans n5
    have hl := q_for (fun j => q_run 98 22 [(0, .ref (x + 24)), (1, .int (nI j))] [] (q_upd (q_upd σ2 (x + 24) (mC (x + 24) tr (upI z 1 (nI (kn - 1))))) (x + 24 + 4) (iF 22 (lay (fun t => nI (P t)) 0 j (fun k => nI (Hs (kn - 1) k)))))) 22 (fun j hj => by
      try dsimp only
      have q0 : ∀ {e}, (q_upd (q_upd σ2 (x + 24) (mC (x + 24) tr (upI z 1 (nI (kn - 1))))) (x + 24 + 4) e).1 (x + 24) = some (mC (x + 24) tr (upI z 1 (nI (kn - 1)))) := fun {e} => (u_n _ _ (by omega)).trans n0b
      have q5 : ∀ {e}, (q_upd (q_upd σ2 (x + 24) (mC (x + 24) tr (upI z 1 (nI (kn - 1))))) (x + 24 + 4) e).1 (x + 24 + 5) = some (iF 220 f) := fun {e} => (u_n _ _ (by omega)).trans n5b
      have q4 : ∀ {e}, (q_upd (q_upd σ2 (x + 24) (mC (x + 24) tr (upI z 1 (nI (kn - 1))))) (x + 24 + 4) e).1 (x + 24 + 4) = some e := fun {e} => u_s ..
      have e := lay_s (fun t => nI (P t)) 0 j (fun k => nI (Hs (kn - 1) k))
      rw [Nat.zero_add] at e
      rw [e_98_22, if_neg (nI_ge hj (by omega)), m_s q0, q_obS, m_past q0, q_obS, m_known q0, q_obS, show upI z 1 (nI (kn - 1)) 1 = nI (kn - 1) from rfl, pk_mul, nI_add, f_rd q5 (by omega) (by decide), q_obS, a5b (kn - 1) (by omega) j hj, f_wr q4 hj (by decide), q_obS, u_u, e, nI_add])
    try dsimp only at hl
    rw [lay_0, ← iA_F, u_self n4b, lay_P hP hPl, ← iA_F] at hl
    have q0 : ∀ {e}, (q_upd (q_upd σ2 (x + 24) (mC (x + 24) tr (upI z 1 (nI (kn - 1))))) (x + 24 + 4) e).1 (x + 24) = some (mC (x + 24) tr (upI z 1 (nI (kn - 1)))) := fun {e} => (u_n _ _ (by omega)).trans n0b
    have cm : q_call 98 [.ref (x + 24)] σ2 = some (some (.int (nI (kn - 1))), q_upd (q_upd σ2 (x + 24) (mC (x + 24) tr (upI z 1 (nI (kn - 1))))) (x + 24 + 4) (iA 22 (Hs (kn - 1)))) := by
      rw [k_98 n0, e_98_0, m_known n0, q_obS, z1, if_neg (fun q => hk0 ((nI_eq (by omega) (by decide)).mp q)), q_obS, ek, mp_known n0, q_obS, hl, e_98_22, if_pos (nI_le (Nat.le_refl _) (by decide)), m_known q0, q_obS]
      rfl
    refine QO.mk cx cm ⟨p, tx, n, T, Hs (kn - 1), Hs, kn - 1, I, kp, W, no, tr, upC (upC C 3 (evC (Hs (kn - 1)))) 5 (paC x ((nx + 9) % 10) (kn - 1)), upC (upC D 0 (mC (x + 24) tr (upI z 1 (nI (kn - 1))))) 4 (iA 22 (Hs (kn - 1))), (hC2.m (k := 0) (by decide) _).m (k := 4) (by decide) _, (hD2.upd (k := 0) _).upd (k := 4) _, ⟨x0, x1, x2, rfl, x4, ⟨(nx + 9) % 10, hlt, rfl, fun i hi => ?_⟩, x6, fun j hj => ?_, x8, x9, xa, xb, xc, fun i hi => ?_, fun i hi hk => ?_⟩, ⟨⟨upI z 1 (nI (kn - 1)), rfl, z0, rfl, z2⟩, a1, a2, a3, rfl, ⟨f, a5, fun i hi k hk => a5b i (by omega) k hk⟩, a6, a7, a8, a9, aa, ab⟩, b1, b2, hT, hPl, by omega, fun i hi => hH i (by omega), b7, b8⟩ (by show σ2.2 = _; exact s2) (fun a ha => by rw [u_n _ _ (by omega), u_n _ _ (by omega), f2 a ha])
    · rw [show ((nx + 9) % 10 + 10 - (kn - 1) + i) % 10 = (nx + 10 - kn + i) % 10 by omega, upC_n _ _ (by omega), upC_n _ _ (by omega)]
      exact x5b i (by omega)
    · rw [upC_n _ _ (by omega), upC_n _ _ (by omega)]; exact x7 j hj
    · rw [upC_n _ _ (by omega), upC_n _ _ (by omega)]; exact xd i hi
    · rw [upC_n _ _ (by omega), upC_n _ _ (by omega)]; exact xe i hi hk
def setB (kp : Nat → Bool) (i : Nat) : Nat → Bool := fun j => if j = i then true else kp j
def setF (I : Nat → Nat → Nat) (i : Nat) (P : Nat → Nat) : Nat → Nat → Nat := fun j => if j = i then P else I j
theorem i2 {i : Nat} (h : i < 2) : i = 0 ∨ i = 1 := by omega
theorem bits_set (kp : Nat → Bool) {i : Nat} (hi : i < 2) : bits kp 2 ||| 2 ^ i = bits (setB kp i) 2 := by
  rcases i2 hi with rfl | rfl <;> unfold setB bits bits bits <;> cases kp 0 <;> cases kp 1 <;> rfl
theorem bits2_lt (kp : Nat → Bool) : bits kp 2 < 4 := bits_lt kp 2
theorem r_kind {σ : qH} {a n k : Nat} {f : Nat → Int32} (h : σ.1 a = some (.inr (k, (n, .inl f)))) {j : Nat} (hj : j < n) (hn : n < 2 ^ 31) : q_aldI σ (.ref a) k (nI j) = some (f j) := by
  unfold q_aldI q_arr
  simp only [h, if_true]
  rw [if_neg (nI_in hj hn), nI_clamp (by omega)]
theorem m_image {i : Int32} : (nI 0 ≤ i ∧ i ≤ nI 1) ↔ ∃ j, j < 2 ∧ i = nI j := by
  constructor
  · rintro ⟨h1, h2⟩
    rcases n_in (x := i) (N := 2) (by decide) with g | ⟨g | g, -⟩
    · exact g
    · exact absurd g (Int32.not_lt.mpr h1)
    · exact absurd (Int32.le_trans g h2) (by decide)
  · rintro ⟨j, hj, rfl⟩
    exact ⟨nI_le (Nat.zero_le _) (by omega), nI_le (by omega) (by decide)⟩
theorem o_keep {σ : qH} {x : Nat} (h : QV σ x) (i : Int32) : QO σ x 151 152 [.int i] := by
  obtain ⟨p, tx, n, T, P, Hs, kn, I, kp, W, no, tr, C, D, hC, hD, hX, hM, hQ⟩ := id h
  obtain ⟨h0, ⟨zz, hp⟩, hpo, he, -⟩ := hX.f hC
  obtain ⟨b1, b2, hT, hP, hk, hH, hI, b8⟩ := hQ
  obtain ⟨x0, x1, x2, x3, x4, x5, x6, x7, x8, x9, xa, xb, xc, xd, xe⟩ := hX
  obtain ⟨⟨z, a0, z0, z1, z2⟩, a1, a2, a3, a4, a5, ⟨f, a6, a6b⟩, a7, a8, a9, aa, ab⟩ := hM
  have h8 : σ.1 (x + 17) = some (refs 2 (x + 22)) := by rw [← x8]; exact hC.at 17 (by decide) (by decide)
  have m0 : σ.1 (x + 24) = some (mC (x + 24) tr z) := by rw [← a0]; exact hD 0 (by decide)
  have m4 : σ.1 (x + 24 + 4) = some (iA 22 P) := by rw [← a4]; exact hD 4 (by decide)
  have m6 : σ.1 (x + 24 + 6) = some (iF 44 f) := by rw [← a6]; exact hD 6 (by decide)
  have m7 : σ.1 (x + 24 + 7) = some (.inr (3, (2, .inl (fun j => nI (kp j).toNat)))) := by rw [← a7]; exact hD 7 (by decide)
  rcases n_in (x := i) (N := 2) (by decide) with ⟨i, hi, rfl⟩ | ⟨hb, hne⟩
  · have hb4 := bits2_lt kp
    have hl : σ.1 (x + 22 + i) = some (C (22 + i)) := by rw [Nat.add_assoc]; exact hC.at _ (by omega) (by omega)
    have cx : q_call 151 [.ref x, .int (nI i)] σ = some (some (.int (nI (P 21))), q_upd (q_upd σ (x + (22 + i)) (evC P)) x (xC x p n (bits (setB kp i) 2) tr)) := by
      have h0a : (q_upd σ (x + 22 + i) (evC P)).1 x = some (xC x p n (bits kp 2) tr) := (u_n _ _ (by omega)).trans h0
      have h0b : (q_upd (q_upd σ (x + 22 + i) (evC P)) x (xC x p n (bits (setB kp i) 2) tr)).1 x = some (xC x p n (bits (setB kp i) 2) tr) := u_s ..
      have heb : (q_upd (q_upd σ (x + 22 + i) (evC P)) x (xC x p n (bits (setB kp i) 2) tr)).1 (x + 3) = some (evR (nI (pkS P)) (lN (pkL (fun i => P (15 + i)))) (lN (pkL (fun i => P (5 + i)))) (lN (pkL (fun i => P (10 + i)))) (nI (P 20)) (nI (P 21))) := (u_n _ _ (by omega)).trans ((u_n _ _ (by omega)).trans he)
      rw [k_151 h0, e_151_0, x_images h0, q_obS, c_slot h8 (by decide) hi, q_cRS, q_obS]
      dsimp only
      rw [x_evening h0, q_obS, c_becomeE hl (xd i hi) he (by omega), q_cVS, q_obS, x_kept h0a, q_obS, n_shl1 (by omega), n_or, bits_set kp hi, xp_kept h0a, q_obS, x_evening h0b, q_obS, ev_night heb, q_obS, Nat.add_assoc]
    have hC2 := (hC.upd (k := 22 + i) (by omega) (by omega) (evC P)).upd (k := 0) (by decide) (by decide) (xC x p n (bits (setB kp i) 2) tr)
    have hD2 := (hD.x (k := 22 + i) (by omega) (evC P)).x (k := 0) (by decide) (xC x p n (bits (setB kp i) 2) tr)
    have f2 : ∀ a, a < x → (q_upd (q_upd σ (x + (22 + i)) (evC P)) x (xC x p n (bits (setB kp i) 2) tr)).1 a = σ.1 a := fun a ha => by rw [u_n _ _ (by omega), u_n _ _ (by omega)]
    have s2 : (q_upd (q_upd σ (x + (22 + i)) (evC P)) x (xC x p n (bits (setB kp i) 2) tr)).2 = σ.2 := rfl
    have f3 : ∀ a, x + 24 ≤ a → (q_upd (q_upd σ (x + (22 + i)) (evC P)) x (xC x p n (bits (setB kp i) 2) tr)).1 a = σ.1 a := fun a ha => by rw [u_n _ _ (by omega), u_n _ _ (by omega)]
    rw [Nat.add_zero] at hC2 hD2
    generalize q_upd (q_upd σ (x + (22 + i)) (evC P)) x (xC x p n (bits (setB kp i) 2) tr) = σ2 at cx hC2 hD2 f2 s2 f3
    have n0 := (f3 (x + 24) (by omega)).trans m0
    have n4 := (f3 (x + 24 + 4) (by omega)).trans m4
    have n6 := (f3 (x + 24 + 6) (by omega)).trans m6
    have n7 := (f3 (x + 24 + 7) (by omega)).trans m7
    have hl := q_for (fun j => q_run 152 13 [(0, .ref (x + 24)), (1, .int (nI i)), (2, .int (nI j))] [] (q_upd σ2 (x + 24 + 6) (iF 44 (lay f (22 * i) j (fun k => nI (P k)))))) 22 (fun j hj => by
      try dsimp only
      have q0 : ∀ {e}, (q_upd σ2 (x + 24 + 6) e).1 (x + 24) = some (mC (x + 24) tr z) := fun {e} => (u_n _ _ (by omega)).trans n0
      have q4 : ∀ {e}, (q_upd σ2 (x + 24 + 6) e).1 (x + 24 + 4) = some (iA 22 P) := fun {e} => (u_n _ _ (by omega)).trans n4
      have q6 : ∀ {e}, (q_upd σ2 (x + 24 + 6) e).1 (x + 24 + 6) = some e := fun {e} => u_s ..
      rw [e_152_13, if_neg (nI_ge hj (by omega)), m_images q0, q_obS, m_s q0, q_obS, a_rd q4 hj (by decide), q_obS, pk_mul, nI_add, f_wr q6 (by omega) (by decide), q_obS, u_u, lay_s f (22 * i) j (fun k => nI (P k)), nI_add])
    try dsimp only at hl
    rw [lay_0, u_self n6] at hl
    have q0 : ∀ {e}, (q_upd σ2 (x + 24 + 6) e).1 (x + 24) = some (mC (x + 24) tr z) := fun {e} => (u_n _ _ (by omega)).trans n0
    have q7 : ∀ {e}, (q_upd σ2 (x + 24 + 6) e).1 (x + 24 + 7) = some (.inr (3, (2, .inl (fun j => nI (kp j).toNat)))) := fun {e} => (u_n _ _ (by omega)).trans n7
    have r0 : ∀ {e e'}, (q_upd (q_upd σ2 (x + 24 + 6) e) (x + 24 + 7) e').1 (x + 24) = some (mC (x + 24) tr z) := fun {e e'} => (u_n _ _ (by omega)).trans q0
    have r4 : ∀ {e e'}, (q_upd (q_upd σ2 (x + 24 + 6) e) (x + 24 + 7) e').1 (x + 24 + 4) = some (iA 22 P) := fun {e e'} => (u_n _ _ (by omega)).trans ((u_n _ _ (by omega)).trans n4)
    have eup : (fun t => nI (up (fun j => (kp j).toNat) i 1 t)) = fun j => nI (setB kp i j).toNat := by
      funext t; unfold up setB; by_cases e : t = i
      · rw [if_pos e, if_pos e]; rfl
      · rw [if_neg e, if_neg e]
    have cm : q_call 152 [.ref (x + 24), .int (nI i)] σ2 = some (some (.int (nI (P 21))), q_upd (q_upd σ2 (x + 24 + 6) (iF 44 (lay f (22 * i) 22 (fun k => nI (P k))))) (x + 24 + 7) (.inr (3, (2, .inl (fun j => nI (setB kp i j).toNat))))) := by
      rw [k_152 n0, e_152_0, m_in, q_cIS, q_obS]
      dsimp only
      rw [decide_eq_true (m_image.mpr ⟨i, hi, rfl⟩), if_neg (show ¬ nI (true.toNat) = nI 0 by decide), hl, e_152_13, if_pos (nI_le (Nat.le_refl _) (by decide)), m_kept q0, q_obS, show vp_nar .boolean (nI 1) = nI 1 by decide, w_kind (P := fun j => (kp j).toNat) q7 hi (by decide) 1, q_obS, m_s r0, q_obS, a_rd r4 (by decide) (by decide), q_obS, eup]
    refine QO.mk cx cm ⟨p, tx, n, T, P, Hs, kn, setF I i P, setB kp i, W, no, tr, upC (upC C (22 + i) (evC P)) 0 (xC x p n (bits (setB kp i) 2) tr), upC (upC D 6 (iF 44 (lay f (22 * i) 22 (fun k => nI (P k))))) 7 (.inr (3, (2, .inl (fun j => nI (setB kp i j).toNat)))), (hC2.m (k := 6) (by decide) _).m (k := 7) (by decide) _, (hD2.upd (k := 6) _).upd (k := 7) _, ⟨rfl, ?_, ?_, ?_, ?_, ?_, ?_, fun j hj => ?_, ?_, ?_, ?_, ?_, ?_, fun j hj => ?_, fun j hj hk => ?_⟩, ⟨⟨z, a0, z0, z1, z2⟩, a1, a2, a3, a4, a5, ⟨_, rfl, fun j hj hk k hk2 => ?_⟩, rfl, a8, a9, aa, ab⟩, b1, b2, hT, hP, hk, hH, fun j hj hk => ?_, b8⟩ (by show σ2.2 = _; exact s2) (fun a ha => by rw [u_n _ _ (by omega), u_n _ _ (by omega), f2 a ha])
    · rw [upC_n _ _ (by omega), upC_n _ _ (by omega)]; exact x1
    · obtain ⟨zz, x2⟩ := x2; exact ⟨zz, by rw [upC_n _ _ (by omega), upC_n _ _ (by omega)]; exact x2⟩
    · rw [upC_n _ _ (by omega), upC_n _ _ (by omega)]; exact x3
    · rw [upC_n _ _ (by omega), upC_n _ _ (by omega)]; exact x4
    · obtain ⟨nx, hnx, x5, x5b⟩ := x5
      exact ⟨nx, hnx, by rw [upC_n _ _ (by omega), upC_n _ _ (by omega)]; exact x5, fun j hj => by rw [upC_n _ _ (by omega), upC_n _ _ (by omega)]; exact x5b j hj⟩
    · rw [upC_n _ _ (by omega), upC_n _ _ (by omega)]; exact x6
    · rw [upC_n _ _ (by omega), upC_n _ _ (by omega)]; exact x7 j hj
    · rw [upC_n _ _ (by omega), upC_n _ _ (by omega)]; exact x8
    · rw [upC_n _ _ (by omega), upC_n _ _ (by omega)]; exact x9
    · rw [upC_n _ _ (by omega), upC_n _ _ (by omega)]; exact xa
    · rw [upC_n _ _ (by omega), upC_n _ _ (by omega)]; exact xb
    · rw [upC_n _ _ (by omega), upC_n _ _ (by omega)]; exact xc
    · rw [upC_n _ _ (by omega)]
      by_cases e : j = i
      · rw [e, upC_s]; exact ⟨_, _, _, _, _, _, rfl⟩
      · rw [upC_n _ _ (by omega)]; exact xd j hj
    · rw [upC_n _ _ (by omega)]
      unfold setF
      by_cases e : j = i
      · rw [e, upC_s, if_pos rfl]
      · rw [upC_n _ _ (by omega), if_neg e]
        unfold setB at hk
        rw [if_neg e] at hk
        exact xe j hj hk
    · unfold setF
      by_cases e : j = i
      · rw [if_pos e, e, lay_in _ _ hk2]
      · unfold setB at hk
        rw [if_neg e] at hk
        rw [if_neg e, lay_out _ _ (by omega)]
        exact a6b j hj hk k hk2
    · unfold setF
      by_cases e : j = i
      · rw [if_pos e]; exact hP
      · unfold setB at hk
        rw [if_neg e] at hk
        rw [if_neg e]
        exact hI j hj hk
  · refine QO.ro (v := .int (-1)) h ?_ ?_
    · rw [k_151 h0, e_151_0, x_images h0, q_obS, c_noSlot h8 hb, q_cRN, q_obS]
    · rw [k_152 m0, e_152_0, m_in, q_cIS, q_obS]
      dsimp only
      rw [decide_eq_false (fun q => ?_), if_pos (show nI (false.toNat) = nI 0 from rfl)]
      obtain ⟨j, hj, e⟩ := m_image.mp q
      exact hne j hj e
theorem o_again {σ : qH} {x : Nat} (h : QV σ x) (i : Int32) : QO σ x 153 154 [.int i] := by
  obtain ⟨p, tx, n, T, P, Hs, kn, I, kp, W, no, tr, C, D, hC, hD, hX, hM, hQ⟩ := id h
  obtain ⟨h0, ⟨zz, hp⟩, hpo, he, -⟩ := hX.f hC
  obtain ⟨b1, b2, hT, hP, hk, hH, hI, b8⟩ := hQ
  obtain ⟨x0, x1, x2, x3, x4, ⟨nx, hnx, x5, x5b⟩, x6, x7, x8, x9, xa, xb, xc, xd, xe⟩ := hX
  obtain ⟨⟨z, a0, z0, z1, z2⟩, a1, a2, a3, a4, ⟨f5, a5, a5b⟩, ⟨f, a6, a6b⟩, a7, a8, a9, aa, ab⟩ := hM
  have h8 : σ.1 (x + 17) = some (refs 2 (x + 22)) := by rw [← x8]; exact hC.at 17 (by decide) (by decide)
  have h5 : σ.1 (x + 5) = some (paC x nx kn) := by rw [← x5]; exact hC.at 5 (by decide) (by decide)
  have m0 : σ.1 (x + 24) = some (mC (x + 24) tr z) := by rw [← a0]; exact hD 0 (by decide)
  have m4 : σ.1 (x + 24 + 4) = some (iA 22 P) := by rw [← a4]; exact hD 4 (by decide)
  have m6 : σ.1 (x + 24 + 6) = some (iF 44 f) := by rw [← a6]; exact hD 6 (by decide)
  have m7 : σ.1 (x + 24 + 7) = some (.inr (3, (2, .inl (fun j => nI (kp j).toNat)))) := by rw [← a7]; exact hD 7 (by decide)
  rcases n_in (x := i) (N := 2) (by decide) with ⟨i, hi, rfl⟩ | ⟨hb, hne⟩
  · have hb4 := bits2_lt kp
    have htb : (bits kp 2).testBit i = kp i := by rw [bits_tb, decide_eq_true hi, Bool.true_and]
    cases hki : kp i with
    | false =>
      refine QO.ro (v := .int (-2)) h ?_ ?_
      · rw [k_153 h0, e_153_0, x_images h0, q_obS, c_slot h8 (by decide) hi, q_cRS, q_obS]
        dsimp only
        rw [x_kept h0, q_obS, c_has (by omega) (by omega), q_cIS, q_obS, htb, hki]
        rfl
      · rw [k_154 m0, e_154_0, m_in, q_cIS, q_obS]
        dsimp only
        rw [decide_eq_true (m_image.mpr ⟨i, hi, rfl⟩), if_neg (show ¬ nI (true.toNat) = nI 0 by decide), m_kept m0, q_obS, r_kind m7 hi (by decide), q_obS, hki]
        rfl
    | true =>
      have hPI := hI i hi hki
      have hl : σ.1 (x + 22 + i) = some (evC (I i)) := by rw [Nat.add_assoc, ← xe i hi hki]; exact hC.at _ (by omega) (by omega)
      have cx : q_call 153 [.ref x, .int (nI i)] σ = some (some (.int (nI (I i 21))), q_upd (q_upd σ (x + 3) (evC (I i))) (x + 5) (paC x nx 0)) := by
        have h0a : (q_upd σ (x + 3) (evC (I i))).1 x = some (xC x p n (bits kp 2) tr) := (u_n _ _ (by omega)).trans h0
        have h5a : (q_upd σ (x + 3) (evC (I i))).1 (x + 5) = some (paC x nx kn) := (u_n _ _ (by omega)).trans h5
        have p2 : q_put (q_upd σ (x + 3) (evC (I i))) (.ref (x + 5)) 2 2 0 (.int (nI 0)) = some (q_upd (q_upd σ (x + 3) (evC (I i))) (x + 5) (paC x nx 0)) := p_F h5a (show 2 < 3 by decide) rfl
        have h0b : (q_upd (q_upd σ (x + 3) (evC (I i))) (x + 5) (paC x nx 0)).1 x = some (xC x p n (bits kp 2) tr) := (u_n _ _ (by omega)).trans h0a
        have heb : (q_upd (q_upd σ (x + 3) (evC (I i))) (x + 5) (paC x nx 0)).1 (x + 3) = some (evR (nI (pkS (I i))) (lN (pkL (fun j => I i (15 + j)))) (lN (pkL (fun j => I i (5 + j)))) (lN (pkL (fun j => I i (10 + j)))) (nI (I i 20)) (nI (I i 21))) := (u_n _ _ (by omega)).trans (u_s ..)
        rw [k_153 h0, e_153_0, x_images h0, q_obS, c_slot h8 (by decide) hi, q_cRS, q_obS]
        dsimp only
        rw [x_kept h0, q_obS, c_has (by omega) (by omega), q_cIS, q_obS, htb, hki]
        dsimp only
        rw [if_neg (show ¬ nI (true.toNat) = nI 0 by decide), x_evening h0, q_obS, c_becomeE he ⟨_, _, _, _, _, _, rfl⟩ hl (by omega), q_cVS, q_obS, x_past h0a, q_obS, k_45 h5a, e_45_0, p2, q_obS, q_cVS, q_obS, x_evening h0b, q_obS, ev_night heb, q_obS]
      have hC2 := (hC.upd (k := 3) (by decide) (by decide) (evC (I i))).upd (k := 5) (by decide) (by decide) (paC x nx 0)
      have hD2 := (hD.x (k := 3) (by decide) (evC (I i))).x (k := 5) (by decide) (paC x nx 0)
      have s2 : (q_upd (q_upd σ (x + 3) (evC (I i))) (x + 5) (paC x nx 0)).2 = σ.2 := rfl
      have f2 : ∀ a, a < x ∨ x + 24 ≤ a → (q_upd (q_upd σ (x + 3) (evC (I i))) (x + 5) (paC x nx 0)).1 a = σ.1 a := fun a ha => by rw [u_n _ _ (by omega), u_n _ _ (by omega)]
      generalize q_upd (q_upd σ (x + 3) (evC (I i))) (x + 5) (paC x nx 0) = σ2 at cx hC2 hD2 s2 f2
      have n0 := (f2 (x + 24) (by omega)).trans m0
      have n4 := (f2 (x + 24 + 4) (by omega)).trans m4
      have n6 := (f2 (x + 24 + 6) (by omega)).trans m6
      have n7 := (f2 (x + 24 + 7) (by omega)).trans m7
      have hl := q_for (fun j => q_run 154 25 [(0, .ref (x + 24)), (1, .int (nI i)), (2, .int (nI j))] [] (q_upd σ2 (x + 24 + 4) (iF 22 (lay (fun t => nI (P t)) 0 j (fun k => nI (I i k)))))) 22 (fun j hj => by
        try dsimp only
        have q0 : ∀ {e}, (q_upd σ2 (x + 24 + 4) e).1 (x + 24) = some (mC (x + 24) tr z) := fun {e} => (u_n _ _ (by omega)).trans n0
        have q6 : ∀ {e}, (q_upd σ2 (x + 24 + 4) e).1 (x + 24 + 6) = some (iF 44 f) := fun {e} => (u_n _ _ (by omega)).trans n6
        have q4 : ∀ {e}, (q_upd σ2 (x + 24 + 4) e).1 (x + 24 + 4) = some e := fun {e} => u_s ..
        have e := lay_s (fun t => nI (P t)) 0 j (fun k => nI (I i k))
        rw [Nat.zero_add] at e
        rw [e_154_25, if_neg (nI_ge hj (by omega)), m_s q0, q_obS, m_images q0, q_obS, pk_mul, nI_add, f_rd q6 (by omega) (by decide), q_obS, a6b i hi hki j hj, f_wr q4 hj (by decide), q_obS, u_u, e, nI_add])
      try dsimp only at hl
      rw [lay_0, ← iA_F, u_self n4, lay_P hP hPI, ← iA_F] at hl
      have q0 : ∀ {e}, (q_upd σ2 (x + 24 + 4) e).1 (x + 24) = some (mC (x + 24) tr z) := fun {e} => (u_n _ _ (by omega)).trans n0
      have r0 : ∀ {e e'}, (q_upd (q_upd σ2 (x + 24 + 4) e) (x + 24) (mC (x + 24) tr e')).1 (x + 24) = some (mC (x + 24) tr e') := fun {e e'} => u_s ..
      have r4 : ∀ {Q e'}, (q_upd (q_upd σ2 (x + 24 + 4) (iA 22 Q)) (x + 24) e').1 (x + 24 + 4) = some (iA 22 Q) := fun {Q e'} => (u_n _ _ (by omega)).trans (u_s ..)
      have cm : q_call 154 [.ref (x + 24), .int (nI i)] σ2 = some (some (.int (nI (I i 21))), q_upd (q_upd σ2 (x + 24 + 4) (iA 22 (I i))) (x + 24) (mC (x + 24) tr (upI z 1 (nI 0)))) := by
        rw [k_154 n0, e_154_0, m_in, q_cIS, q_obS]
        dsimp only
        rw [decide_eq_true (m_image.mpr ⟨i, hi, rfl⟩), if_neg (show ¬ nI (true.toNat) = nI 0 by decide), m_kept n0, q_obS, r_kind n7 hi (by decide), q_obS, hki, if_neg (show ¬ nI (true.toNat) = nI 0 by decide), hl, e_154_25, if_pos (nI_le (Nat.le_refl _) (by decide)), mp_known q0, q_obS, m_s r0, q_obS, a_rd r4 (by decide) (by decide), q_obS]
      refine QO.mk cx cm ⟨p, tx, n, T, I i, Hs, 0, I, kp, W, no, tr, upC (upC C 3 (evC (I i))) 5 (paC x nx 0), upC (upC D 4 (iA 22 (I i))) 0 (mC (x + 24) tr (upI z 1 (nI 0))), (hC2.m (k := 4) (by decide) _).m (k := 0) (by decide) _, (hD2.upd (k := 4) _).upd (k := 0) _, ⟨x0, x1, x2, rfl, x4, ⟨nx, hnx, rfl, fun i hi => absurd hi (Nat.not_lt_zero _)⟩, x6, fun j hj => ?_, x8, x9, xa, xb, xc, fun i hi => ?_, fun i hi hk => ?_⟩, ⟨⟨upI z 1 (nI 0), rfl, z0, rfl, z2⟩, a1, a2, a3, rfl, ⟨f5, a5, fun i hi => absurd hi (Nat.not_lt_zero _)⟩, ⟨f, a6, a6b⟩, a7, a8, a9, aa, ab⟩, b1, b2, hT, hPI, Nat.zero_le _, fun i hi => absurd hi (Nat.not_lt_zero _), hI, b8⟩ (by show σ2.2 = _; exact s2) (fun a ha => by rw [u_n _ _ (by omega), u_n _ _ (by omega), f2 a (by omega)])
      · rw [upC_n _ _ (by omega), upC_n _ _ (by omega)]; exact x7 j hj
      · rw [upC_n _ _ (by omega), upC_n _ _ (by omega)]; exact xd i hi
      · rw [upC_n _ _ (by omega), upC_n _ _ (by omega)]; exact xe i hi hk
  · refine QO.ro (v := .int (-1)) h ?_ ?_
    · rw [k_153 h0, e_153_0, x_images h0, q_obS, c_noSlot h8 hb, q_cRN, q_obS]
    · rw [k_154 m0, e_154_0, m_in, q_cIS, q_obS]
      dsimp only
      rw [decide_eq_false (fun q => ?_), if_pos (show nI (false.toNat) = nI 0 from rfl)]
      obtain ⟨j, hj, e⟩ := m_image.mp q
      exact hne j hj e
