/-! ===== a cell of the class's memory changed; more calls ===== -/
theorem upC_n (C : Nat → qE) {k j : Nat} (e : qE) (h : j ≠ k) : upC C k e j = C j := if_neg h
theorem XS.up0 {C : Nat → qE} {x p : Nat} {tx : Nat → Nat} {n : Nat} {T P : Nat → Nat} {Hs : Nat → Nat → Nat} {kn : Nat} {I : Nat → Nat → Nat} {kp : Nat → Bool} {W : Nat → Nat} {no : Nat} {tr : Int64} (h : XS C x p tx n T P Hs kn I kp W no tr) (n2 : Nat) (tr2 : Int64) : XS (upC C 0 (xC x p n2 (bits kp 2) tr2)) x p tx n2 T P Hs kn I kp W no tr2 := by
  obtain ⟨x0, x1, x2, x3, x4, x5, x6, x7, x8, x9, xa, xb, xc, xd, xe⟩ := h
  refine ⟨rfl, x1, x2, x3, x4, ?_, x6, fun j hj => by rw [upC_n _ _ (by omega)]; exact x7 j hj, x8, x9, xa, xb, xc, fun i hi => by rw [upC_n _ _ (by omega)]; exact xd i hi, fun i hi hk => by rw [upC_n _ _ (by omega)]; exact xe i hi hk⟩
  obtain ⟨nx, g1, g2, g3⟩ := x5
  exact ⟨nx, g1, g2, fun i hi => by rw [upC_n _ _ (by omega)]; exact g3 i hi⟩
theorem XS.up1 {C : Nat → qE} {x p : Nat} {tx : Nat → Nat} {n : Nat} {T P : Nat → Nat} {Hs : Nat → Nat → Nat} {kn : Nat} {I : Nat → Nat → Nat} {kp : Nat → Bool} {W : Nat → Nat} {no : Nat} {tr : Int64} (h : XS C x p tx n T P Hs kn I kp W no tr) (tx2 : Nat → Nat) : XS (upC C 1 (.inr (0, (120, .inl (fun j => nI (tx2 j)))))) x p tx2 n T P Hs kn I kp W no tr := by
  obtain ⟨x0, x1, x2, x3, x4, x5, x6, x7, x8, x9, xa, xb, xc, xd, xe⟩ := h
  refine ⟨x0, rfl, x2, x3, x4, ?_, x6, fun j hj => by rw [upC_n _ _ (by omega)]; exact x7 j hj, x8, x9, xa, xb, xc, fun i hi => by rw [upC_n _ _ (by omega)]; exact xd i hi, fun i hi hk => by rw [upC_n _ _ (by omega)]; exact xe i hi hk⟩
  obtain ⟨nx, g1, g2, g3⟩ := x5
  exact ⟨nx, g1, g2, fun i hi => by rw [upC_n _ _ (by omega)]; exact g3 i hi⟩
theorem XS.up3 {C : Nat → qE} {x p : Nat} {tx : Nat → Nat} {n : Nat} {T P : Nat → Nat} {Hs : Nat → Nat → Nat} {kn : Nat} {I : Nat → Nat → Nat} {kp : Nat → Bool} {W : Nat → Nat} {no : Nat} {tr : Int64} (h : XS C x p tx n T P Hs kn I kp W no tr) (P2 : Nat → Nat) : XS (upC C 3 (evC P2)) x p tx n T P2 Hs kn I kp W no tr := by
  obtain ⟨x0, x1, x2, x3, x4, x5, x6, x7, x8, x9, xa, xb, xc, xd, xe⟩ := h
  refine ⟨x0, x1, x2, rfl, x4, ?_, x6, fun j hj => by rw [upC_n _ _ (by omega)]; exact x7 j hj, x8, x9, xa, xb, xc, fun i hi => by rw [upC_n _ _ (by omega)]; exact xd i hi, fun i hi hk => by rw [upC_n _ _ (by omega)]; exact xe i hi hk⟩
  obtain ⟨nx, g1, g2, g3⟩ := x5
  exact ⟨nx, g1, g2, fun i hi => by rw [upC_n _ _ (by omega)]; exact g3 i hi⟩
theorem XS.up4 {C : Nat → qE} {x p : Nat} {tx : Nat → Nat} {n : Nat} {T P : Nat → Nat} {Hs : Nat → Nat → Nat} {kn : Nat} {I : Nat → Nat → Nat} {kp : Nat → Bool} {W : Nat → Nat} {no : Nat} {tr : Int64} (h : XS C x p tx n T P Hs kn I kp W no tr) {e : qE} (he : evX e) : XS (upC C 4 e) x p tx n T P Hs kn I kp W no tr := by
  obtain ⟨x0, x1, x2, x3, x4, x5, x6, x7, x8, x9, xa, xb, xc, xd, xe⟩ := h
  refine ⟨x0, x1, x2, x3, he, ?_, x6, fun j hj => by rw [upC_n _ _ (by omega)]; exact x7 j hj, x8, x9, xa, xb, xc, fun i hi => by rw [upC_n _ _ (by omega)]; exact xd i hi, fun i hi hk => by rw [upC_n _ _ (by omega)]; exact xe i hi hk⟩
  obtain ⟨nx, g1, g2, g3⟩ := x5
  exact ⟨nx, g1, g2, fun i hi => by rw [upC_n _ _ (by omega)]; exact g3 i hi⟩
theorem XS.up18 {C : Nat → qE} {x p : Nat} {tx : Nat → Nat} {n : Nat} {T P : Nat → Nat} {Hs : Nat → Nat → Nat} {kn : Nat} {I : Nat → Nat → Nat} {kp : Nat → Bool} {W : Nat → Nat} {no : Nat} {tr : Int64} (h : XS C x p tx n T P Hs kn I kp W no tr) {e : qE} {W2 : Nat → Nat} {no2 : Nat} (he : ∃ w a b c, e = grC W2 no2 w a b c) : XS (upC C 18 e) x p tx n T P Hs kn I kp W2 no2 tr := by
  obtain ⟨x0, x1, x2, x3, x4, x5, x6, x7, x8, x9, xa, xb, xc, xd, xe⟩ := h
  refine ⟨x0, x1, x2, x3, x4, ?_, x6, fun j hj => by rw [upC_n _ _ (by omega)]; exact x7 j hj, x8, he, xa, xb, xc, fun i hi => by rw [upC_n _ _ (by omega)]; exact xd i hi, fun i hi hk => by rw [upC_n _ _ (by omega)]; exact xe i hi hk⟩
  obtain ⟨nx, g1, g2, g3⟩ := x5
  exact ⟨nx, g1, g2, fun i hi => by rw [upC_n _ _ (by omega)]; exact g3 i hi⟩
theorem XS.up19 {C : Nat → qE} {x p : Nat} {tx : Nat → Nat} {n : Nat} {T P : Nat → Nat} {Hs : Nat → Nat → Nat} {kn : Nat} {I : Nat → Nat → Nat} {kp : Nat → Bool} {W : Nat → Nat} {no : Nat} {tr : Int64} (h : XS C x p tx n T P Hs kn I kp W no tr) {e : qE} (he : ∃ a f g, e = wbC x a f g) : XS (upC C 19 e) x p tx n T P Hs kn I kp W no tr := by
  obtain ⟨x0, x1, x2, x3, x4, x5, x6, x7, x8, x9, xa, xb, xc, xd, xe⟩ := h
  refine ⟨x0, x1, x2, x3, x4, ?_, x6, fun j hj => by rw [upC_n _ _ (by omega)]; exact x7 j hj, x8, x9, he, xb, xc, fun i hi => by rw [upC_n _ _ (by omega)]; exact xd i hi, fun i hi hk => by rw [upC_n _ _ (by omega)]; exact xe i hi hk⟩
  obtain ⟨nx, g1, g2, g3⟩ := x5
  exact ⟨nx, g1, g2, fun i hi => by rw [upC_n _ _ (by omega)]; exact g3 i hi⟩
theorem XS.up20 {C : Nat → qE} {x p : Nat} {tx : Nat → Nat} {n : Nat} {T P : Nat → Nat} {Hs : Nat → Nat → Nat} {kn : Nat} {I : Nat → Nat → Nat} {kp : Nat → Bool} {W : Nat → Nat} {no : Nat} {tr : Int64} (h : XS C x p tx n T P Hs kn I kp W no tr) {e : qE} (he : ∃ f, e = iF 3125 f) : XS (upC C 20 e) x p tx n T P Hs kn I kp W no tr := by
  obtain ⟨x0, x1, x2, x3, x4, x5, x6, x7, x8, x9, xa, xb, xc, xd, xe⟩ := h
  refine ⟨x0, x1, x2, x3, x4, ?_, x6, fun j hj => by rw [upC_n _ _ (by omega)]; exact x7 j hj, x8, x9, xa, he, xc, fun i hi => by rw [upC_n _ _ (by omega)]; exact xd i hi, fun i hi hk => by rw [upC_n _ _ (by omega)]; exact xe i hi hk⟩
  obtain ⟨nx, g1, g2, g3⟩ := x5
  exact ⟨nx, g1, g2, fun i hi => by rw [upC_n _ _ (by omega)]; exact g3 i hi⟩
theorem XS.up21 {C : Nat → qE} {x p : Nat} {tx : Nat → Nat} {n : Nat} {T P : Nat → Nat} {Hs : Nat → Nat → Nat} {kn : Nat} {I : Nat → Nat → Nat} {kp : Nat → Bool} {W : Nat → Nat} {no : Nat} {tr : Int64} (h : XS C x p tx n T P Hs kn I kp W no tr) {e : qE} (he : ∃ f, e = lF 512 f) : XS (upC C 21 e) x p tx n T P Hs kn I kp W no tr := by
  obtain ⟨x0, x1, x2, x3, x4, x5, x6, x7, x8, x9, xa, xb, xc, xd, xe⟩ := h
  refine ⟨x0, x1, x2, x3, x4, ?_, x6, fun j hj => by rw [upC_n _ _ (by omega)]; exact x7 j hj, x8, x9, xa, xb, he, fun i hi => by rw [upC_n _ _ (by omega)]; exact xd i hi, fun i hi hk => by rw [upC_n _ _ (by omega)]; exact xe i hi hk⟩
  obtain ⟨nx, g1, g2, g3⟩ := x5
  exact ⟨nx, g1, g2, fun i hi => by rw [upC_n _ _ (by omega)]; exact g3 i hi⟩
theorem o_clear {σ : qH} {x : Nat} (h : QV σ x) : QO σ x 20 21 [] := by
  obtain ⟨p, tx, n, T, P, Hs, kn, I, kp, W, no, tr, C, D, hC, hD, hX, hM, hQ⟩ := id h
  have h0 : σ.1 x = some (xC x p n (bits kp 2) tr) := by rw [← hX.1]; exact hC.at 0 (by decide) (by decide)
  obtain ⟨⟨z, hz, z0, z1, z2⟩, hM⟩ := hM
  have m0 : σ.1 (x + 24) = some (mC (x + 24) tr z) := by rw [← hz]; exact hD 0 (by decide)
  have m0' : (q_upd σ x (xC x p 0 (bits kp 2) tr)).1 (x + 24) = some (mC (x + 24) tr z) := (u_n _ _ (by omega)).trans m0
  refine ⟨.int (nI n), q_upd (q_upd σ x (xC x p 0 (bits kp 2) tr)) (x + 24) (mC (x + 24) tr (upI z 0 (nI 0))), ⟨q_upd σ x (xC x p 0 (bits kp 2) tr), ?_, ?_⟩, ⟨p, tx, 0, T, P, Hs, kn, I, kp, W, no, tr, upC C 0 (xC x p 0 (bits kp 2) tr), upC D 0 (mC (x + 24) tr (upI z 0 (nI 0))), (hC.upd (k := 0) (by decide) (by decide) _).m (k := 0) (by decide) _, (hD.x (k := 0) (by decide) _).upd (k := 0) _, hX.up0 0 tr, ⟨⟨upI z 0 (nI 0), rfl, rfl, z1, z2⟩, hM⟩, ⟨Nat.zero_le _, hQ.2⟩⟩, ⟨by show σ.2.1 ≤ _; omega, by show σ.2.2 ≤ _; omega⟩, fun a ha => ?_, rfl⟩
  · rw [k_20 h0, e_20_0, x_letters h0, q_obS, xp_letters h0, q_obS]
  · rw [k_21 m0', e_21_0, m_typed m0', q_obS, mp_typed m0', q_obS, z0]
  · rw [u_n _ _ (by omega), u_n _ _ (by omega)]
theorem w_kind {σ : qH} {a n k : Nat} {P : Nat → Nat} (h : σ.1 a = some (.inr (k, (n, .inl (fun j => nI (P j)))))) {j : Nat} (hj : j < n) (hn : n < 2 ^ 31) (v : Nat) : q_astI σ (.ref a) k (nI j) (nI v) = some (q_upd σ a (.inr (k, (n, .inl (fun i => nI (up P j v i)))))) := by
  unfold q_astI q_arr
  simp only [h, if_true]
  rw [if_neg (nI_in hj hn), upd_nI P (by omega) v]
theorem l_kind {σ : qH} {a n k : Nat} {f : Nat → Int32} (h : σ.1 a = some (.inr (k, (n, .inl f)))) : q_alen σ (.ref a) k = some (nI n) := by
  unfold q_alen q_arr
  simp only [h, if_true]
  rfl
theorem n_char {c : Nat} (hc : c < 65536) : vp_nar .char (Int32.toUInt32 (nI c) % 65536).toInt32 = nI c := by
  rw [pk_vc, pk_char]
  congr 1
  show (BitVec.ofNat 32 c).toNat % 65536 = c
  rw [BitVec.toNat_ofNat]
  omega
theorem o_type {σ : qH} {x : Nat} (h : QV σ x) (c : Int32) : QO σ x 18 19 [.int c] := by
  obtain ⟨p, tx, n, T, P, Hs, kn, I, kp, W, no, tr, C, D, hC, hD, hX, hM, hQ⟩ := id h
  have h0 : σ.1 x = some (xC x p n (bits kp 2) tr) := by rw [← hX.1]; exact hC.at 0 (by decide) (by decide)
  have h1 : σ.1 (x + 1) = some (.inr (0, (120, .inl (fun j => nI (tx j))))) := by rw [← hX.2.1]; exact hC.at 1 (by decide) (by decide)
  obtain ⟨⟨z, hz, z0, z1, z2⟩, d1, hM⟩ := hM
  obtain ⟨hn, htx, hQ⟩ := hQ
  have m0 : σ.1 (x + 24) = some (mC (x + 24) tr z) := by rw [← hz]; exact hD 0 (by decide)
  have m1 : σ.1 (x + 24 + 1) = some (iA 120 tx) := by rw [← d1]; exact hD 1 (by decide)
  rcases n_in (x := c) (N := 256) (by decide) with ⟨j, hj, rfl⟩ | ⟨hc, -⟩
  · by_cases hn2 : n < 120
    · have h1a : (q_upd σ (x + 1) (.inr (0, (120, .inl (fun i => nI (up tx n j i)))))).1 x = some (xC x p n (bits kp 2) tr) := (u_n _ _ (by omega)).trans h0
      have h1b : (q_upd (q_upd σ (x + 1) (.inr (0, (120, .inl (fun i => nI (up tx n j i)))))) x (xC x p (n + 1) (bits kp 2) tr)).1 x = some (xC x p (n + 1) (bits kp 2) tr) := u_s ..
      have e1 : q_call 18 [.ref x, .int (nI j)] σ = some (some (.int (nI (n + 1))), q_upd (q_upd σ (x + 1) (.inr (0, (120, .inl (fun i => nI (up tx n j i)))))) x (xC x p (n + 1) (bits kp 2) tr)) := by
        rw [k_18 h0, e_18_0, if_neg (show ¬ nI j < nI 0 from nI_pos (by omega)), if_pos (nI_le (by omega) (by omega)), x_letters h0, q_obS, if_neg (show ¬ nI n < nI 0 from nI_pos (by omega)), q_obS, x_text h0, q_obS, l_kind h1, q_obS, if_pos (nI_lt hn2 (by decide)), q_obS, q_obS, n_char (by omega), w_kind h1 hn2 (by decide), q_obS, x_letters h1a, q_obS, nI_add, xp_letters h1a, q_obS, x_letters h1b, q_obS]
      generalize hσ1 : q_upd (q_upd σ (x + 1) (.inr (0, (120, .inl (fun i => nI (up tx n j i)))))) x (xC x p (n + 1) (bits kp 2) tr) = σ1 at e1
      have m0a : σ1.1 (x + 24) = some (mC (x + 24) tr z) := by rw [← hσ1]; exact (u_n _ _ (by omega)).trans ((u_n _ _ (by omega)).trans m0)
      have m1a : σ1.1 (x + 24 + 1) = some (iA 120 tx) := by rw [← hσ1]; exact (u_n _ _ (by omega)).trans ((u_n _ _ (by omega)).trans m1)
      have m0b : (q_upd σ1 (x + 24 + 1) (iA 120 (up tx n j))).1 (x + 24) = some (mC (x + 24) tr z) := (u_n _ _ (by omega)).trans m0a
      have m0c : (q_upd (q_upd σ1 (x + 24 + 1) (iA 120 (up tx n j))) (x + 24) (mC (x + 24) tr (upI z 0 (nI (n + 1))))).1 (x + 24) = some (mC (x + 24) tr (upI z 0 (nI (n + 1)))) := u_s ..
      refine ⟨.int (nI (n + 1)), q_upd (q_upd σ1 (x + 24 + 1) (iA 120 (up tx n j))) (x + 24) (mC (x + 24) tr (upI z 0 (nI (n + 1)))), ⟨σ1, e1, ?_⟩, ⟨p, up tx n j, n + 1, T, P, Hs, kn, I, kp, W, no, tr, upC (upC C 1 (.inr (0, (120, .inl (fun i => nI (up tx n j i)))))) 0 (xC x p (n + 1) (bits kp 2) tr), upC (upC D 1 (iA 120 (up tx n j))) 0 (mC (x + 24) tr (upI z 0 (nI (n + 1)))), ?_, ?_, (hX.up1 (up tx n j)).up0 (n + 1) tr, ⟨⟨upI z 0 (nI (n + 1)), rfl, rfl, z1, z2⟩, rfl, hM⟩, ⟨by omega, fun i => ?_, hQ⟩⟩, ⟨by rw [← hσ1]; show σ.2.1 ≤ _; omega, by rw [← hσ1]; show σ.2.2 ≤ _; omega⟩, fun a ha => ?_, rfl⟩
      · rw [k_19 m0a, e_19_0, m_in, q_cIS, q_obS]
        dsimp only
        rw [decide_eq_true ⟨nI_le (Nat.zero_le _) (by omega), nI_le (show j ≤ 255 by omega) (by decide)⟩, if_neg (show ¬ nI (true.toNat) = nI 0 by decide), m_typed m0a, q_obS, z0, if_neg (fun q => absurd ((nI_eq (by omega) (by decide)).mp q) (by omega)), m_text m0a, q_obS, q_obS, a_wr m1a hn2 (by decide), q_obS, m_typed m0b, q_obS, z0, nI_add, mp_typed m0b, q_obS, m_typed m0c, q_obS]
        rfl
      · rw [← hσ1]
        exact (((hC.upd (k := 1) (by decide) (by decide) _).upd (k := 0) (by decide) (by decide) _).m (k := 1) (by decide) _).m (k := 0) (by decide) _
      · rw [← hσ1]
        exact ((((hD.x (k := 1) (by decide) _).x (k := 0) (by decide) _)).upd (k := 1) _).upd (k := 0) _
      · unfold up; split
        · omega
        · exact htx i
      · rw [u_n _ _ (by omega), u_n _ _ (by omega), ← hσ1, u_n _ _ (by omega), u_n _ _ (by omega)]
    · have e : n = 120 := by omega
      subst e
      refine QO.ro (v := .int (-3)) h ?_ ?_
      · rw [k_18 h0, e_18_0, if_neg (show ¬ nI j < nI 0 from nI_pos (by omega)), if_pos (nI_le (by omega) (by omega)), x_letters h0, q_obS, if_neg (show ¬ nI 120 < nI 0 by decide), q_obS, x_text h0, q_obS, l_kind h1, q_obS, if_neg (by decide), e_18_32]
      · rw [k_19 m0, e_19_0, m_in, q_cIS, q_obS]
        dsimp only
        rw [decide_eq_true ⟨nI_le (Nat.zero_le _) (by omega), nI_le (show j ≤ 255 by omega) (by decide)⟩, if_neg (show ¬ nI (true.toNat) = nI 0 by decide), m_typed m0, q_obS, z0, if_pos rfl]
  · refine QO.ro (v := .int (-1)) h ?_ ?_
    · rw [k_18 h0, e_18_0]
      by_cases g : c < nI 0
      · rw [if_pos g, e_18_11]
      · rw [if_neg g, if_neg (fun q => ?_), e_18_11]
        rcases hc with hc | hc
        · exact g hc
        · exact absurd (Int32.le_trans hc q) (by decide)
    · rw [k_19 m0, e_19_0, m_in, q_cIS, q_obS]
      dsimp only
      rw [decide_eq_false (fun q => ?_), if_pos (show nI (false.toNat) = nI 0 from rfl)]
      rcases hc with hc | hc
      · exact absurd hc (Int32.not_lt.mpr q.1)
      · exact absurd (Int32.le_trans hc q.2) (by decide)
