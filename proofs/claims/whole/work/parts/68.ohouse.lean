/-! ===== house: the whole ===== -/
theorem m_house {τ : qH} {m n : Nat} {tr : Int64} {z f : Nat → Int32} {tx T P : Nat → Nat} {kp : Nat → Bool} (h0 : τ.1 m = some (mC m tr z)) (hz : z 0 = nI n) (h1 : τ.1 (m + 1) = some (iA 120 tx)) (hn : n ≤ 120) (h8 : ∀ j, tx j < 256) (h2 : τ.1 (m + 2) = some (iA 35 T)) (h3 : τ.1 (m + 3) = some (iF 35 f)) (h4 : τ.1 (m + 4) = some (iA 22 P)) (hP : ∀ j, 22 ≤ j → P j = 0) (h7 : τ.1 (m + 7) = some (.inr (3, (2, .inl (fun j => nI (kp j).toNat))))) :
    (∀ s, prs tx n (n + 1) 0 T0 = .inl s → ∃ w' f', q_call 48 [.ref m] τ = some (some (.int (-10 - nI s)), hR τ m tr w' f') ∧ wK n (z 1) (z 2) w') ∧
    (∀ T', prs tx n (n + 1) 0 T0 = .inr T' → ∃ w1 w2 w3 f', q_call 48 [.ref m] τ = some (some (.int (nI (T' 3))), q_upd (q_upd (q_upd (q_upd (q_upd (hR τ m tr w1 f') (m + 2) (iA 35 (layN T T' 35))) (m + 4) (iA 22 (begP T'))) m (mC m tr w2)) (m + 7) (.inr (3, (2, .inl (fun j => nI (keptN kp j).toNat))))) m (mC m tr w3)) ∧ w3 0 = nI 0 ∧ w3 1 = nI 0 ∧ w3 2 = nI 0) := by
  have hM : mOk τ m n tx := ⟨h1, hn, h8⟩
  obtain ⟨w1, k1, k2⟩ := m_token (σ := hR τ m tr (upI z 3 (nI 0)) (draft0 f)) (tr := tr) (w := upI z 3 (nI 0)) (tx := tx) (n := n) (a := 0) hR_0 ((hR_o (by omega) (by omega)).trans h1) hz hn h8 (Nat.zero_le _) rfl
  rw [hR_u] at k1
  have hk : wK n (z 1) (z 2) w1 := k2.k ⟨hz, rfl, rfl⟩
  have rd : q_call 15 [.ref m] τ = q_run 15 38 [(0, .ref m)] [] (hR τ m tr w1 (draft0 f)) := by
    rw [m_reads0 h0 h3]
    show q_ob (q_cV (q_call 10 [.ref m] (hR τ m tr (upI z 3 (nI 0)) (draft0 f)))) none _ = _
    rw [k1, q_cVS, q_obS]
  have ans := m_prs (σ := τ) (tr := tr) hM (n + 1) 0 (upI z 3 (nI 0)) w1 (draft0 f) T0 (by omega) (Nat.zero_le _) hk k2 (fun j hj => draft0_i f hj) WX_T0
  rw [← rd] at ans
  constructor
  · intro s hs
    rw [hs] at ans
    obtain ⟨-, w', f', e, q0, q1, q2, q5⟩ := ans
    refine ⟨w', f', ?_, q0, q1, q2⟩
    rw [k_48 h0, e_48_0, e, q_cIS, q_obS]
    dsimp only
    rw [if_pos rfl, m_start hR_0, q_obS, q5]
  · intro T' hs
    rw [hs] at ans
    obtain ⟨w', f', e, q0, q1, q2, hf⟩ := ans
    have b := m_begins (σ := hR τ m tr w' f') (m := m) (tr := tr) (z := w') (T := T) (T2 := T') (P := P) (f := f') (kp := kp) hR_0 ((hR_o (by omega) (by omega)).trans h2) hR_3 hf ((hR_o (by omega) (by omega)).trans h4) hP ((hR_o (by omega) (by omega)).trans h7)
    have k0 : ∀ {a1 a2 w a3}, (q_upd (q_upd (q_upd (q_upd (hR τ m tr w' f') (m + 2) a1) (m + 4) a2) m (mC m tr w)) (m + 7) a3).1 m = some (mC m tr w) := fun {a1 a2 w a3} => (u_n _ _ (by omega)).trans (u_s ..)
    refine ⟨w', upI (upI w' 1 (nI 0)) 2 (nI 0), upI (upI (upI w' 1 (nI 0)) 2 (nI 0)) 0 (nI 0), f', ?_, rfl, rfl, rfl⟩
    have k2 : ∀ {a1 a2 w a3 v}, (q_upd (q_upd (q_upd (q_upd (q_upd (hR τ m tr w' f') (m + 2) a1) (m + 4) a2) m (mC m tr w)) (m + 7) a3) m (mC m tr v)).1 (m + 2) = some a1 := fun {a1 a2 w a3 v} => (u_n _ _ (by omega)).trans ((u_n _ _ (by omega)).trans ((u_n _ _ (by omega)).trans ((u_n _ _ (by omega)).trans (u_s ..))))
    have k0' : ∀ {a1 a2 w a3 v}, (q_upd (q_upd (q_upd (q_upd (q_upd (hR τ m tr w' f') (m + 2) a1) (m + 4) a2) m (mC m tr w)) (m + 7) a3) m (mC m tr v)).1 m = some (mC m tr v) := fun {a1 a2 w a3 v} => u_s ..
    rw [k_48 h0, e_48_0, e, q_cIS, q_obS]
    dsimp only
    rw [if_neg (show ¬ nI 1 = nI 0 by decide), b, q_cVS, q_obS, mp_typed k0, q_obS, m_told k0', q_obS, a_rd k2 (by decide) (by decide), q_obS, layN_i _ _ (by decide)]
theorem XC.plan {σ : qH} {x p p2 : Nat} {C : Nat → qE} (h : XC σ x p C) {e : qE} (hp : σ.1 p2 = some e) (hx : x + 36 ≤ p2) : XC σ x p2 (upC C 2 e) :=
  ⟨fun k hk k2 => by rw [h.1 k hk k2, upC_n _ _ k2], by rw [hp, upC_s], Or.inr hx⟩
theorem o_house {σ : qH} {x : Nat} (h : QV σ x) (hF : QF σ) : QO σ x 47 48 [] := by
  obtain ⟨p, tx, n, T, P, Hs, kn, I, kp, W, no, tr, C, D, hC, hD, hX, hM, hQ⟩ := id h
  obtain ⟨h0, ⟨zz, hp⟩, hpo, he, nx, hnx, h5⟩ := hX.f hC
  obtain ⟨z, m0, ⟨z0, z1, z2⟩, m2, m4⟩ := hM.f hD
  obtain ⟨x0, x1, x2, x3, x4, x5, x6, x7, x8, ⟨gw, ga, gb, gc, x9⟩, xa, xb, xc, xd, xe⟩ := id hX
  obtain ⟨d0, d1, d2, ⟨f3, d3⟩, d4, d5, d6, d7, d8, d9, da, db⟩ := id hM
  obtain ⟨a1, a2, a3, a4, a5, a6, a7, a8, a9⟩ := id hQ
  have ht : σ.1 (x + 1) = some (.inr (0, (120, .inl (fun j => nI (tx j))))) := by rw [← x1]; exact hC.at 1 (by decide) (by decide)
  have h18 : σ.1 (x + 18) = some (grC W no gw ga gb gc) := by rw [← x9]; exact hC.at 18 (by decide) (by decide)
  have hpl : p < σ.2.1 := hF.lt hp
  have hxl : x + 24 + 11 < σ.2.1 := hF.lt (hD 11 (by decide))
  -- the reader
  have hok : rOk (σ.1, σ.2.1 + 1 + 1, σ.2.2 + 9 + 10) x σ.2.1 n tx := ⟨ht, a1, a2, by omega⟩
  have nr := c_newReader (n := n) ht (by omega) a1
  have ans := c_prs hok (n + 1) 0 0 0 0 0 T0 (by omega) (Nat.zero_le _) rfl WX_T0 (by decide) (by decide)
  have st : q_call 47 [.ref x] σ = q_ob (q_cI (rQ σ.2.1 0 (rH (σ.1, σ.2.1 + 1 + 1, σ.2.2 + 9 + 10) x σ.2.1 n 32 0 0 0 0 T0))) none fun p4 => if p4.1 < nI 0 then q_ob (q_put p4.2 (.ref x) 6 1 0 (.int (nI 0))) none fun h5 => q_ob (q_getR h5 (.ref σ.2.1) 4 8) none fun v6 => q_ob (q_put h5 (.ref x) 6 2 2 (.ref v6)) none fun h7 => q_ob (q_getR h7 (.ref x) 6 3) none fun v8 => q_ob (q_getR h7 (.ref x) 6 2) none fun v9 => q_ob (q_cV (q_call 44 [.ref v8, .ref v9] h7)) none fun h10 => q_ob (q_getR h10 (.ref x) 6 5) none fun v11 => q_ob (q_cV (q_call 45 [.ref v11] h10)) none fun h12 => q_ob (q_put h12 (.ref x) 6 7 0 (.int (nI 0))) none fun h13 => q_ob (q_getR h13 (.ref x) 6 8) none fun v14 => q_ob (q_cV (q_call 46 [.ref v14] h13)) none fun h15 => q_ob (q_getI h15 (.ref σ.2.1) 4 7) none fun v16 => some (some (.int v16), h15) else some (some (.int ((-10 : Int32) - p4.1)), p4.2) := by
    have k0 : (q_new σ (.inl (4, q_dfl 4)) 9).1 x = some (xC x p n (bits kp 2) tr) := (new_o _ _ _ (by omega)).trans h0
    rw [k_47 h0, e_47_0, x_text k0, q_obS, x_letters k0, q_obS, nr, q_cVS, q_obS, k_43 (show (rH (σ.1, σ.2.1 + 1 + 1, σ.2.2 + 9 + 10) x σ.2.1 n 32 0 0 0 0 T0).1 σ.2.1 = some (rdC x σ.2.1 n 32 0 0 0 0 (T0 3)) from rH_r), e_43_0]
    rfl
  have old : ∀ {it nm o1 o2 o3 : Nat} {T : Nat → Nat} (a : Nat), a ≠ σ.2.1 → a ≠ σ.2.1 + 1 → (rH (σ.1, σ.2.1 + 1 + 1, σ.2.2 + 9 + 10) x σ.2.1 n it nm o1 o2 o3 T).1 a = σ.1 a := fun a q1 q2 => rH_o q1 q2
  have hCS : ∀ {it nm o1 o2 o3 : Nat} {T : Nat → Nat}, XC (rH (σ.1, σ.2.1 + 1 + 1, σ.2.2 + 9 + 10) x σ.2.1 n it nm o1 o2 o3 T) x p C := fun {it nm o1 o2 o3 T} => ⟨fun k hk k2 => (old _ (by omega) (by omega)).trans (hC.1 k hk k2), (old _ (by omega) (by omega)).trans hC.2.1, hC.2.2⟩
  have hDS : ∀ {it nm o1 o2 o3 : Nat} {T : Nat → Nat}, MC (rH (σ.1, σ.2.1 + 1 + 1, σ.2.2 + 9 + 10) x σ.2.1 n it nm o1 o2 o3 T) x D := fun {it nm o1 o2 o3 T} k hk => (old _ (by omega) (by omega)).trans (hD k hk)
  cases hr : prs tx n (n + 1) 0 T0 with
  | inl s =>
    rw [hr] at ans
    obtain ⟨hs, it, nm, o1, o2, o3, T1, e⟩ := ans
    have cx : q_call 47 [.ref x] σ = some (some (.int (-10 - nI s)), rH (σ.1, σ.2.1 + 1 + 1, σ.2.2 + 9 + 10) x σ.2.1 n it nm o1 o2 o3 T1) := by
      rw [st, e, q_cIS, q_obS]
      exact if_neg (show ¬ nI s < nI 0 from nI_pos (by omega))
    have hD1 : MC (rH (σ.1, σ.2.1 + 1 + 1, σ.2.2 + 9 + 10) x σ.2.1 n it nm o1 o2 o3 T1) x D := hDS
    have hC1 : XC (rH (σ.1, σ.2.1 + 1 + 1, σ.2.2 + 9 + 10) x σ.2.1 n it nm o1 o2 o3 T1) x p C := hCS
    have o1' : ∀ a, a < x → (rH (σ.1, σ.2.1 + 1 + 1, σ.2.2 + 9 + 10) x σ.2.1 n it nm o1 o2 o3 T1).1 a = σ.1 a := fun a ha => old a (by omega) (by omega)
    have s1 : (rH (σ.1, σ.2.1 + 1 + 1, σ.2.2 + 9 + 10) x σ.2.1 n it nm o1 o2 o3 T1).2 = (σ.2.1 + 1 + 1, σ.2.2 + 9 + 10) := rfl
    generalize rH (σ.1, σ.2.1 + 1 + 1, σ.2.2 + 9 + 10) x σ.2.1 n it nm o1 o2 o3 T1 = τ at cx hD1 hC1 o1' s1
    obtain ⟨zz2, e0, w0, w1, w2⟩ := d0
    have y := (m_house (τ := τ) (m := x + 24) (n := n) (tr := tr) (z := zz2) (f := f3) (tx := tx) (T := T) (P := P) (kp := kp) (by rw [← e0]; exact hD1 0 (by decide)) w0 (by rw [← d1]; exact hD1 1 (by decide)) a1 a2 (by rw [← d2]; exact hD1 2 (by decide)) (by rw [← d3]; exact hD1 3 (by decide)) (by rw [← d4]; exact hD1 4 (by decide)) a4.2.2.2.2.2.2 (by rw [← d7]; exact hD1 7 (by decide))).1 s hr
    obtain ⟨w', f', cm, q0, q1, q2⟩ := y
    refine ⟨.int (-10 - nI s), hR τ (x + 24) tr w' f', ⟨τ, cx, cm⟩, ⟨p, tx, n, T, P, Hs, kn, I, kp, W, no, tr, C, upC (upC D 3 (iF 35 f')) 0 (mC (x + 24) tr w'), (hC1.m (k := 3) (by decide) _).m (k := 0) (by decide) _, (hD1.upd (k := 3) (iF 35 f')).upd (k := 0) (mC (x + 24) tr w'), hX, ⟨⟨w', rfl, q0, q1.trans w1, q2.trans w2⟩, d1, d2, ⟨f', rfl⟩, d4, d5, d6, d7, d8, d9, da, db⟩, hQ⟩, ⟨?_, ?_⟩, fun a ha => ?_, rfl⟩
    · show τ.2.1 ≤ _
      rw [s1]; exact Nat.le_refl _
    · show τ.2.2 ≤ _
      rw [s1]
      show σ.2.2 + 9 + 10 ≤ _
      omega
    · rw [hR_o (by omega) (by omega)]; exact o1' a ha
  | inr T' =>
    rw [hr] at ans
    obtain ⟨hW, nm, o1, o2, o3, e⟩ := ans
    have hk0 : bits (keptN kp) 2 = 0 := rfl
    -- the class begins anew
    have s0 : (rH (σ.1, σ.2.1 + 1 + 1, σ.2.2 + 9 + 10) x σ.2.1 n 32 nm o1 o2 o3 T').1 x = some (xC x p n (bits kp 2) tr) := (old x (by omega) (by omega)).trans h0
    have s3 : (rH (σ.1, σ.2.1 + 1 + 1, σ.2.2 + 9 + 10) x σ.2.1 n 32 nm o1 o2 o3 T').1 (x + 3) = some (evC P) := (old _ (by omega) (by omega)).trans he
    have s5 : (rH (σ.1, σ.2.1 + 1 + 1, σ.2.2 + 9 + 10) x σ.2.1 n 32 nm o1 o2 o3 T').1 (x + 5) = some (paC x nx kn) := (old _ (by omega) (by omega)).trans h5
    have s18 : (rH (σ.1, σ.2.1 + 1 + 1, σ.2.2 + 9 + 10) x σ.2.1 n 32 nm o1 o2 o3 T').1 (x + 18) = some (grC W no gw ga gb gc) := (old _ (by omega) (by omega)).trans h18
    have sr : (rH (σ.1, σ.2.1 + 1 + 1, σ.2.2 + 9 + 10) x σ.2.1 n 32 nm o1 o2 o3 T').1 σ.2.1 = some (rdC x σ.2.1 n 32 nm o1 o2 o3 (T' 3)) := rH_r
    have sp : (rH (σ.1, σ.2.1 + 1 + 1, σ.2.2 + 9 + 10) x σ.2.1 n 32 nm o1 o2 o3 T').1 (σ.2.1 + 1) = some (planC T' (nI (T' 4))) := rH_p
    have oS : ∀ a, a < x → (rH (σ.1, σ.2.1 + 1 + 1, σ.2.2 + 9 + 10) x σ.2.1 n 32 nm o1 o2 o3 T').1 a = σ.1 a := fun a ha => old a (by omega) (by omega)
    have sS : (rH (σ.1, σ.2.1 + 1 + 1, σ.2.2 + 9 + 10) x σ.2.1 n 32 nm o1 o2 o3 T').2 = (σ.2.1 + 1 + 1, σ.2.2 + 9 + 10) := rfl
    have hC0 : XC (rH (σ.1, σ.2.1 + 1 + 1, σ.2.2 + 9 + 10) x σ.2.1 n 32 nm o1 o2 o3 T') x p C := hCS
    have hD0 : MC (rH (σ.1, σ.2.1 + 1 + 1, σ.2.2 + 9 + 10) x σ.2.1 n 32 nm o1 o2 o3 T') x D := hDS
    rw [e, q_cIS, q_obS] at st
    dsimp only at st
    rw [if_pos (show (-1 : Int32) < nI 0 by decide)] at st
    generalize rH (σ.1, σ.2.1 + 1 + 1, σ.2.2 + 9 + 10) x σ.2.1 n 32 nm o1 o2 o3 T' = τ at st s0 s3 s5 s18 sr sp oS sS hC0 hD0
    have cx : q_call 47 [.ref x] σ = some (some (.int (nI (T' 3))), q_upd (q_upd (q_upd (q_upd (q_upd τ x (xC x (σ.2.1 + 1) 0 (bits kp 2) tr)) (x + 3) (evC (begP T'))) (x + 5) (paC x nx 0)) x (xC x (σ.2.1 + 1) 0 0 tr)) (x + 18) (grC W 0 gw ga gb gc)) := by
      have b0 : ∀ {q}, (q_upd τ x q).1 x = some q := fun {q} => u_s ..
      have br : ∀ {q}, (q_upd τ x q).1 σ.2.1 = some (rdC x σ.2.1 n 32 nm o1 o2 o3 (T' 3)) := fun {q} => (u_n _ _ (by omega)).trans sr
      have b3 : ∀ {q}, (q_upd τ x q).1 (x + 3) = some (evC P) := fun {q} => (u_n _ _ (by omega)).trans s3
      have bp : ∀ {q}, (q_upd τ x q).1 (σ.2.1 + 1) = some (planC T' (nI (T' 4))) := fun {q} => (u_n _ _ (by omega)).trans sp
      have c0 : ∀ {q r}, (q_upd (q_upd τ x q) (x + 3) r).1 x = some q := fun {q r} => (u_n _ _ (by omega)).trans (u_s ..)
      have c5 : ∀ {q r}, (q_upd (q_upd τ x q) (x + 3) r).1 (x + 5) = some (paC x nx kn) := fun {q r} => (u_n _ _ (by omega)).trans ((u_n _ _ (by omega)).trans s5)
      have f0 : ∀ {q r t}, (q_upd (q_upd (q_upd τ x q) (x + 3) r) (x + 5) t).1 x = some q := fun {q r t} => (u_n _ _ (by omega)).trans c0
      have g0 : ∀ {q r t u}, (q_upd (q_upd (q_upd (q_upd τ x q) (x + 3) r) (x + 5) t) x u).1 x = some u := fun {q r t u} => u_s ..
      have g18 : ∀ {q r t u}, (q_upd (q_upd (q_upd (q_upd τ x q) (x + 3) r) (x + 5) t) x u).1 (x + 18) = some (grC W no gw ga gb gc) := fun {q r t u} => (u_n _ _ (by omega)).trans ((u_n _ _ (by omega)).trans ((u_n _ _ (by omega)).trans ((u_n _ _ (by omega)).trans s18)))
      have gr : ∀ {q r t u v}, (q_upd (q_upd (q_upd (q_upd (q_upd τ x q) (x + 3) r) (x + 5) t) x u) (x + 18) v).1 σ.2.1 = some (rdC x σ.2.1 n 32 nm o1 o2 o3 (T' 3)) := fun {q r t u v} => (u_n _ _ (by omega)).trans ((u_n _ _ (by omega)).trans ((u_n _ _ (by omega)).trans ((u_n _ _ (by omega)).trans ((u_n _ _ (by omega)).trans sr))))
      have l45 : ∀ {q r}, q_call 45 [.ref (x + 5)] (q_upd (q_upd τ x q) (x + 3) r) = some (none, q_upd (q_upd (q_upd τ x q) (x + 3) r) (x + 5) (paC x nx 0)) := fun {q r} => by
        rw [k_45 c5, e_45_0, p_F c5 (show 2 < 3 by decide) rfl, q_obS]
        rfl
      have l46 : ∀ {q r t u}, q_call 46 [.ref (x + 18)] (q_upd (q_upd (q_upd (q_upd τ x q) (x + 3) r) (x + 5) t) x u) = some (none, q_upd (q_upd (q_upd (q_upd (q_upd τ x q) (x + 3) r) (x + 5) t) x u) (x + 18) (grC W 0 gw ga gb gc)) := fun {q r t u} => by
        rw [k_46 g18, e_46_0, p_F g18 (show 3 < 7 by decide) rfl, q_obS]
        rfl
      rw [st, xp_letters s0, q_obS, rd_plan br, q_obS, xp_plan b0, q_obS, u_u, x_evening b0, q_obS, x_plan b0, q_obS, c_begin b3 bp (by omega), q_cVS, q_obS, x_past c0, q_obS, l45, q_cVS, q_obS, xp_kept f0, q_obS, x_grazing g0, q_obS, l46, q_cVS, q_obS, rd_items gr, q_obS]
    have hC1 := ((((hC0.upd (k := 0) (by decide) (by decide) (xC x (σ.2.1 + 1) 0 (bits kp 2) tr)).upd (k := 3) (by decide) (by decide) (evC (begP T'))).upd (k := 5) (by decide) (by decide) (paC x nx 0)).upd (k := 0) (by decide) (by decide) (xC x (σ.2.1 + 1) 0 0 tr)).upd (k := 18) (by decide) (by decide) (grC W 0 gw ga gb gc)
    have hD1 := ((((hD0.x (k := 0) (by decide) (xC x (σ.2.1 + 1) 0 (bits kp 2) tr)).x (k := 3) (by decide) (evC (begP T'))).x (k := 5) (by decide) (paC x nx 0)).x (k := 0) (by decide) (xC x (σ.2.1 + 1) 0 0 tr)).x (k := 18) (by decide) (grC W 0 gw ga gb gc)
    have sp1 : (q_upd (q_upd (q_upd (q_upd (q_upd τ x (xC x (σ.2.1 + 1) 0 (bits kp 2) tr)) (x + 3) (evC (begP T'))) (x + 5) (paC x nx 0)) x (xC x (σ.2.1 + 1) 0 0 tr)) (x + 18) (grC W 0 gw ga gb gc)).1 (σ.2.1 + 1) = some (planC T' (nI (T' 4))) := (u_n _ _ (by omega)).trans ((u_n _ _ (by omega)).trans ((u_n _ _ (by omega)).trans ((u_n _ _ (by omega)).trans ((u_n _ _ (by omega)).trans sp))))
    have hC2 := XC.plan hC1 sp1 (by omega)
    have oS1 : ∀ a, a < x → (q_upd (q_upd (q_upd (q_upd (q_upd τ x (xC x (σ.2.1 + 1) 0 (bits kp 2) tr)) (x + 3) (evC (begP T'))) (x + 5) (paC x nx 0)) x (xC x (σ.2.1 + 1) 0 0 tr)) (x + 18) (grC W 0 gw ga gb gc)).1 a = σ.1 a := fun a ha => (u_n _ _ (by omega)).trans ((u_n _ _ (by omega)).trans ((u_n _ _ (by omega)).trans ((u_n _ _ (by omega)).trans ((u_n _ _ (by omega)).trans (oS a ha)))))
    have sS1 : (q_upd (q_upd (q_upd (q_upd (q_upd τ x (xC x (σ.2.1 + 1) 0 (bits kp 2) tr)) (x + 3) (evC (begP T'))) (x + 5) (paC x nx 0)) x (xC x (σ.2.1 + 1) 0 0 tr)) (x + 18) (grC W 0 gw ga gb gc)).2 = (σ.2.1 + 1 + 1, σ.2.2 + 9 + 10) := sS
    generalize hE : upC (upC (upC (upC (upC (upC C 0 (xC x (σ.2.1 + 1) 0 (bits kp 2) tr)) 3 (evC (begP T'))) 5 (paC x nx 0)) 0 (xC x (σ.2.1 + 1) 0 0 tr)) 18 (grC W 0 gw ga gb gc)) 2 (planC T' (nI (T' 4))) = C2 at hC2
    have eo : ∀ j, j ≠ 0 → j ≠ 2 → j ≠ 3 → j ≠ 5 → j ≠ 18 → C2 j = C j := fun j j0 j2 j3 j5 j18 => by
      rw [← hE, upC_n _ _ j2, upC_n _ _ j18, upC_n _ _ j0, upC_n _ _ j5, upC_n _ _ j3, upC_n _ _ j0]
    have e0 : C2 0 = xC x (σ.2.1 + 1) 0 0 tr := by rw [← hE]; rfl
    have e2 : C2 2 = planC T' (nI (T' 4)) := by rw [← hE]; rfl
    have e3 : C2 3 = evC (begP T') := by rw [← hE]; rfl
    have e5 : C2 5 = paC x nx 0 := by rw [← hE]; rfl
    have e18 : C2 18 = grC W 0 gw ga gb gc := by rw [← hE]; rfl
    generalize q_upd (q_upd (q_upd (q_upd (q_upd τ x (xC x (σ.2.1 + 1) 0 (bits kp 2) tr)) (x + 3) (evC (begP T'))) (x + 5) (paC x nx 0)) x (xC x (σ.2.1 + 1) 0 0 tr)) (x + 18) (grC W 0 gw ga gb gc) = τ1 at cx hC2 hD1 oS1 sS1
    obtain ⟨zz2, ez, w0, w1, w2⟩ := d0
    have y := (m_house (τ := τ1) (m := x + 24) (n := n) (tr := tr) (z := zz2) (f := f3) (tx := tx) (T := T) (P := P) (kp := kp) (by rw [← ez]; exact hD1 0 (by decide)) w0 (by rw [← d1]; exact hD1 1 (by decide)) a1 a2 (by rw [← d2]; exact hD1 2 (by decide)) (by rw [← d3]; exact hD1 3 (by decide)) (by rw [← d4]; exact hD1 4 (by decide)) a4.2.2.2.2.2.2 (by rw [← d7]; exact hD1 7 (by decide))).2 T' hr
    obtain ⟨v1, v2, v3, f', cm, q0, q1, q2⟩ := y
    have hk : ∀ i, i < 2 → keptN kp i = false := fun i hi => if_pos hi
    have hX2 : XS C2 x (σ.2.1 + 1) tx 0 (layN T T' 35) (begP T') Hs 0 I (keptN kp) W 0 tr := by
      refine ⟨by rw [e0, hk0], by rw [eo 1 (by decide) (by decide) (by decide) (by decide) (by decide)]; exact x1, ⟨nI (T' 4), by rw [e2, planC_lay]⟩, e3, by rw [eo 4 (by decide) (by decide) (by decide) (by decide) (by decide)]; exact x4, ⟨nx, hnx, e5, fun i hi => absurd hi (Nat.not_lt_zero _)⟩, by rw [eo 6 (by decide) (by decide) (by decide) (by decide) (by decide)]; exact x6, fun j hj => by rw [eo (7 + j) (by omega) (by omega) (by omega) (by omega) (by omega)]; exact x7 j hj, by rw [eo 17 (by decide) (by decide) (by decide) (by decide) (by decide)]; exact x8, ⟨gw, ga, gb, gc, e18⟩, by rw [eo 19 (by decide) (by decide) (by decide) (by decide) (by decide)]; exact xa, by rw [eo 20 (by decide) (by decide) (by decide) (by decide) (by decide)]; exact xb, by rw [eo 21 (by decide) (by decide) (by decide) (by decide) (by decide)]; exact xc, fun i hi => by rw [eo (22 + i) (by omega) (by omega) (by omega) (by omega) (by omega)]; exact xd i hi, fun i hi hki => ?_⟩
      rw [hk i hi] at hki; cases hki
    have hQ2 : QI tx 0 (layN T T' 35) (begP T') Hs 0 I (keptN kp) W 0 := by
      refine ⟨Nat.zero_le _, a2, WT_lay hW.1, ?_, Nat.zero_le _, fun i hi => absurd hi (Nat.not_lt_zero _), fun i hi hki => ?_, Nat.zero_le _, a9⟩
      · have := WP_beg (WT_lay (T := T) hW.1)
        rw [begP_lay] at this
        exact this
      · rw [hk i hi] at hki; cases hki
    obtain ⟨f5, d5a, d5b⟩ := d5
    obtain ⟨f6, d6a, d6b⟩ := d6
    refine ⟨.int (nI (T' 3)), _, ⟨τ1, cx, cm⟩, ⟨σ.2.1 + 1, tx, 0, layN T T' 35, begP T', Hs, 0, I, keptN kp, W, 0, tr, C2, _, ((((((hC2.m (k := 3) (by decide) _).m (k := 0) (by decide) _).m (k := 2) (by decide) _).m (k := 4) (by decide) _).m (k := 0) (by decide) _).m (k := 7) (by decide) _).m (k := 0) (by decide) _, ((((((hD1.upd (k := 3) (iF 35 f')).upd (k := 0) (mC (x + 24) tr v1)).upd (k := 2) (iA 35 (layN T T' 35))).upd (k := 4) (iA 22 (begP T'))).upd (k := 0) (mC (x + 24) tr v2)).upd (k := 7) (.inr (3, (2, .inl (fun j => nI (keptN kp j).toNat))))).upd (k := 0) (mC (x + 24) tr v3), hX2, ⟨⟨v3, rfl, q0, q1, q2⟩, d1, rfl, ⟨f', rfl⟩, rfl, ⟨f5, d5a, fun i hi => absurd hi (Nat.not_lt_zero _)⟩, ⟨f6, d6a, fun i hi hki => (by rw [hk i hi] at hki; cases hki)⟩, rfl, d8, d9, da, db⟩, hQ2⟩, ⟨?_, ?_⟩, fun a ha => ?_, rfl⟩
    · show τ1.2.1 ≤ _
      rw [sS1]; exact Nat.le_refl _
    · show τ1.2.2 ≤ _
      rw [sS1]
      show σ.2.2 + 9 + 10 ≤ _
      omega
    · rw [u_n _ _ (by omega), u_n _ _ (by omega), u_n _ _ (by omega), u_n _ _ (by omega), u_n _ _ (by omega), hR_o (by omega) (by omega)]; exact oS1 a ha
