/-! ===== the law begins ===== -/
def TI : Nat → Nat := layN (fun _ => 0) T0 35
theorem TI_z {j : Nat} (h : j ≠ 2) : TI j = 0 := by
  unfold TI layN T0
  by_cases g : j < 35
  · rw [if_pos g, if_neg h]
  · rw [if_neg g]
theorem PI_z (k : Nat) : begP T0 k = 0 := by
  unfold begP T0
  by_cases g : k < 5
  · rw [if_pos g, if_neg (by omega)]
  · rw [if_neg g]
    by_cases g2 : 15 ≤ k ∧ k ≤ 19
    · rw [if_pos g2, if_neg (by omega)]
    · rw [if_neg g2]
theorem WT_init : WT TI := by
  have t0 : TI 0 = 0 := TI_z (by decide)
  have t1 : TI 1 = 0 := TI_z (by decide)
  refine ⟨by rw [t0]; decide, by rw [t1]; decide, ⟨by show 1 ≤ 20; decide, by show 20 ≤ 99; decide⟩, fun r hr => ⟨?_, ?_, ?_, ?_, ?_⟩, fun r hr => ?_, fun r _ hr => TI_z (by omega), fun f hf => ?_, fun f _ hf => TI_z (by omega)⟩
  · rw [TI_z (by omega)]; omega
  · rw [TI_z (by omega)]; omega
  · rw [TI_z (by omega)]; exact Nat.two_pow_pos _
  · rw [TI_z (by omega)]; omega
  · rw [TI_z (by omega)]; omega
  · rw [t0] at hr; omega
  · rw [t1] at hf; omega
theorem WP_init : WP TI (begP T0) := by
  have t1 : TI 1 = 0 := TI_z (by decide)
  refine ⟨fun f hf => ?_, fun f _ _ => PI_z _, fun f hf => ⟨?_, ?_, ?_⟩, fun f _ _ => PI_z _, ?_, ?_, fun j _ => PI_z _⟩
  · rw [t1] at hf; omega
  · rw [PI_z]; omega
  · rw [PI_z]; omega
  · rw [PI_z]; omega
  · rw [PI_z]; exact Nat.two_pow_pos _
  · rw [PI_z]; omega
theorem law_begin (z b L : Nat) (xs : Nat → Int32) (hb : b < z) : ∃ σ, q_run 159 0 [(0, .ref b)] [] (q_init z b L xs) = q_run 159 18 [(0, .ref b), (1, .ref z), (2, .ref (z + 24)), (3, .int (nI 0))] [] σ ∧ IL σ z b L xs ∧ σ.2.1 = z + 36 ∧ σ.2.2 ≤ 5000 := by
  have hF0 : QF (q_init z b L xs) := fun a ha => if_neg (by have : z ≤ a := ha; omega)
  have H0 : HS (q_init z b L xs).1 (q_init z b L xs) z 0 (fun _ => evC (fun _ => 0)) 0 := ⟨rfl, rfl, fun k hk => absurd hk (Nat.not_lt_zero _), fun _ _ => rfl⟩
  obtain ⟨g1, C1, e1, H1, c1, -⟩ := H0.newU (.inl (6, q_dfl 6)) 11
  obtain ⟨g2, C2, e2, H2, hX⟩ := c_init (x := z) (H1 : HS _ g1 z 1 C1 11) c1
  have H3 : HS g2.1 g2 (z + 24) 0 (fun _ => evC (fun _ => 0)) 3889 := ⟨H2.1, H2.2.1, fun k hk => absurd hk (Nat.not_lt_zero _), fun _ _ => rfl⟩
  obtain ⟨g4, C4, e4, H4, c4, -⟩ := H3.newU (.inl (7, q_dfl 7)) 19
  obtain ⟨g5, D, e5, H5, hM⟩ := m_init (x := z + 24) (H4 : HS _ g4 (z + 24) 1 C4 (3889 + 19)) c4
  have hF1 : QF g1 := fun a ha => by
    have e : g1.2.1 = z + 1 := H1.1
    rw [← e1]
    show (if a = z then _ else _) = _
    rw [if_neg (by omega)]
    exact hF0 a (by show z ≤ a; omega)
  obtain ⟨hF2, z2, k2⟩ := hF1.call e2
  have hF4 : QF g4 := fun a ha => by
    have e : g4.2.1 = z + 24 + 1 := H4.1
    have e' : g2.2.1 = z + 24 := H2.1
    rw [← e4]
    show (if a = g2.2.1 then _ else g2.1 a) = _
    rw [if_neg (by omega)]
    exact hF2 a (by omega)
  obtain ⟨hF5, z5, k5⟩ := hF4.call e5
  have sc0 : (q_init z b L xs).1 b = some (.inr (9, (L, .inl xs))) := if_pos rfl
  have sc2 : g2.1 b = some (.inr (9, (L, .inl xs))) := (H2.2.2.2 b hb).trans sc0
  have sc5 : g5.1 b = some (.inr (9, (L, .inl xs))) := (H5.2.2.2 b (by omega)).trans sc2
  refine ⟨g5, ?_, ⟨?_, hF5, sc5⟩, H5.1, by rw [H5.2.1]; decide⟩
  · rw [e_159_0, show (q_init z b L xs).2.1 = z from rfl, e1, e2, q_cVS, q_obS, H2.1, e4, e5, q_cVS, q_obS]
  · obtain ⟨x0, x1, x2, x3, x4, x5, x6, x7, x8, x9, xa, xb, xc, xd⟩ := hX
    obtain ⟨⟨w, m0, w0, w1, w2⟩, m1, m2, m3, m4, m5, m6, m7, m8, m9, ma, mb⟩ := hM
    have old : ∀ k, k < 24 → g5.1 (z + k) = some (C2 k) := fun k hk => (H5.2.2.2 (z + k) (by omega)).trans (H2.2.2.1 k hk)
    refine ⟨z + 2, fun _ => 0, 0, TI, begP T0, fun _ _ => 0, 0, fun _ _ => 0, keptN (fun _ => false), fun _ => 0, 0, lN 0, C2, D, ⟨fun k hk _ => old k hk, old 2 (by decide), Or.inl rfl⟩, fun k hk => H5.2.2.1 k hk, ⟨x0, x1, ⟨nI 0, x2⟩, x3, ⟨_, _, _, _, _, _, x4⟩, ⟨0, by decide, x5, fun i hi => absurd hi (Nat.not_lt_zero _)⟩, x6, fun j hj => ⟨_, _, _, _, _, _, x7 j hj⟩, x8, ⟨_, _, _, _, x9⟩, ⟨_, _, _, xa⟩, ⟨_, xb⟩, ⟨_, xc⟩, fun i hi => ⟨_, _, _, _, _, _, xd i hi⟩, fun i hi hk => ?_⟩, ⟨⟨w, m0, w0, w1, w2⟩, m1, m2, m3, m4, ⟨_, m5, fun i hi => absurd hi (Nat.not_lt_zero _)⟩, ⟨_, m6, fun i hi hk => ?_⟩, m7, m8, ⟨_, m9⟩, ⟨_, ma⟩, ⟨_, mb⟩⟩, by decide, fun _ => by show 0 < 256; decide, WT_init, WP_init, by decide, fun i hi => absurd hi (Nat.not_lt_zero _), fun i hi hk => ?_, by decide, fun i => ⟨by show 0 < 32; decide, by show 0 ≤ 45; decide⟩⟩
    all_goals (unfold keptN at hk; rw [if_pos hi] at hk; cases hk)
