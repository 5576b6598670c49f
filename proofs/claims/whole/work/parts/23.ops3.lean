/-! ===== forget, tells, rate, now ===== -/
theorem QV.facts {σ : qH} {x : Nat} (h : QV σ x) : ∃ p tx n T P Hs kn I kp W no tr C D z zz, XC σ x p C ∧ MC σ x D ∧ XS C x p tx n T P Hs kn I kp W no tr ∧ MS D x tx n T P Hs kn I kp W no tr ∧ QI tx n T P Hs kn I kp W no ∧
    σ.1 x = some (xC x p n (bits kp 2) tr) ∧ (σ.1 p = some (planC T zz) ∧ (p = x + 2 ∨ x + 36 ≤ p)) ∧ σ.1 (x + 3) = some (evC P) ∧ (D 0 = mC (x + 24) tr z ∧ z 0 = nI n ∧ z 1 = nI kn ∧ z 2 = nI no) ∧ σ.1 (x + 24) = some (mC (x + 24) tr z) ∧ σ.1 (x + 24 + 2) = some (iA 35 T) ∧ σ.1 (x + 24 + 4) = some (iA 22 P) := by
  obtain ⟨p, tx, n, T, P, Hs, kn, I, kp, W, no, tr, C, D, hC, hD, hX, hM, hQ⟩ := h
  obtain ⟨x0, x1, ⟨zz, x2⟩, x3, x4⟩ := id hX
  obtain ⟨⟨z, hz, z0, z1, z2⟩, m1, m2, m3, m4, m5⟩ := id hM
  refine ⟨p, tx, n, T, P, Hs, kn, I, kp, W, no, tr, C, D, z, zz, hC, hD, hX, hM, hQ, ?_, ⟨?_, hC.2.2⟩, ?_, ⟨hz, z0, z1, z2⟩, ?_, ?_, ?_⟩
  · rw [← x0]; exact hC.at 0 (by decide) (by decide)
  · rw [← x2]; exact hC.2.1
  · rw [← x3]; exact hC.at 3 (by decide) (by decide)
  · rw [← hz]; exact hD 0 (by decide)
  · rw [← m2]; exact hD 2 (by decide)
  · rw [← m4]; exact hD 4 (by decide)
theorem QO.mk {σ σ1 σ' : qH} {x kX kM : Nat} {as : List Value} {v : Value} (h1 : q_call kX (.ref x :: as) σ = some (some v, σ1)) (h2 : q_call kM (.ref (x + 24) :: as) σ1 = some (some v, σ')) (hV : QV σ' x) (hz : σ'.2 = σ.2) (hf : ∀ a, a < x → σ'.1 a = σ.1 a) (hv : qv kX v = true := by rfl) : QO σ x kX kM as :=
  ⟨v, σ', ⟨σ1, h1, h2⟩, hV, ⟨by rw [hz]; omega, by rw [hz]; omega⟩, hf, hv⟩
def grR (s t w : Int64) (o a b c : Int32) : qE := .inl (1, [.long s, .long t, .long w, .int o, .int a, .int b, .int c])
theorem o_forget {σ : qH} {x : Nat} (h : QV σ x) : QO σ x 130 131 [] := by
  obtain ⟨p, tx, n, T, P, Hs, kn, I, kp, W, no, tr, C, D, z, zz, hC, hD, hX, hM, hQ, h0, ⟨hp, hpo⟩, he, ⟨hz, z0, z1, z2⟩, m0, m2, m4⟩ := h.facts
  obtain ⟨⟨w, a, b, c, hg0⟩⟩ : Nonempty (∃ w a b c, C 18 = grC W no w a b c) := ⟨hX.2.2.2.2.2.2.2.2.2.1⟩
  have hg : σ.1 (x + 18) = some (grC W no w a b c) := by rw [← hg0]; exact hC.at 18 (by decide) (by decide)
  have hm : (q_upd σ (x + 18) (grC W 0 w a b c)).1 (x + 24) = some (mC (x + 24) tr z) := (u_n _ _ (by omega)).trans m0
  refine QO.mk (v := .int (nI no)) (σ1 := q_upd σ (x + 18) (grC W 0 w a b c)) (σ' := q_upd (q_upd σ (x + 18) (grC W 0 w a b c)) (x + 24) (mC (x + 24) tr (upI z 2 (nI 0)))) ?_ ?_ ⟨p, tx, n, T, P, Hs, kn, I, kp, W, 0, tr, upC C 18 (grC W 0 w a b c), upC D 0 (mC (x + 24) tr (upI z 2 (nI 0))), (hC.upd (k := 18) (by decide) (by decide) _).m (k := 0) (by decide) _, (hD.x (k := 18) (by decide) _).upd (k := 0) _, hX.up18 ⟨w, a, b, c, rfl⟩, ⟨⟨upI z 2 (nI 0), rfl, z0, z1, rfl⟩, hM.2⟩, ?_⟩ rfl (fun a ha => ?_)
  · rw [k_130 h0, e_130_0, x_grazing h0, q_obS, g_I (x := nI no) hg rfl, q_obS, q_obS, k_46 hg, e_46_0, p_F hg (show 3 < 7 by decide) rfl, q_obS, q_cVS, q_obS]
    rfl
  · rw [k_131 hm, e_131_0, m_noted hm, q_obS, mp_noted hm, q_obS, z2]
  · obtain ⟨a1, a2, a3, a4, a5, a6, a7, a8, a9⟩ := hQ
    exact ⟨a1, a2, a3, a4, a5, a6, a7, Nat.zero_le _, a9⟩
  · rw [u_n _ _ (by omega), u_n _ _ (by omega)]
theorem i6 {i : Nat} (h : i < 6) : i = 0 ∨ i = 1 ∨ i = 2 ∨ i = 3 ∨ i = 4 ∨ i = 5 := by omega
theorem pk6_congr {f g : Nat → Nat} (h : ∀ i, i < 6 → f i = g i) : pk6 f = pk6 g := by
  unfold pk6; rw [h 0 (by decide), h 1 (by decide), h 2 (by decide), h 3 (by decide), h 4 (by decide), h 5 (by decide)]
theorem c_lane6 {f : Nat → Nat} (hf : ∀ i, i < 6 → f i < 256) {i : Nat} (hi : i < 6) (σ : qH) : q_call 35 [.long (lN (pk6 f)), .int (nI i)] σ = some (some (.int (nI (f i))), σ) := by
  rw [k_35, e_35_0]
  have h0 := hf 0 (by decide); have h1 := hf 1 (by decide); have h2 := hf 2 (by decide); have h3 := hf 3 (by decide); have h4 := hf 4 (by decide); have h5 := hf 5 (by decide)
  have hlt : pk6 f < 2 ^ 64 := by unfold pk6; omega
  rw [pk_mul, wb_shr hlt (by omega), lN_i, n_and255]
  have e : pk6 f / 2 ^ (8 * i) % 256 = f i := by
    unfold pk6
    rcases i6 hi with rfl | rfl | rfl | rfl | rfl | rfl <;> simp only [Nat.mul_zero, Nat.mul_one, Nat.reduceMul, Nat.reducePow] <;> omega
  rw [e]
theorem c_withLane6 {f : Nat → Nat} (hf : ∀ i, i < 6 → f i < 256) {i v : Nat} (hi : i < 6) (hv : v < 256) (σ : qH) : q_call 33 [.long (lN (pk6 f)), .int (nI i), .int (nI v)] σ = some (some (.long (lN (pk6 (up f i v)))), σ) := by
  rw [k_33, e_33_0]
  have h0 := hf 0 (by decide); have h1 := hf 1 (by decide); have h2 := hf 2 (by decide); have h3 := hf 3 (by decide); have h4 := hf 4 (by decide); have h5 := hf 5 (by decide)
  rw [pk_mul, n_and255, Nat.mod_eq_of_lt hv, nI_l (n := v) (by omega), wb_shl 255 (k := 8 * i) (by omega), wb_shl v (k := 8 * i) (by omega), l_not, l_or]
  congr 5
  have key : ∀ {hi' mid lo s : Nat}, mid < 256 → lo < 2 ^ s → 2 ^ (s + 8) * hi' + (2 ^ s * mid + lo) < 2 ^ 64 → (2 ^ (s + 8) * hi' + (2 ^ s * mid + lo)) &&& ((255 * 2 ^ s) ^^^ 18446744073709551615) ||| v * 2 ^ s = 2 ^ (s + 8) * hi' + (2 ^ s * v + lo) := by
    intro hi' mid lo s hm hl hw
    have := n_clr (k := 8) (w := 64) hm hl hw
    rw [show (2 : Nat) ^ 8 - 1 = 255 from rfl, show (2 : Nat) ^ 64 - 1 = 18446744073709551615 from rfl, Nat.mul_comm (2 ^ s) 255] at this
    rw [this, Nat.mul_comm v, n_put hv hl]
  unfold pk6
  rcases i6 hi with rfl | rfl | rfl | rfl | rfl | rfl <;> simp only [up, Nat.mul_zero, Nat.mul_one, Nat.reduceMul, Nat.reduceEqDiff, if_true, if_false, Nat.zero_ne_one, Nat.one_ne_zero, reduceIte]
  · have := key (hi' := f 1 + 256 * f 2 + 65536 * f 3 + 16777216 * f 4 + 4294967296 * f 5) (mid := f 0) (lo := 0) (s := 0) h0 (by omega) (by omega)
    simp only [Nat.reducePow, Nat.reduceMul, Nat.reduceAdd, Nat.pow_zero, Nat.one_mul, Nat.add_zero, Nat.mul_one, Nat.zero_add] at this ⊢
    rw [show f 0 + 256 * f 1 + 65536 * f 2 + 16777216 * f 3 + 4294967296 * f 4 + 1099511627776 * f 5 = 256 * (f 1 + 256 * f 2 + 65536 * f 3 + 16777216 * f 4 + 4294967296 * f 5) + f 0 by omega, this]; omega
  · have := key (hi' := f 2 + 256 * f 3 + 65536 * f 4 + 16777216 * f 5) (mid := f 1) (lo := f 0) (s := 8) h1 (by omega) (by omega)
    simp only [Nat.reducePow, Nat.reduceMul, Nat.reduceAdd] at this ⊢
    rw [show f 0 + 256 * f 1 + 65536 * f 2 + 16777216 * f 3 + 4294967296 * f 4 + 1099511627776 * f 5 = 65536 * (f 2 + 256 * f 3 + 65536 * f 4 + 16777216 * f 5) + (256 * f 1 + f 0) by omega, this]; omega
  · have := key (hi' := f 3 + 256 * f 4 + 65536 * f 5) (mid := f 2) (lo := f 0 + 256 * f 1) (s := 16) h2 (by omega) (by omega)
    simp only [Nat.reducePow, Nat.reduceMul, Nat.reduceAdd] at this ⊢
    rw [show f 0 + 256 * f 1 + 65536 * f 2 + 16777216 * f 3 + 4294967296 * f 4 + 1099511627776 * f 5 = 16777216 * (f 3 + 256 * f 4 + 65536 * f 5) + (65536 * f 2 + (f 0 + 256 * f 1)) by omega, this]; omega
  · have := key (hi' := f 4 + 256 * f 5) (mid := f 3) (lo := f 0 + 256 * f 1 + 65536 * f 2) (s := 24) h3 (by omega) (by omega)
    simp only [Nat.reducePow, Nat.reduceMul, Nat.reduceAdd] at this ⊢
    rw [show f 0 + 256 * f 1 + 65536 * f 2 + 16777216 * f 3 + 4294967296 * f 4 + 1099511627776 * f 5 = 4294967296 * (f 4 + 256 * f 5) + (16777216 * f 3 + (f 0 + 256 * f 1 + 65536 * f 2)) by omega, this]; omega
  · have := key (hi' := f 5) (mid := f 4) (lo := f 0 + 256 * f 1 + 65536 * f 2 + 16777216 * f 3) (s := 32) h4 (by omega) (by omega)
    simp only [Nat.reducePow, Nat.reduceMul, Nat.reduceAdd] at this ⊢
    rw [show f 0 + 256 * f 1 + 65536 * f 2 + 16777216 * f 3 + 4294967296 * f 4 + 1099511627776 * f 5 = 1099511627776 * f 5 + (4294967296 * f 4 + (f 0 + 256 * f 1 + 65536 * f 2 + 16777216 * f 3)) by omega, this]; omega
  · have := key (hi' := 0) (mid := f 5) (lo := f 0 + 256 * f 1 + 65536 * f 2 + 16777216 * f 3 + 4294967296 * f 4) (s := 40) h5 (by omega) (by omega)
    simp only [Nat.mul_zero, Nat.zero_add, Nat.reducePow, Nat.reduceMul, Nat.reduceAdd] at this ⊢
    rw [show f 0 + 256 * f 1 + 65536 * f 2 + 16777216 * f 3 + 4294967296 * f 4 + 1099511627776 * f 5 = 1099511627776 * f 5 + (f 0 + 256 * f 1 + 65536 * f 2 + 16777216 * f 3 + 4294967296 * f 4) by omega, this]; omega
def W2 (W : Nat → Nat) (no a b : Nat) : Nat → Nat := up (up W (2 * no) a) (2 * no + 1) b
theorem c_hear {σ : qH} {g : Nat} {W : Nat → Nat} {no : Nat} {w : Int64} {a b c : Int32} (hg : σ.1 g = some (grC W no w a b c)) (hno : no ≤ 6) (hW : ∀ i, W (2 * i) < 32 ∧ W (2 * i + 1) ≤ 45) {s t : Nat} (hs : s < 32) (ht : t ≤ 45) :
    q_call 127 [.ref g, .int (nI s), .int (nI t)] σ = if no < 6 then some (some (.int (nI 1)), q_upd σ g (grC (W2 W no s t) (no + 1) w a b c)) else some (some (.int (nI 0)), σ) := by
  have hg' : σ.1 g = some (grR (lN (pk6 (fun i => W (2 * i)))) (lN (pk6 (fun i => W (2 * i + 1)))) w (nI no) a b c) := hg
  have r3 : ∀ {σ : qH} {s t w o a b c}, σ.1 g = some (grR s t w o a b c) → q_getI σ (.ref g) 1 3 = some o := fun h => g_I h rfl
  have r0 : ∀ {σ : qH} {s t w o a b c}, σ.1 g = some (grR s t w o a b c) → q_getL σ (.ref g) 1 0 = some s := fun h => g_L h rfl
  have r1 : ∀ {σ : qH} {s t w o a b c}, σ.1 g = some (grR s t w o a b c) → q_getL σ (.ref g) 1 1 = some t := fun h => g_L h rfl
  rw [k_127 hg, e_127_0, r3 hg', q_obS]
  by_cases h6 : no < 6
  · rw [if_pos (nI_lt h6 (by decide)), if_pos h6, r0 hg', q_obS, q_obS, c_withLane6 (fun i _ => by have := (hW i).1; omega) h6 (by omega), q_cLS, q_obS]
    dsimp only
    rw [p_F hg' (show 0 < 7 by decide) rfl, q_obS]
    generalize hσ1 : q_upd σ g (.inl (1, List.set _ 0 _)) = σ1
    have g1 : σ1.1 g = some (grR (lN (pk6 (up (fun i => W (2 * i)) no s))) (lN (pk6 (fun i => W (2 * i + 1)))) w (nI no) a b c) := by rw [← hσ1]; exact u_s ..
    rw [r1 g1, q_obS, r3 g1, q_obS, c_withLane6 (fun i _ => by have := (hW i).2; omega) h6 (by omega), q_cLS, q_obS]
    dsimp only
    rw [p_F g1 (show 1 < 7 by decide) rfl, q_obS]
    generalize hσ2 : q_upd σ1 g (.inl (1, List.set _ 1 _)) = σ2
    have g2 : σ2.1 g = some (grR (lN (pk6 (up (fun i => W (2 * i)) no s))) (lN (pk6 (up (fun i => W (2 * i + 1)) no t))) w (nI no) a b c) := by rw [← hσ2]; exact u_s ..
    rw [r3 g2, q_obS, nI_add, p_F g2 (show 3 < 7 by decide) rfl, q_obS, ← hσ2, ← hσ1, u_u, u_u]
    congr 3
    have ea : pk6 (up (fun i => W (2 * i)) no s) = pk6 (fun i => W2 W no s t (2 * i)) := pk6_congr fun i hi => by
      unfold W2 up
      dsimp only
      by_cases e : i = no
      · subst e; rw [if_pos rfl, if_neg (by omega), if_pos rfl]
      · rw [if_neg e, if_neg (by omega), if_neg (by omega)]
    have eb : pk6 (up (fun i => W (2 * i + 1)) no t) = pk6 (fun i => W2 W no s t (2 * i + 1)) := pk6_congr fun i hi => by
      unfold W2 up
      dsimp only
      by_cases e : i = no
      · subst e; rw [if_pos rfl, if_pos rfl]
      · rw [if_neg e, if_neg (by omega), if_neg (by omega)]
    unfold grC
    rw [← ea, ← eb]
    rfl
  · rw [if_neg (fun q => h6 ((nI_ltI (by omega) (by decide)).mp q)), if_neg h6]
theorem n_shl1 {k : Nat} (hk : k ≤ 5) : nI 1 <<< (nI k &&& 31) = nI (2 ^ k) := by
  have := pow_le5 hk
  rw [n_shl (by omega) (by omega), Nat.one_mul]
theorem dec_and (p q : Prop) [Decidable p] [Decidable q] (h : p ↔ q) : decide p = decide q := by
  by_cases h1 : p
  · rw [decide_eq_true h1, decide_eq_true (h.mp h1)]
  · rw [decide_eq_false h1, decide_eq_false (fun g => h1 (h.mpr g))]
theorem o_tells {σ : qH} {x : Nat} (h : QV σ x) (s t : Int32) : QO σ x 128 129 [.int s, .int t] := by
  obtain ⟨p, tx, n, T, P, Hs, kn, I, kp, W, no, tr, C, D, z, zz, hC, hD, hX, hM, hQ, h0, ⟨hp, hpo⟩, he, ⟨hz, z0, z1, z2⟩, m0, m2, m4⟩ := h.facts
  obtain ⟨w, a, b, c, hg0⟩ := hX.2.2.2.2.2.2.2.2.2.1
  obtain ⟨b1, b2, hT, hP, b5, b6, b7, hno, hW⟩ := hQ
  have t1 := hT.2.1
  have hpw := pow_le5 t1
  have hp0 := Nat.two_pow_pos (T 1)
  have hg : σ.1 (x + 18) = some (grC W no w a b c) := by rw [← hg0]; exact hC.at 18 (by decide) (by decide)
  have m8 : σ.1 (x + 24 + 8) = some (iA 12 W) := by rw [← hM.2.2.2.2.2.2.2.2.1]; exact hD 8 (by decide)
  have em : ∀ {r : Option qR}, (0 ≤ s ∧ s < nI (2 ^ T 1)) ∧ (nI 1 ≤ s) → (0 ≤ t ∧ t < nI 46) → True := fun _ _ => trivial
  by_cases hs : (nI 1 ≤ s ∧ s ≤ nI (2 ^ T 1) - nI 1)
  · rw [pk_sub hp0] at hs
    obtain ⟨i, hi, rfl⟩ : ∃ i, i < 2 ^ T 1 ∧ s = nI i := by
      rcases n_in (x := s) (N := 2 ^ T 1) (by omega) with g | ⟨g | g, -⟩
      · exact g
      · exact absurd (Int32.lt_of_le_of_lt hs.1 g) (by decide)
      · have := (nI_leI (by omega) (by omega)).mp (Int32.le_trans g hs.2); omega
    have hi1 : 1 ≤ i := (nI_leI (by omega) (by omega)).mp hs.1
    by_cases ht : (nI 0 ≤ t ∧ t ≤ nI 45)
    · obtain ⟨j, hj, rfl⟩ : ∃ j, j < 46 ∧ t = nI j := by
        rcases n_in (x := t) (N := 46) (by decide) with g | ⟨g | g, -⟩
        · exact g
        · exact absurd g (Int32.not_lt.mpr ht.1)
        · exact absurd (Int32.le_trans g ht.2) (by decide)
      have hh := c_hear hg hno hW (s := i) (t := j) (by omega) (by omega)
      by_cases h6 : no < 6
      · rw [if_pos h6] at hh
        generalize hσ1 : q_upd σ (x + 18) (grC (W2 W no i j) (no + 1) w a b c) = σ1 at hh
        have h01 : σ1.1 x = some (xC x p n (bits kp 2) tr) := by rw [← hσ1]; exact (u_n _ _ (by omega)).trans h0
        have hg1 : σ1.1 (x + 18) = some (grC (W2 W no i j) (no + 1) w a b c) := by rw [← hσ1]; exact u_s ..
        have n0 : σ1.1 (x + 24) = some (mC (x + 24) tr z) := by rw [← hσ1]; exact (u_n _ _ (by omega)).trans m0
        have n2 : σ1.1 (x + 24 + 2) = some (iA 35 T) := by rw [← hσ1]; exact (u_n _ _ (by omega)).trans m2
        have n8 : σ1.1 (x + 24 + 8) = some (iA 12 W) := by rw [← hσ1]; exact (u_n _ _ (by omega)).trans m8
        have n0a : (q_upd σ1 (x + 24 + 8) (iA 12 (up W (2 * no) i))).1 (x + 24) = some (mC (x + 24) tr z) := (u_n _ _ (by omega)).trans n0
        have n8a : (q_upd σ1 (x + 24 + 8) (iA 12 (up W (2 * no) i))).1 (x + 24 + 8) = some (iA 12 (up W (2 * no) i)) := u_s ..
        have n0b : (q_upd σ1 (x + 24 + 8) (iA 12 (W2 W no i j))).1 (x + 24) = some (mC (x + 24) tr z) := (u_n _ _ (by omega)).trans n0
        have n0c : (q_upd (q_upd σ1 (x + 24 + 8) (iA 12 (W2 W no i j))) (x + 24) (mC (x + 24) tr (upI z 2 (nI (no + 1))))).1 (x + 24) = some (mC (x + 24) tr (upI z 2 (nI (no + 1)))) := u_s ..
        refine QO.mk (v := .int (nI (no + 1))) (σ1 := σ1) (σ' := q_upd (q_upd σ1 (x + 24 + 8) (iA 12 (W2 W no i j))) (x + 24) (mC (x + 24) tr (upI z 2 (nI (no + 1))))) ?_ ?_ ⟨p, tx, n, T, P, Hs, kn, I, kp, W2 W no i j, no + 1, tr, upC C 18 (grC (W2 W no i j) (no + 1) w a b c), upC (upC D 8 (iA 12 (W2 W no i j))) 0 (mC (x + 24) tr (upI z 2 (nI (no + 1)))), ?_, ?_, hX.up18 ⟨w, a, b, c, rfl⟩, ?_, ⟨b1, b2, hT, hP, b5, b6, b7, by omega, fun k => ?_⟩⟩ (by rw [← hσ1]; rfl) (fun a ha => ?_)
        · rw [k_128 h0, e_128_0, if_neg (Int32.not_lt.mpr hs.1), x_plan h0, q_obS, pl_flocks hp, q_obS, n_shl1 t1, if_neg (fun q => absurd ((nI_leI (by omega) (by omega)).mp q) (by omega)), if_neg (show ¬ nI j < nI 0 from nI_pos (by omega)), if_pos (nI_le (by omega) (by decide)), x_grazing h0, q_obS, hh, q_cIS, q_obS]
          dsimp only
          rw [if_neg (show ¬ nI 1 = nI 0 by decide), x_grazing h01, q_obS, g_I (x := nI (no + 1)) hg1 rfl, q_obS]
        · rw [k_129 n0, e_129_0, m_told n0, q_obS, a_rd n2 (by decide) (by decide), q_obS, n_shl1 t1, pk_sub hp0, m_in, q_cIS, q_obS]
          dsimp only
          rw [decide_eq_true hs, if_neg (show ¬ nI (true.toNat) = nI 0 by decide), m_in, q_cIS, q_obS]
          dsimp only
          rw [decide_eq_true ht, if_neg (show ¬ nI (true.toNat) = nI 0 by decide), m_noted n0, q_obS, z2, if_neg (fun q => absurd ((nI_eq (by omega) (by decide)).mp q) (by omega)), m_notes n0, q_obS, q_obS, pk_mul, a_wr n8 (by omega) (by decide), q_obS, m_notes n0a, q_obS, m_noted n0a, q_obS, z2, pk_mul, nI_add, a_wr n8a (by omega) (by decide), q_obS, u_u]
          rw [show up (up W (2 * no) i) (2 * no + 1) j = W2 W no i j from rfl, m_noted n0b, q_obS, z2, nI_add, mp_noted n0b, q_obS, m_noted n0c, q_obS]
          rfl
        · rw [← hσ1]; exact ((hC.upd (k := 18) (by decide) (by decide) _).m (k := 8) (by decide) _).m (k := 0) (by decide) _
        · rw [← hσ1]; exact ((hD.x (k := 18) (by decide) _).upd (k := 8) _).upd (k := 0) _
        · obtain ⟨-, d1, d2, d3, d4, d5, d6, d7, d8, d9⟩ := hM
          exact ⟨⟨upI z 2 (nI (no + 1)), rfl, z0, z1, rfl⟩, d1, d2, d3, d4, d5, d6, d7, rfl, d9⟩
        · have hk := hW k
          unfold W2 up
          refine ⟨?_, ?_⟩
          · rw [if_neg (by omega)]; split <;> omega
          · split
            · omega
            · rw [if_neg (by omega)]; exact hk.2
        · rw [u_n _ _ (by omega), u_n _ _ (by omega), ← hσ1, u_n _ _ (by omega)]
      · rw [if_neg h6] at hh
        refine QO.ro (v := .int (-3)) h ?_ ?_
        · rw [k_128 h0, e_128_0, if_neg (Int32.not_lt.mpr hs.1), x_plan h0, q_obS, pl_flocks hp, q_obS, n_shl1 t1, if_neg (fun q => absurd ((nI_leI (by omega) (by omega)).mp q) (by omega)), if_neg (show ¬ nI j < nI 0 from nI_pos (by omega)), if_pos (nI_le (by omega) (by decide)), x_grazing h0, q_obS, hh, q_cIS, q_obS]
          rfl
        · rw [k_129 m0, e_129_0, m_told m0, q_obS, a_rd m2 (by decide) (by decide), q_obS, n_shl1 t1, pk_sub hp0, m_in, q_cIS, q_obS]
          dsimp only
          rw [decide_eq_true hs, if_neg (show ¬ nI (true.toNat) = nI 0 by decide), m_in, q_cIS, q_obS]
          dsimp only
          rw [decide_eq_true ht, if_neg (show ¬ nI (true.toNat) = nI 0 by decide), m_noted m0, q_obS, z2, if_pos (by rw [show no = 6 by omega])]
    · refine QO.ro (v := .int (-1)) h ?_ ?_
      · rw [k_128 h0, e_128_0, if_neg (Int32.not_lt.mpr hs.1), x_plan h0, q_obS, pl_flocks hp, q_obS, n_shl1 t1, if_neg (fun q => absurd ((nI_leI (by omega) (by omega)).mp q) (by omega))]
        by_cases g : t < nI 0
        · rw [if_pos g, e_128_28]
        · rw [if_neg g, if_neg (fun q => ht ⟨Int32.not_lt.mp g, q⟩), e_128_28]
      · rw [k_129 m0, e_129_0, m_told m0, q_obS, a_rd m2 (by decide) (by decide), q_obS, n_shl1 t1, pk_sub hp0, m_in, q_cIS, q_obS]
        dsimp only
        rw [decide_eq_true hs, if_neg (show ¬ nI (true.toNat) = nI 0 by decide), m_in, q_cIS, q_obS]
        dsimp only
        rw [decide_eq_false ht, if_pos (show nI (false.toNat) = nI 0 from rfl), e_129_28]
  · refine QO.ro (v := .int (-1)) h ?_ ?_
    · rw [k_128 h0, e_128_0]
      by_cases g : s < nI 1
      · rw [if_pos g, e_128_28]
      · rw [if_neg g, x_plan h0, q_obS, pl_flocks hp, q_obS, n_shl1 t1, if_pos, e_128_28]
        rw [pk_sub hp0] at hs
        rcases n_in (x := s) (N := 2 ^ T 1) (by omega) with ⟨i, hi, rfl⟩ | ⟨g2 | g2, -⟩
        · exact absurd ⟨Int32.not_lt.mp g, nI_le (by omega) (by omega)⟩ hs
        · exact absurd (Int32.lt_of_le_of_lt (Int32.not_lt.mp g) g2) (by decide)
        · exact g2
    · rw [k_129 m0, e_129_0, m_told m0, q_obS, a_rd m2 (by decide) (by decide), q_obS, n_shl1 t1, m_in, q_cIS, q_obS]
      dsimp only
      rw [decide_eq_false hs, if_pos (show nI (false.toNat) = nI 0 from rfl), e_129_28]
