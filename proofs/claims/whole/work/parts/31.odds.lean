/-! ===== odds ===== -/
theorem cnt_ext {c : Nat → Bool} : ∀ {m n : Nat}, n ≤ m → (∀ i, n ≤ i → c i = false) → cnt c m = cnt c n
  | 0, n, h, _ => by rw [Nat.le_zero.mp h]
  | m + 1, n, h, hc => by
    by_cases e : n = m + 1
    · rw [e]
    · show cnt c m + (c m).toNat = _
      rw [hc m (by omega), cnt_ext (n := n) (by omega) hc]; rfl
theorem ones_F {a n : Nat} (hn : n ≤ 5) (ha : a < 2 ^ n) : ones a = cnt (fun i => a.testBit i) n := cnt_ext hn fun i hi => tb_ge ha hi
def prN (x s : Nat) : Nat → Nat
  | 0 => 1
  | i + 1 => prN x s i * (if s.testBit i then x else 10 - x)
theorem prN_eq (x s : Nat) : ∀ i, prN x s i = x ^ cnt (fun i => s.testBit i) i * (10 - x) ^ (i - cnt (fun i => s.testBit i) i)
  | 0 => rfl
  | i + 1 => by
    have hc := cnt_le (fun i => s.testBit i) i
    have e : cnt (fun i => s.testBit i) (i + 1) = cnt (fun i => s.testBit i) i + (s.testBit i).toNat := rfl
    show prN x s i * _ = _
    rw [prN_eq x s i, e]
    cases s.testBit i with
    | true =>
      rw [if_pos rfl, show true.toNat = 1 from rfl, Nat.pow_succ, show i + 1 - (cnt (fun i => s.testBit i) i + 1) = i - cnt (fun i => s.testBit i) i by omega]
      rw [Nat.mul_assoc, Nat.mul_assoc, Nat.mul_comm x]
    | false =>
      rw [if_neg (by decide), show false.toNat = 0 from rfl, Nat.add_zero, show i + 1 - cnt (fun i => s.testBit i) i = (i - cnt (fun i => s.testBit i) i) + 1 by omega, Nat.pow_succ, Nat.mul_assoc]
theorem prN_le {x : Nat} (hx : x ≤ 10) (s : Nat) : ∀ i, prN x s i ≤ 10 ^ i
  | 0 => Nat.le_refl _
  | i + 1 => by
    show prN x s i * _ ≤ 10 ^ i * 10
    exact Nat.mul_le_mul (prN_le hx s i) (by split <;> omega)
def oddN (x k F : Nat) : Nat → Nat := sumN (fun s => if ones s ≤ k then prN x s F else 0)
theorem c_power (b e : Nat) (he : e ≤ 5) (σ : qH) : q_call 123 [.int (nI b), .int (nI e)] σ = some (some (.int (nI (b ^ e))), σ) := by
  rw [k_123, e_123_0]
  refine (q_for (fun i => q_run 123 4 [(0, .int (nI b)), (1, .int (nI e)), (2, .int (nI (b ^ i))), (3, .int (nI i))] [] σ) e (fun i hi => ?_)).trans ?_
  · try dsimp only
    rw [e_123_4, if_neg (nI_ge hi (by omega)), pk_mul, nI_add, Nat.pow_succ]
  · try dsimp only
    rw [e_123_4, if_pos (nI_le (Nat.le_refl _) (by omega))]
theorem gcd_st (a b : Nat) : Nat.gcd b (a % b) = Nat.gcd a b := by
  rw [Nat.gcd_comm a b, Nat.gcd_rec b a, Nat.gcd_comm]
theorem half_lt {b r k : Nat} (h : b < 2 ^ (k + 1)) (hr : r < b) (h0 : 0 < r) : b % r < 2 ^ k := by
  have h1 := Nat.mod_lt b h0
  have h2 := Nat.div_add_mod b r
  have h3 : 1 ≤ b / r := Nat.div_pos (by omega) h0
  have h4 : r * 1 ≤ r * (b / r) := Nat.mul_le_mul_left r h3
  rw [Nat.pow_succ] at h
  omega
theorem c_gcd : ∀ k t a b : Nat, b < 2 ^ k → t + 2 * k + 2 ≤ 100 → a < 2 ^ 31 → b < 2 ^ 31 → ∀ σ : qH, q_run 124 7 [(2, .int (nI a)), (3, .int (nI b)), (4, .int (nI t))] [] σ = some (some (.int (nI (Nat.gcd a b))), σ)
  | 0, t, a, b, hb, ht, ha, hb2, σ => by
    have e : b = 0 := by omega
    subst e
    rw [e_124_7, if_neg (nI_ge (show t < 100 by omega) (by omega)), if_pos rfl, e_124_34, Nat.gcd_zero_right]
  | k + 1, t, a, b, hb, ht, ha, hb2, σ => by
    rw [e_124_7, if_neg (nI_ge (show t < 100 by omega) (by omega))]
    by_cases h0 : b = 0
    · subst h0; rw [if_pos rfl, e_124_34, Nat.gcd_zero_right]
    · have hn : ¬ nI b = nI 0 := fun q => h0 ((nI_eq hb2 (by decide)).mp q)
      have hm := Nat.mod_lt a (show 0 < b by omega)
      rw [if_neg hn, if_neg hn, pk_rem ha (by omega) hb2, nI_add, e_124_7, if_neg (nI_ge (show t + 1 < 100 by omega) (by omega))]
      by_cases h1 : a % b = 0
      · rw [if_pos (by rw [h1]), e_124_34, ← gcd_st a b, h1, Nat.gcd_zero_right]
      · have hn1 : ¬ nI (a % b) = nI 0 := fun q => h1 ((nI_eq (by omega) (by decide)).mp q)
        rw [if_neg hn1, if_neg hn1, pk_rem hb2 (by omega) (by omega), nI_add, ← gcd_st a b, ← gcd_st b (a % b)]
        have hh := half_lt hb hm (by omega)
        have := Nat.mod_lt b (show 0 < a % b by omega)
        exact c_gcd k (t + 1 + 1) (a % b) (b % (a % b)) hh (by omega) (by omega) (by omega) σ
theorem m_gcd (w u l : Int32) : ∀ n b a : Nat, b ≤ n → a < 2 ^ 31 → b < 2 ^ 31 → 0 < Nat.gcd a b → ∀ σ : qH, q_run 126 159 [(3, .int w), (4, .int u), (5, .int l), (6, .int (nI a)), (7, .int (nI b))] [] σ = if w = nI 0 then some (some (.int (u / nI (Nat.gcd a b))), σ) else some (some (.int (l / nI (Nat.gcd a b))), σ)
  | n, 0, a, hn, ha, hb, hg, σ => by
    rw [Nat.gcd_zero_right] at hg ⊢
    have h0 : ¬ nI a = nI 0 := fun q => absurd ((nI_eq ha (by decide)).mp q) (by omega)
    rw [e_126_159, if_pos (show nI 0 ≤ nI 0 by decide), if_neg h0, if_neg h0]
  | 0, b + 1, a, hn, ha, hb, hg, σ => by omega
  | n + 1, b + 1, a, hn, ha, hb, hg, σ => by
    have h0 : ¬ nI (b + 1) = nI 0 := fun q => absurd ((nI_eq hb (by decide)).mp q) (by omega)
    have hm := Nat.mod_lt a (show 0 < b + 1 by omega)
    rw [e_126_159, if_neg (fun q => absurd ((nI_leI hb (by decide)).mp q) (by omega)), if_neg h0, pk_rem ha (by omega) hb, ← gcd_st a (b + 1)]
    exact m_gcd w u l n (a % (b + 1)) (b + 1) (by omega) hb (by omega) (by rw [gcd_st]; exact hg) σ
theorem oddN_le {x k F : Nat} (hx : x ≤ 10) (hF : F ≤ 5) (n : Nat) : oddN x k F n ≤ n * 100000 := by
  refine sumN_le n fun i _ => ?_
  split
  · exact Nat.le_trans (prN_le hx i F) (Nat.pow_le_pow_right (by decide) hF : 10 ^ F ≤ 10 ^ 5)
  · omega
theorem c_odds {σ : qH} {x p n kp : Nat} {tr : Int64} {T : Nat → Nat} {zz : Int32} (h0 : σ.1 x = some (xC x p n kp tr)) (hp : σ.1 p = some (planC T zz)) (t1 : T 1 ≤ 5) {j k w : Nat} (hj : j ≤ 10) (hk : k ≤ 5) (hw : w ≤ 1) :
    q_call 125 [.ref x, .int (nI j), .int (nI k), .int (nI w)] σ = some (some (.int (if nI w = nI 0 then nI (oddN j k (T 1) (2 ^ T 1)) / nI (Nat.gcd (oddN j k (T 1) (2 ^ T 1)) (10 ^ T 1)) else nI (10 ^ T 1) / nI (Nat.gcd (oddN j k (T 1) (2 ^ T 1)) (10 ^ T 1)))), σ) := by
  have hpw := pow_le5 t1
  have h10 : 10 ^ T 1 ≤ 100000 := (Nat.pow_le_pow_right (by decide) t1 : 10 ^ T 1 ≤ 10 ^ 5)
  have h10p : 0 < 10 ^ T 1 := Nat.pow_pos (by decide)
  rw [k_125 h0, e_125_0, if_neg (show ¬ nI j < nI 0 from nI_pos (by omega)), if_neg (fun q => absurd ((nI_ltI (by decide) (by omega)).mp q) (by omega)), if_neg (show ¬ nI k < nI 0 from nI_pos (by omega)), if_neg (fun q => absurd ((nI_ltI (by decide) (by omega)).mp q) (by omega)), if_neg (show ¬ nI w < nI 0 from nI_pos (by omega)), if_pos (nI_le hw (by decide)), x_plan h0, q_obS, pl_flocks hp, q_obS, c_power 10 _ t1, q_cIS, q_obS]
  dsimp only
  refine (q_for (fun i => q_run 125 50 [(0, .ref x), (1, .int (nI j)), (2, .int (nI k)), (3, .int (nI w)), (4, .int (nI (10 ^ T 1))), (5, .int (nI (oddN j k (T 1) i))), (6, .int (nI i))] [] σ) (2 ^ T 1) (fun i hi => ?_)).trans ?_
  · try dsimp only
    have h1 := ones_le i
    have e1 : oddN j k (T 1) (i + 1) = oddN j k (T 1) i + (if ones i ≤ k then prN j i (T 1) else 0) := rfl
    have e2 := ones_F t1 hi
    have h3 := cnt_le (fun q => i.testBit q) (T 1)
    rw [e_125_50, x_plan h0, q_obS, pl_flocks hp, q_obS, n_shl1 t1, if_neg (nI_ge hi (by omega)), c_bitCount (by omega), q_cIS, q_obS]
    dsimp only
    by_cases g : ones i ≤ k
    · rw [if_neg (fun q => absurd ((nI_ltI (by omega) (by omega)).mp q) (by omega)), c_power _ _ h1, q_cIS, q_obS]
      dsimp only
      rw [x_plan h0, q_obS, pl_flocks hp, q_obS, pk_sub (by omega), pk_sub (by omega), c_power _ _ (by omega), q_cIS, q_obS]
      dsimp only
      rw [pk_mul, nI_add, e_125_106, nI_add, e1, if_pos g, prN_eq, e2]
    · rw [if_pos (nI_lt (show k < ones i by omega) (by omega)), e_125_106, nI_add, e1, if_neg g]
      rfl
  · try dsimp only
    have hu := oddN_le (k := k) hj t1 (2 ^ T 1)
    generalize oddN j k (T 1) (2 ^ T 1) = u at hu
    have hu2 : u < 2 ^ 31 := by omega
    have hg : 0 < Nat.gcd u (10 ^ T 1) := Nat.gcd_pos_of_pos_right _ h10p
    have hgl : Nat.gcd u (10 ^ T 1) ≤ 10 ^ T 1 := Nat.gcd_le_right _ h10p
    rw [e_125_50, x_plan h0, q_obS, pl_flocks hp, q_obS, n_shl1 t1, if_pos (nI_le (Nat.le_refl _) (by omega)), k_124, e_124_0, c_gcd 17 0 u (10 ^ T 1) (by omega) (by decide) hu2 (by omega), q_cIS, q_obS]
    dsimp only
    have hz : ¬ nI (Nat.gcd u (10 ^ T 1)) = nI 0 := fun q => absurd ((nI_eq (by omega) (by decide)).mp q) (by omega)
    rw [if_pos (nI_lt hg (by omega))]
    by_cases g : nI w = nI 0
    · rw [if_pos g, e_125_139, if_neg hz, if_pos g]
    · rw [if_neg g, e_125_139, if_neg hz, if_neg g]
theorem m_odds {σ : qH} {m : Nat} {tr : Int64} {z : Nat → Int32} {T : Nat → Nat} (h0 : σ.1 m = some (mC m tr z)) (h2 : σ.1 (m + 2) = some (iA 35 T)) (t1 : T 1 ≤ 5) {j k w : Nat} (hj : j ≤ 10) (hk : k ≤ 5) (hw : w ≤ 1) :
    q_call 126 [.ref m, .int (nI j), .int (nI k), .int (nI w)] σ = some (some (.int (if nI w = nI 0 then nI (oddN j k (T 1) (2 ^ T 1)) / nI (Nat.gcd (oddN j k (T 1) (2 ^ T 1)) (10 ^ T 1)) else nI (10 ^ T 1) / nI (Nat.gcd (oddN j k (T 1) (2 ^ T 1)) (10 ^ T 1)))), σ) := by
  have hpw := pow_le5 t1
  have h10 : 10 ^ T 1 ≤ 100000 := (Nat.pow_le_pow_right (by decide) t1 : 10 ^ T 1 ≤ 10 ^ 5)
  have h10p : 0 < 10 ^ T 1 := Nat.pow_pos (by decide)
  rw [k_126 h0, e_126_0, m_in, q_cIS, q_obS]
  dsimp only
  rw [decide_eq_true ⟨nI_le (Nat.zero_le _) (by omega), nI_le hj (by decide)⟩, if_neg (show ¬ nI (true.toNat) = nI 0 by decide), m_in, q_cIS, q_obS]
  dsimp only
  rw [decide_eq_true ⟨nI_le (Nat.zero_le _) (by omega), nI_le hk (by decide)⟩, if_neg (show ¬ nI (true.toNat) = nI 0 by decide), m_in, q_cIS, q_obS]
  dsimp only
  rw [decide_eq_true ⟨nI_le (Nat.zero_le _) (by omega), nI_le hw (by decide)⟩, if_neg (show ¬ nI (true.toNat) = nI 0 by decide)]
  refine (q_for (fun i => q_run 126 39 [(0, .ref m), (1, .int (nI j)), (2, .int (nI k)), (3, .int (nI w)), (4, .int (nI 0)), (5, .int (nI (10 ^ i))), (6, .int (nI i))] [] σ) (T 1) (fun i hi => ?_)).trans ?_
  · try dsimp only
    rw [e_126_39, m_told h0, q_obS, a_rd h2 (by decide) (by decide), q_obS, if_neg (nI_ge hi (by omega)), pk_mul, nI_add, Nat.pow_succ]
  try dsimp only
  rw [e_126_39, m_told h0, q_obS, a_rd h2 (by decide) (by decide), q_obS, if_pos (nI_le (Nat.le_refl _) (by omega))]
  refine (q_for (fun i => q_run 126 66 [(0, .ref m), (1, .int (nI j)), (2, .int (nI k)), (3, .int (nI w)), (4, .int (nI (oddN j k (T 1) i))), (5, .int (nI (10 ^ T 1))), (6, .int (nI i))] [] σ) (2 ^ T 1) (fun i hi => ?_)).trans ?_
  · try dsimp only
    have h1 := ones_le i
    have e1 : oddN j k (T 1) (i + 1) = oddN j k (T 1) i + (if ones i ≤ k then prN j i (T 1) else 0) := rfl
    rw [e_126_66, m_told h0, q_obS, a_rd h2 (by decide) (by decide), q_obS, n_shl1 t1, if_neg (nI_ge hi (by omega))]
    refine (q_for (fun q => q_run 126 85 [(0, .ref m), (1, .int (nI j)), (2, .int (nI k)), (3, .int (nI w)), (4, .int (nI (oddN j k (T 1) i))), (5, .int (nI (10 ^ T 1))), (6, .int (nI i)), (7, .int (nI (prN j i q))), (8, .int (nI q))] [] σ) (T 1) (fun q hq => ?_)).trans ?_
    · try dsimp only
      have e2 : prN j i (q + 1) = prN j i q * (if i.testBit q then j else 10 - j) := rfl
      rw [e_126_85, m_told h0, q_obS, a_rd h2 (by decide) (by decide), q_obS, if_neg (nI_ge hq (by omega)), m_has (by omega) (by omega), q_cIS, q_obS, e2]
      dsimp only
      cases i.testBit q with
      | true => rw [if_neg (show ¬ nI (true.toNat) = nI 0 by decide), e_126_116, pk_mul, nI_add, if_pos rfl]
      | false => rw [if_pos (show nI (false.toNat) = nI 0 from rfl), pk_sub hj, e_126_116, pk_mul, nI_add, if_neg (by decide)]
    · try dsimp only
      rw [e_126_85, m_told h0, q_obS, a_rd h2 (by decide) (by decide), q_obS, if_pos (nI_le (Nat.le_refl _) (by omega)), m_ones (by omega), q_cIS, q_obS, e1]
      dsimp only
      by_cases g : ones i ≤ k
      · rw [if_neg (fun q => absurd ((nI_ltI (by omega) (by omega)).mp q) (by omega)), e_126_142, nI_add, nI_add, if_pos g]
      · rw [if_pos (nI_lt (show k < ones i by omega) (by omega)), e_126_142, nI_add, nI_add, if_neg g]
  · try dsimp only
    have hu := oddN_le (k := k) hj t1 (2 ^ T 1)
    generalize oddN j k (T 1) (2 ^ T 1) = u at hu
    have hu2 : u < 2 ^ 31 := by omega
    have hg : 0 < Nat.gcd u (10 ^ T 1) := Nat.gcd_pos_of_pos_right _ h10p
    rw [e_126_66, m_told h0, q_obS, a_rd h2 (by decide) (by decide), q_obS, n_shl1 t1, if_pos (nI_le (Nat.le_refl _) (by omega)), m_gcd _ _ _ (10 ^ T 1) (10 ^ T 1) u (Nat.le_refl _) hu2 (by omega) hg]
    by_cases g : nI w = nI 0
    · rw [if_pos g, if_pos g]
    · rw [if_neg g, if_neg g]
theorem n_upto {y : Int32} {N : Nat} (hN : N < 2 ^ 30) (h : nI 0 ≤ y ∧ y ≤ nI N) : ∃ j, j ≤ N ∧ y = nI j := by
  rcases n_in (x := y) (N := N + 1) (by omega) with ⟨j, hj, e⟩ | ⟨g | g, -⟩
  · exact ⟨j, by omega, e⟩
  · exact absurd g (Int32.not_lt.mpr h.1)
  · have := (nI_leI (by omega) (by omega)).mp (Int32.le_trans g h.2); omega
theorem o_odds {σ : qH} {x : Nat} (h : QV σ x) (a k w : Int32) : QO σ x 125 126 [.int a, .int k, .int w] := by
  obtain ⟨p, tx, n, T, P, Hs, kn, I, kp, W, no, tr, C, D, hC, hD, hX, hM, hQ⟩ := id h
  obtain ⟨h0, ⟨zz, hp⟩, hpo, he, -⟩ := hX.f hC
  obtain ⟨z, m0, -, m2, m4⟩ := hM.f hD
  have t1 := hQ.2.2.1.2.1
  by_cases ha : nI 0 ≤ a ∧ a ≤ nI 10
  · by_cases hk : nI 0 ≤ k ∧ k ≤ nI 5
    · by_cases hw : nI 0 ≤ w ∧ w ≤ nI 1
      · obtain ⟨j, hj, rfl⟩ := n_upto (by decide) ha
        obtain ⟨k, hk2, rfl⟩ := n_upto (by decide) hk
        obtain ⟨w, hw2, rfl⟩ := n_upto (by decide) hw
        exact QO.ro h (c_odds h0 hp t1 hj hk2 hw2) (m_odds m0 m2 t1 hj hk2 hw2)
      · refine QO.ro (v := .int (-1)) h ?_ ?_
        · rw [k_125 h0, e_125_0, if_neg (Int32.not_lt.mpr ha.1), if_neg (Int32.not_lt.mpr ha.2), if_neg (Int32.not_lt.mpr hk.1), if_neg (Int32.not_lt.mpr hk.2)]
          by_cases g : w < nI 0
          · rw [if_pos g, e_125_28]
          · rw [if_neg g, if_neg (fun q => hw ⟨Int32.not_lt.mp g, q⟩), e_125_28]
        · rw [k_126 m0, e_126_0, m_in, q_cIS, q_obS]
          dsimp only
          rw [decide_eq_true ha, if_neg (show ¬ nI (true.toNat) = nI 0 by decide), m_in, q_cIS, q_obS]
          dsimp only
          rw [decide_eq_true hk, if_neg (show ¬ nI (true.toNat) = nI 0 by decide), m_in, q_cIS, q_obS]
          dsimp only
          rw [decide_eq_false hw, if_pos (show nI (false.toNat) = nI 0 from rfl), e_126_28]
    · refine QO.ro (v := .int (-1)) h ?_ ?_
      · rw [k_125 h0, e_125_0, if_neg (Int32.not_lt.mpr ha.1), if_neg (Int32.not_lt.mpr ha.2)]
        by_cases g : k < nI 0
        · rw [if_pos g, e_125_28]
        · rw [if_neg g, if_pos (Int32.not_le.mp fun q => hk ⟨Int32.not_lt.mp g, q⟩), e_125_28]
      · rw [k_126 m0, e_126_0, m_in, q_cIS, q_obS]
        dsimp only
        rw [decide_eq_true ha, if_neg (show ¬ nI (true.toNat) = nI 0 by decide), m_in, q_cIS, q_obS]
        dsimp only
        rw [decide_eq_false hk, if_pos (show nI (false.toNat) = nI 0 from rfl), e_126_28]
  · refine QO.ro (v := .int (-1)) h ?_ ?_
    · rw [k_125 h0, e_125_0]
      by_cases g : a < nI 0
      · rw [if_pos g, e_125_28]
      · rw [if_neg g, if_pos (Int32.not_le.mp fun q => ha ⟨Int32.not_lt.mp g, q⟩), e_125_28]
    · rw [k_126 m0, e_126_0, m_in, q_cIS, q_obS]
      dsimp only
      rw [decide_eq_false ha, if_pos (show nI (false.toNat) = nI 0 from rfl), e_126_28]
