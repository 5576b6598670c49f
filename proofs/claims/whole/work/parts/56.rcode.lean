/-! ===== the way back: the reference's numbers of houses, its first drive ===== -/
/-- flocks i .. i + d - 1 as a number to the base 5 -/
def cdF (S : Nat → Nat) : Nat → Nat → Nat
  | _, 0 => 0
  | i, d + 1 => 5 * cdF S (i + 1) d + S i
def cod (T S : Nat → Nat) : Nat := cdF S 0 (T 1)
theorem cdF_lt {S : Nat → Nat} (h : ∀ j, j < 5 → S j < 5) : ∀ d i, i + d ≤ 5 → cdF S i d < 5 ^ d
  | 0, i, _ => Nat.one_pos
  | d + 1, i, hi => by
    have h1 := cdF_lt h d (i + 1) (by omega)
    have h2 := h i (by omega)
    show 5 * cdF S (i + 1) d + S i < _
    rw [Nat.pow_succ]; omega
theorem cod_lt {T S : Nat → Nat} (h1 : T 1 ≤ 5) (h : ∀ j, j < 5 → S j < 5) : cod T S < 5 ^ T 1 := cdF_lt h (T 1) 0 (by omega)
theorem pow5_le {n : Nat} (h : n ≤ 5) : 5 ^ n ≤ 3125 := (Nat.pow_le_pow_right (by decide) h : 5 ^ n ≤ 5 ^ 5)
theorem cdF_congr {S R : Nat → Nat} : ∀ d i, (∀ j, i ≤ j → j < i + d → S j = R j) → cdF S i d = cdF R i d
  | 0, i, _ => rfl
  | d + 1, i, h => by
    show 5 * cdF S (i + 1) d + S i = 5 * cdF R (i + 1) d + R i
    rw [cdF_congr d (i + 1) fun j h1 h2 => h j (by omega) (by omega), h i (Nat.le_refl _) (by omega)]
/-- the first k flocks by a number's digits -/
def plc (S : Nat → Nat) (c k : Nat) : Nat → Nat := fun j => if j < k then c / 5 ^ j % 5 else S j
theorem plc_s (S : Nat → Nat) (c k : Nat) : up (plc S c k) k (c / 5 ^ k % 5) = plc S c (k + 1) := by
  funext j
  unfold up plc
  by_cases e : j = k
  · rw [if_pos e, if_pos (by omega), e]
  · rw [if_neg e]
    by_cases h : j < k
    · rw [if_pos h, if_pos (by omega)]
    · rw [if_neg h, if_neg (by omega)]
theorem plc_cod {S : Nat → Nat} {c : Nat} : ∀ d i k, i + d = k → c / 5 ^ i < 5 ^ d → cdF (plc S c k) i d = c / 5 ^ i
  | 0, i, k, h, h2 => by
    have h3 : c / 5 ^ i < 1 := h2
    exact (Nat.lt_one_iff.mp h3).symm
  | d + 1, i, k, h, h2 => by
    have e : c / 5 ^ (i + 1) = c / 5 ^ i / 5 := by rw [Nat.pow_succ, Nat.div_div_eq_div_mul]
    have h3 : c / 5 ^ (i + 1) < 5 ^ d := by
      rw [e]; rw [Nat.pow_succ] at h2; omega
    show 5 * cdF (plc S c k) (i + 1) d + plc S c k i = _
    rw [plc_cod d (i + 1) k (by omega) h3, e, show plc S c k i = c / 5 ^ i % 5 from if_pos (by omega)]
    omega
theorem digit_cdF {S : Nat → Nat} (h : ∀ j, j < 5 → S j < 5) : ∀ j i d, i + d ≤ 5 → j < d → cdF S i d / 5 ^ j % 5 = S (i + j)
  | 0, i, 0, _, h2 => by omega
  | 0, i, d + 1, h1, h2 => by
    have := h i (by omega)
    show (5 * cdF S (i + 1) d + S i) / 1 % 5 = S i
    rw [Nat.div_one]; omega
  | j + 1, i, 0, _, h2 => by omega
  | j + 1, i, d + 1, h1, h2 => by
    have h3 := h i (by omega)
    show (5 * cdF S (i + 1) d + S i) / 5 ^ (j + 1) % 5 = S (i + (j + 1))
    rw [Nat.pow_succ', ← Nat.div_div_eq_div_mul, show (5 * cdF S (i + 1) d + S i) / 5 = cdF S (i + 1) d by omega, digit_cdF h j (i + 1) d (by omega) (by omega), show i + 1 + j = i + (j + 1) by omega]
theorem fd_congr {T Q : Nat → Nat} {g g' : (Nat → Nat) → Bool} (h : ∀ f r, mv T Q f r → g (up Q f r) = g' (up Q f r)) : fd T Q g = fd T Q g' := by
  have key : ∀ d f, f + d = T 1 → fdF T Q g f d = fdF T Q g' f d := by
    intro d
    induction d with
    | zero => intro f _; rfl
    | succ d ih =>
      intro f hf
      have e : fdR T Q g f = fdR T Q g' f := lowF_congr fun r _ hr => by
        try dsimp only
        cases hm : mvB T Q f r with
        | false => rfl
        | true => rw [h f r ⟨by omega, by omega, hm⟩]
      unfold fdF
      rw [e, ih (f + 1) (by omega)]
  exact key (T 1) 0 (by omega)
section RB
variable {σ : qH} {m : Nat} {tr : Int64} {z : Nat → Int32} {T S : Nat → Nat}
theorem m_code (h0 : σ.1 m = some (mC m tr z)) (h2 : σ.1 (m + 2) = some (iA 35 T)) (h4 : σ.1 (m + 4) = some (iA 22 S)) (t1 : T 1 ≤ 5) : q_call 105 [.ref m] σ = some (some (.int (nI (cod T S))), σ) := by
  have all : ∀ d i, i + d = T 1 → q_run 105 11 [(0, .ref m), (1, .int (nI (cdF S (i + d) (T 1 - (i + d))))), (2, .int (nI (i + d) - nI 1))] [] σ = q_run 105 11 [(0, .ref m), (1, .int (nI (cdF S i d))), (2, .int (nI i - nI 1))] [] σ := by
    intro d
    induction d with
    | zero => intro i hi; rw [Nat.add_zero, show T 1 - i = 0 by omega]
    | succ d ih =>
      intro i hi
      have e1 := ih (i + 1) (by omega)
      rw [show i + (d + 1) = i + 1 + d by omega, e1, pm1, e_105_11, if_neg (show ¬ nI i < nI 0 from nI_pos (by omega)), m_s h0, q_obS, a_rd h4 (by omega) (by decide), q_obS, pk_mul, nI_add, n_pm]
      rfl
  have e0 := all (T 1) 0 (by omega)
  rw [Nat.zero_add, Nat.sub_self] at e0
  rw [k_105 h0, e_105_0, m_told h0, q_obS, a_rd h2 (by decide) (by decide), q_obS]
  refine Eq.trans e0 ?_
  rw [e_105_11, if_pos n1]
  rfl
theorem m_isIn {a c : Nat} {g : Nat → Int64} {s : Nat → Bool} (h : σ.1 a = some (lF 49 (sG 49 g s))) (hc : c < 3136) : q_call 106 [.ref a, .int (nI c)] σ = some (some (.int (nI (s c).toNat)), σ) := by
  have hm := Nat.mod_lt c (show 0 < 64 by decide)
  have hk : c = 64 * (c / 64) + c % 64 := (Nat.div_add_mod c 64).symm
  have hq : c / 64 < 49 := by omega
  rw [k_106, e_106_0, if_neg (show ¬ nI 64 = nI 0 by decide), pk_rem (by omega) (by decide) (by decide), pk_div (by omega) (by decide) (by decide), L_rd h hq (by decide), q_obS, if_neg (show ¬ nI 64 = nI 0 by decide), sG_i hq, l_sbit hm, wdS_tb s _ hm, ← hk]
  cases s c with
  | true => rw [if_pos ((lg_bit true).mpr rfl)]; rfl
  | false => rw [if_neg (fun g => absurd ((lg_bit false).mp g) (by decide))]; rfl
theorem m_places (h0 : σ.1 m = some (mC m tr z)) (h2 : σ.1 (m + 2) = some (iA 35 T)) (h4 : σ.1 (m + 4) = some (iA 22 S)) (t1 : T 1 ≤ 5) {c : Nat} (hc : c < 3125) : q_call 107 [.ref m, .int (nI c)] σ = some (none, q_upd σ (m + 4) (iA 22 (plc S c (T 1)))) := by
  have q0 : ∀ {e}, (q_upd σ (m + 4) e).1 m = some (mC m tr z) := fun {e} => (u_n _ _ (by omega)).trans h0
  have q2 : ∀ {e}, (q_upd σ (m + 4) e).1 (m + 2) = some (iA 35 T) := fun {e} => (u_n _ _ (by omega)).trans h2
  have q4 : ∀ {e}, (q_upd σ (m + 4) e).1 (m + 4) = some e := fun {e} => u_s ..
  have hl := q_for (fun k => q_run 107 4 [(0, .ref m), (2, .int (nI (c / 5 ^ k))), (3, .int (nI k))] [] (q_upd σ (m + 4) (iA 22 (plc S c k)))) (T 1) (fun k hk => by
    try dsimp only
    have hd : c / 5 ^ k ≤ c := Nat.div_le_self _ _
    rw [e_107_4, m_told q0, q_obS, a_rd q2 (by decide) (by decide), q_obS, if_neg (nI_ge hk (by omega)), m_s q0, q_obS, if_neg (show ¬ nI 5 = nI 0 by decide), pk_rem (by omega) (by decide) (by decide), pk_div (by omega) (by decide) (by decide), a_wr q4 (by omega) (by decide), q_obS, u_u, if_neg (show ¬ nI 5 = nI 0 by decide), plc_s, nI_add, Nat.pow_succ, Nat.div_div_eq_div_mul])
  try dsimp only at hl
  have e0 : plc S c 0 = S := by funext j; exact if_neg (by omega)
  rw [e0, u_self h4, Nat.pow_zero, Nat.div_one] at hl
  rw [k_107 h0, e_107_0, hl, e_107_4, m_told q0, q_obS, a_rd q2 (by decide) (by decide), q_obS, if_pos (nI_le (Nat.le_refl _) (by omega))]
theorem up_up (P : Nat → Nat) (i v w : Nat) : up (up P i v) i w = up P i w := by
  funext j
  unfold up
  by_cases e : j = i
  · rw [if_pos e, if_pos e]
  · rw [if_neg e, if_neg e, if_neg e]
theorem m_firstDrive {g : Nat → Int64} {s : Nat → Bool} (h0 : σ.1 m = some (mC m tr z)) (h2 : σ.1 (m + 2) = some (iA 35 T)) (h4 : σ.1 (m + 4) = some (iA 22 S)) (h11 : σ.1 (m + 11) = some (lF 49 (sG 49 g s))) (hT : WT T) (hS : WP T S) : q_call 108 [.ref m] σ = some (some (.int (optI (fd T S (fun R => s (cod T R))))), σ) := by
  have t0 := hT.1
  have t1 := hT.2.1
  have q0 : ∀ {e}, (q_upd σ (m + 4) e).1 m = some (mC m tr z) := fun {e} => (u_n _ _ (by omega)).trans h0
  have q2 : ∀ {e}, (q_upd σ (m + 4) e).1 (m + 2) = some (iA 35 T) := fun {e} => (u_n _ _ (by omega)).trans h2
  have q4 : ∀ {e}, (q_upd σ (m + 4) e).1 (m + 4) = some e := fun {e} => u_s ..
  have q11 : ∀ {e}, (q_upd σ (m + 4) e).1 (m + 11) = some (lF 49 (sG 49 g s)) := fun {e} => (u_n _ _ (by omega)).trans h11
  have hS5 : ∀ j, j < 5 → S j < 5 := (show QB T S S from ⟨hS, fun _ _ => rfl⟩).p5 hT
  have step : ∀ f r, f < T 1 → r < T 0 → q_run 108 21 [(0, .ref m), (1, .int (nI f)), (2, .int (nI (S f))), (3, .int (nI r))] [] σ = if (mvB T S f r && s (cod T (up S f r))) = true then some (some (.int (nI (10 * f + r))), σ) else q_run 108 21 [(0, .ref m), (1, .int (nI f)), (2, .int (nI (S f))), (3, .int (nI (r + 1)))] [] σ := by
    intro f r hf hr
    have hmd : q_call 86 [.ref m, .int (nI f), .int (nI r)] σ = some (some (.int (nI (mvB T S f r).toNat)), σ) := m_mayDrive h0 h2 h4 hT hS hf hr
    rw [e_108_21, m_told h0, q_obS, a_rd h2 (by decide) (by decide), q_obS, if_neg (nI_ge hr (by omega)), hmd, q_cIS, q_obS]
    dsimp only
    rw [m_s h0, q_obS]
    have back : ∀ v, q_upd (q_upd σ (m + 4) (iA 22 (up S f v))) (m + 4) (iA 22 (up (up S f v) f (S f))) = σ := fun v => by rw [u_u, up_up, up_id, u_self h4]
    cases hm : mvB T S f r with
    | false =>
      rw [if_pos (show nI (false.toNat) = nI 0 from rfl), Bool.false_and, if_neg (by decide), e_108_54, a_wr h4 (by omega) (by decide), q_obS, if_pos (show nI (false.toNat) = nI 0 from rfl), e_108_78, e_108_79, m_s q0, q_obS, a_wr q4 (by omega) (by decide), q_obS, back, if_pos rfl, nI_add]
    | true =>
      have hc : cod T (up S f r) < 5 ^ T 1 := cod_lt t1 (fun j hj => by
        by_cases e : j = f
        · rw [e, up_s]; omega
        · rw [up_n _ _ e]; exact hS5 j hj)
      have hc2 := pow5_le t1
      rw [if_neg (show ¬ nI (true.toNat) = nI 0 by decide), Bool.true_and, e_108_54, a_wr h4 (by omega) (by decide), q_obS, if_neg (show ¬ nI (true.toNat) = nI 0 by decide), m_nearer q0, q_obS, m_code q0 q2 q4 t1, q_cIS, q_obS]
      dsimp only
      rw [m_isIn q11 (by omega), q_cIS, q_obS]
      dsimp only
      cases hs : s (cod T (up S f r)) with
      | false => rw [if_pos (show nI (false.toNat) = nI 0 from rfl), if_neg (by decide), e_108_78, e_108_79, m_s q0, q_obS, a_wr q4 (by omega) (by decide), q_obS, back, if_pos rfl, nI_add]
      | true => rw [if_neg (show ¬ nI (true.toNat) = nI 0 by decide), if_pos rfl, e_108_79, m_s q0, q_obS, a_wr q4 (by omega) (by decide), q_obS, back, if_neg (by decide), pk_mul, nI_add]
  have inner : ∀ f, f < T 1 → ∀ d r, r + d = T 0 → q_run 108 21 [(0, .ref m), (1, .int (nI f)), (2, .int (nI (S f))), (3, .int (nI r))] [] σ = match lowF (fun r => mvB T S f r && s (cod T (up S f r))) r d with
      | some r' => some (some (.int (nI (10 * f + r'))), σ)
      | none => q_run 108 2 [(0, .ref m), (1, .int (nI (f + 1)))] [] σ := by
    intro f hf d
    induction d with
    | zero =>
      intro r hr
      rw [e_108_21, m_told h0, q_obS, a_rd h2 (by decide) (by decide), q_obS, if_pos (nI_le (by omega) (by omega)), nI_add]
      rfl
    | succ d ih =>
      intro r hr
      rw [step f r hf (by omega), ih (r + 1) (by omega)]
      conv => rhs; unfold lowF
      cases (mvB T S f r && s (cod T (up S f r))) <;> rfl
  have outer : ∀ d f, f + d = T 1 → q_run 108 2 [(0, .ref m), (1, .int (nI f))] [] σ = some (some (.int (optI (fdF T S (fun R => s (cod T R)) f d))), σ) := by
    intro d
    induction d with
    | zero =>
      intro f hf
      rw [e_108_2, m_told h0, q_obS, a_rd h2 (by decide) (by decide), q_obS, if_pos (nI_le (by omega) (by omega))]
      rfl
    | succ d ih =>
      intro f hf
      rw [e_108_2, m_told h0, q_obS, a_rd h2 (by decide) (by decide), q_obS, if_neg (nI_ge (by omega) (by omega)), m_s h0, q_obS, a_rd h4 (by omega) (by decide), q_obS, inner f (by omega) (T 0) 0 (by omega), ih (f + 1) (by omega)]
      conv => rhs; unfold fdF fdR
      cases lowF (fun r => mvB T S f r && s (cod T (up S f r))) 0 (T 0) <;> rfl
  rw [k_108 h0, e_108_0, outer (T 1) 0 (by omega)]
  rfl
end RB
