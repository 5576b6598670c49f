/-! ===== the way back: the reference's rounds ===== -/
def vld (T Q : Nat → Nat) : Bool := decide (∀ f, f < T 1 → Q f < T 0)
/-- the numbers of houses from which home is t drives away at most -/
def sT (T P : Nat → Nat) (t c : Nat) : Bool := decide (c < 5 ^ T 1) && (vld T (plc P c (T 1)) && dtB T t (plc P c (T 1)))
def newB (T P : Nat → Nat) (t c : Nat) : Bool := decide (c < 5 ^ T 1) && (!sT T P t c && (vld T (plc P c (T 1)) && (fd T (plc P c (T 1)) (fun R => sT T P t (cod T R))).isSome))
theorem QB_plc {T P : Nat → Nat} (hT : WT T) (hP : WP T P) {c : Nat} (h : vld T (plc P c (T 1)) = true) : QB T P (plc P c (T 1)) := by
  have hv := of_decide_eq_true h
  have t1 := hT.2.1
  obtain ⟨p0, p1, p5, p6, p7, p8, p9⟩ := hP
  have hn : ∀ j, T 1 ≤ j → plc P c (T 1) j = P j := fun j hj => if_neg (by omega)
  refine ⟨⟨hv, fun i h1 h2 => ?_, fun i hi => ?_, fun i h1 h2 => ?_, ?_, ?_, fun j hj => ?_⟩, fun k hk => hn k (by omega)⟩
  · rw [hn i h1]; exact p1 i h1 h2
  · rw [hn _ (by omega), hn _ (by omega), hn _ (by omega)]; exact p5 i hi
  · rw [hn _ (by omega)]; exact p6 i h1 h2
  · rw [hn _ (by omega)]; exact p7
  · rw [hn _ (by omega)]; exact p8
  · rw [hn _ (by omega)]; exact p9 j hj
theorem plc_of {T P R : Nat → Nat} (hT : WT T) (hP : WP T P) (h : QB T P R) : plc P (cod T R) (T 1) = R := by
  have t1 := hT.2.1
  have h5 := h.p5 hT
  funext j
  unfold plc
  by_cases e : j < T 1
  · rw [if_pos e]
    have := digit_cdF h5 j 0 (T 1) (by omega) e
    rw [Nat.zero_add] at this
    exact this
  · rw [if_neg e]
    by_cases e2 : j < 5
    · rw [hP.2.1 j (by omega) e2, h.1.2.1 j (by omega) e2]
    · exact (h.2 j (by omega)).symm
theorem cod_plc (T P : Nat → Nat) {c : Nat} (h : c < 5 ^ T 1) : cod T (plc P c (T 1)) = c := by
  have := plc_cod (S := P) (c := c) (T 1) 0 (T 1) (by omega) (by rw [Nat.pow_zero, Nat.div_one]; exact h)
  rw [Nat.pow_zero, Nat.div_one] at this
  exact this
theorem sT_cod {T P R : Nat → Nat} (hT : WT T) (hP : WP T P) (h : QB T P R) (t : Nat) : sT T P t (cod T R) = dtB T t R := by
  unfold sT
  rw [plc_of hT hP h, decide_eq_true (cod_lt hT.2.1 (h.p5 hT)), show vld T R = true from decide_eq_true h.1.1]
  rfl
theorem fd_sT {T P Q : Nat → Nat} (hT : WT T) (hP : WP T P) (h : QB T P Q) (t : Nat) : fd T Q (fun R => sT T P t (cod T R)) = fd T Q (dtB T t) := fd_congr fun f r hm => sT_cod hT hP (h.mv hT hm.1 hm.2.1) t
theorem sT_succ {T P : Nat → Nat} (hT : WT T) (hP : WP T P) (t c : Nat) : sT T P (t + 1) c = (sT T P t c || newB T P t c) := by
  unfold newB
  cases hc : decide (c < 5 ^ T 1) with
  | false => unfold sT; rw [hc]; rfl
  | true =>
    cases hv : vld T (plc P c (T 1)) with
    | false => unfold sT; rw [hc, hv]; rfl
    | true =>
      have hQ := QB_plc hT hP hv
      rw [fd_sT hT hP hQ t]
      unfold sT
      rw [hc, hv]
      show (dtB T t _ || (fd T _ (dtB T t)).isSome) = (dtB T t _ || (!dtB T t _ && (fd T _ (dtB T t)).isSome))
      cases dtB T t (plc P c (T 1)) <;> rfl
def anyN (c : Nat → Bool) : Nat → Bool
  | 0 => false
  | n + 1 => anyN c n || c n
theorem anyN_f {c : Nat → Bool} : ∀ {n}, anyN c n = false → ∀ k, k < n → c k = false
  | 0, _, k, hk => by omega
  | n + 1, h, k, hk => by
    have h2 : (anyN c n || c n) = false := h
    rw [Bool.or_eq_false_iff] at h2
    by_cases e : k = n
    · rw [e]; exact h2.2
    · exact anyN_f h2.1 k (by omega)
theorem anyN_t {c : Nat → Bool} : ∀ {n}, anyN c n = true → ∃ k, k < n ∧ c k = true
  | 0, h => by cases h
  | n + 1, h => by
    have h2 : (anyN c n || c n) = true := h
    rw [Bool.or_eq_true] at h2
    rcases h2 with w | w
    · obtain ⟨k, k1, k2⟩ := anyN_t w
      exact ⟨k, by omega, k2⟩
    · exact ⟨n, by omega, w⟩
theorem cnt_mon {c d : Nat → Bool} (h : ∀ i, c i = true → d i = true) : ∀ n, cnt c n ≤ cnt d n
  | 0 => Nat.le_refl _
  | n + 1 => by
    have := cnt_mon h n
    show cnt c n + (c n).toNat ≤ cnt d n + (d n).toNat
    cases e : c n with
    | false => simp; omega
    | true => rw [h n e]; omega
theorem cnt_less {c d : Nat → Bool} (h : ∀ i, c i = true → d i = true) {k : Nat} (h1 : c k = false) (h2 : d k = true) : ∀ n, k < n → cnt c n < cnt d n
  | 0, hk => by omega
  | n + 1, hk => by
    show cnt c n + (c n).toNat < cnt d n + (d n).toNat
    by_cases e : k = n
    · subst e
      have := cnt_mon h k
      rw [h1, h2]
      show cnt c k + 0 < cnt d k + 1
      omega
    · have := cnt_less h h1 h2 n (by omega)
      have : (c n).toNat ≤ (d n).toNat := by
        cases e2 : c n with
        | false => exact Nat.zero_le _
        | true => rw [h n e2]; exact Nat.le_refl _
      omega
/-- no new houses: nothing comes later -/
theorem dt_fix {T P : Nat → Nat} (hT : WT T) (hP : WP T P) {t : Nat} (h : ∀ c, c < 5 ^ T 1 → newB T P t c = false) : ∀ k Q, QB T P Q → dtB T (t + k) Q = dtB T t Q
  | 0, Q, _ => rfl
  | k + 1, Q, hQ => by
    have h1 : dtB T (t + 1) Q = dtB T t Q := by
      rw [← sT_cod hT hP hQ, ← sT_cod hT hP hQ t, sT_succ hT hP, h _ (cod_lt hT.2.1 (hQ.p5 hT)), Bool.or_false]
    rw [← h1]
    show (dtB T (t + k) Q || (fd T Q (dtB T (t + k))).isSome) = (dtB T t Q || (fd T Q (dtB T t)).isSome)
    rw [dt_fix hT hP h k Q hQ, fd_congr (g' := dtB T t) fun f r hm => dt_fix hT hP h k _ (hQ.mv hT hm.1 hm.2.1)]
theorem dt_mono {T : Nat → Nat} {t : Nat} {Q : Nat → Nat} (h : dtB T t Q = true) : ∀ k, dtB T (t + k) Q = true
  | 0 => h
  | k + 1 => by
    show (dtB T (t + k) Q || _) = true
    rw [dt_mono h k]; rfl
theorem dt_never {T P : Nat → Nat} (hT : WT T) (hP : WP T P) {t : Nat} (h : ∀ c, c < 5 ^ T 1 → newB T P t c = false) (h2 : dtB T t P = false) (k : Nat) : dtB T k P = false := by
  cases e : dtB T k P with
  | false => rfl
  | true =>
    have e1 := dt_mono e t
    rw [Nat.add_comm, dt_fix hT hP h k P ⟨hP, fun _ _ => rfl⟩, h2] at e1
    cases e1
/-- the reference's three rows -/
def nH (σ : qH) (m : Nat) (g : Nat → Int64) (S : Nat → Nat) (s : Nat → Bool) (r : Nat → Int64) : qH := q_upd (q_upd (q_upd σ (m + 11) (lF 49 r)) (m + 10) (lF 49 (sG 49 g s))) (m + 4) (iA 22 S)
section RD
variable {σ : qH} {m : Nat} {g : Nat → Int64} {S : Nat → Nat} {s : Nat → Bool} {r : Nat → Int64}
theorem nH_4 : (nH σ m g S s r).1 (m + 4) = some (iA 22 S) := u_s ..
theorem nH_10 : (nH σ m g S s r).1 (m + 10) = some (lF 49 (sG 49 g s)) := (u_n _ _ (by omega)).trans (u_s ..)
theorem nH_11 : (nH σ m g S s r).1 (m + 11) = some (lF 49 r) := (u_n _ _ (by omega)).trans ((u_n _ _ (by omega)).trans (u_s ..))
theorem nH_o {a : Nat} (h4 : a ≠ m + 4) (h10 : a ≠ m + 10) (h11 : a ≠ m + 11) : (nH σ m g S s r).1 a = σ.1 a := (u_n _ _ h4).trans ((u_n _ _ h10).trans (u_n _ _ h11))
theorem nH_u4 (S2 : Nat → Nat) : q_upd (nH σ m g S s r) (m + 4) (iA 22 S2) = nH σ m g S2 s r := u_u ..
theorem nH_u10 (s2 : Nat → Bool) : q_upd (nH σ m g S s r) (m + 10) (lF 49 (sG 49 g s2)) = nH σ m g S s2 r := by
  unfold nH
  rw [u_c _ _ _ (show m + 4 ≠ m + 10 by omega), u_u]
theorem nH_u11 (r2 : Nat → Int64) : q_upd (nH σ m g S s r) (m + 11) (lF 49 r2) = nH σ m g S s r2 := by
  unfold nH
  rw [u_c _ _ _ (show m + 4 ≠ m + 11 by omega), u_c _ _ _ (show m + 10 ≠ m + 11 by omega), u_u]
theorem n_set {a c : Nat} (h : σ.1 a = some (lF 49 (sG 49 g s))) (hc : c < 3136) : q_astL σ (.ref a) (nI (c / 64)) (sG 49 g s (c / 64) ||| (lN 1 <<< ((nI (c % 64)).toInt64 &&& 63))) = some (q_upd σ a (lF 49 (sG 49 g (upB s c)))) := by
  have hm := Nat.mod_lt c (show 0 < 64 by decide)
  have hq : c / 64 < 49 := by omega
  rw [sG_i hq, wb_shl 1 hm, Nat.one_mul, l_or, L_wr h hq (by decide), sG_up g s hq]
end RD
section RE
variable {σ : qH} {m : Nat} {tr : Int64} {z : Nat → Int32} {g : Nat → Int64} {T P : Nat → Nat}
/-- the houses seen at code c of a round -/
def sR (T P : Nat → Nat) (t c : Nat) : Nat → Bool := fun k => sT T P t k || (decide (k < c) && newB T P t k)
theorem sR_0 (t : Nat) : sR T P t 0 = sT T P t := by
  funext k
  unfold sR
  rw [decide_eq_false (by omega), Bool.false_and, Bool.or_false]
theorem sR_s (t c : Nat) : sR T P t (c + 1) = if newB T P t c = true then upB (sR T P t c) c else sR T P t c := by
  funext k
  by_cases h : newB T P t c = true
  · rw [if_pos h]
    unfold upB sR
    by_cases e : k = c
    · rw [if_pos e, e, decide_eq_true (by omega), h, Bool.true_and, Bool.or_true]
    · rw [if_neg e]
      by_cases e2 : k < c
      · rw [decide_eq_true e2, decide_eq_true (by omega)]
      · rw [decide_eq_false e2, decide_eq_false (by omega)]
  · rw [if_neg h]
    unfold sR
    by_cases e : k = c
    · have h' : newB T P t c = false := by simpa using h
      rw [e, h', Bool.and_false, Bool.and_false]
    · by_cases e2 : k < c
      · rw [decide_eq_true e2, decide_eq_true (by omega)]
      · rw [decide_eq_false e2, decide_eq_false (by omega)]
theorem sR_all (hT : WT T) (hP : WP T P) (t : Nat) : sR T P t (5 ^ T 1) = sT T P (t + 1) := by
  funext k
  rw [sT_succ hT hP]
  unfold sR
  by_cases e : k < 5 ^ T 1
  · rw [decide_eq_true e, Bool.true_and]
  · have : newB T P t k = false := by unfold newB; rw [decide_eq_false e, Bool.false_and]
    rw [this, Bool.and_false]
theorem sR_c (t c : Nat) : sR T P t c c = sT T P t c := by
  unfold sR
  rw [decide_eq_false (by omega), Bool.false_and, Bool.or_false]
/-- one code of a round -/
theorem m_onecode (h0 : σ.1 m = some (mC m tr z)) (h2 : σ.1 (m + 2) = some (iA 35 T)) (hT : WT T) (hP : WP T P) {S : Nat → Nat} (hS : ∀ j, T 1 ≤ j → S j = P j) {r0 : Nat → Int64} {t c : Nat} (hc : c < 5 ^ T 1) (b : Bool) (x1 x2 x3 x5 : Int32) (hx5 : x5 = nI (5 ^ T 1)) :
    ∃ S', (∀ j, T 1 ≤ j → S' j = P j) ∧ q_run 109 184 [(0, .ref m), (1, .int x1), (2, .int x2), (3, .int x3), (4, .int (nI b.toNat)), (5, .int x5), (6, .int (nI c))] [] (nH σ m g S (sR T P t c) (sG 49 r0 (sT T P t))) = q_run 109 184 [(0, .ref m), (1, .int x1), (2, .int x2), (3, .int x3), (4, .int (nI (b || newB T P t c).toNat)), (5, .int x5), (6, .int (nI (c + 1)))] [] (nH σ m g S' (sR T P t (c + 1)) (sG 49 r0 (sT T P t))) := by
  have t0 := hT.1
  have t1 := hT.2.1
  have hc2 := pow5_le t1
  have q0 : ∀ {S s r}, (nH σ m g S s r).1 m = some (mC m tr z) := fun {S s r} => (nH_o (by omega) (by omega) (by omega)).trans h0
  have q2 : ∀ {S s r}, (nH σ m g S s r).1 (m + 2) = some (iA 35 T) := fun {S s r} => (nH_o (by omega) (by omega) (by omega)).trans h2
  subst hx5
  have e0 : q_run 109 184 [(0, .ref m), (1, .int x1), (2, .int x2), (3, .int x3), (4, .int (nI b.toNat)), (5, .int (nI (5 ^ T 1))), (6, .int (nI c))] [] (nH σ m g S (sR T P t c) (sG 49 r0 (sT T P t))) = if nI (sT T P t c).toNat = nI 0 then q_run 109 215 [(0, .ref m), (1, .int x1), (2, .int x2), (3, .int x3), (4, .int (nI b.toNat)), (5, .int (nI (5 ^ T 1))), (6, .int (nI c)), (7, .int (nI 1)), (8, .int (nI 0))] [] (nH σ m g (plc P c (T 1)) (sR T P t c) (sG 49 r0 (sT T P t))) else q_run 109 297 [(0, .ref m), (1, .int x1), (2, .int x2), (3, .int x3), (4, .int (nI b.toNat)), (5, .int (nI (5 ^ T 1))), (6, .int (nI c))] [] (nH σ m g S (sR T P t c) (sG 49 r0 (sT T P t))) := by
    have ep : plc S c (T 1) = plc P c (T 1) := by
      funext j
      unfold plc
      by_cases e : j < T 1
      · rw [if_pos e, if_pos e]
      · rw [if_neg e, if_neg e]; exact hS j (by omega)
    rw [e_109_184, if_neg (nI_ge hc (by omega)), m_near q0, q_obS, m_isIn nH_10 (by omega), q_cIS, q_obS, sR_c]
    dsimp only
    rw [m_places q0 q2 nH_4 t1 (by omega), q_cVS, q_obS, nH_u4, ep]
  rw [e0, sR_s]
  cases hs : sT T P t c with
  | true =>
    have hn : newB T P t c = false := by unfold newB; rw [hs]; simp
    refine ⟨S, hS, ?_⟩
    rw [if_neg (show ¬ nI (true.toNat) = nI 0 by decide), e_109_297, nI_add, hn, if_neg (by decide), Bool.or_false]
  | false =>
    refine ⟨plc P c (T 1), fun j hj => if_neg (by omega), ?_⟩
    rw [if_pos (show nI (false.toNat) = nI 0 from rfl)]
    have hl := q_for (fun f => q_run 109 215 [(0, .ref m), (1, .int x1), (2, .int x2), (3, .int x3), (4, .int (nI b.toNat)), (5, .int (nI (5 ^ T 1))), (6, .int (nI c)), (7, .int (nI (decide (∀ j, j < f → plc P c (T 1) j < T 0)).toNat)), (8, .int (nI f))] [] (nH σ m g (plc P c (T 1)) (sR T P t c) (sG 49 r0 (sT T P t)))) (T 1) (fun f hf => by
      try dsimp only
      have hd : plc P c (T 1) f < 5 := by
        rw [show plc P c (T 1) f = c / 5 ^ f % 5 from if_pos hf]; exact Nat.mod_lt _ (by decide)
      rw [e_109_215, m_told q0, q_obS, a_rd q2 (by decide) (by decide), q_obS, if_neg (nI_ge hf (by omega))]
      by_cases ha : ∀ j, j < f → plc P c (T 1) j < T 0
      · rw [decide_eq_true ha, if_neg (show ¬ nI (true.toNat) = nI 0 by decide), m_s q0, q_obS, a_rd nH_4 (by omega) (by decide), q_obS, q_obS, a_rd q2 (by decide) (by decide), q_obS]
        by_cases hl : plc P c (T 1) f < T 0
        · rw [if_neg (nI_ge hl (by omega)), e_109_252, nI_add, decide_eq_true (show ∀ j, j < f + 1 → plc P c (T 1) j < T 0 from fun j hj => by
            by_cases e : j = f
            · rw [e]; exact hl
            · exact ha j (by omega))]
          rfl
        · rw [if_pos (nI_le (by omega) (by omega)), e_109_251, e_109_252, nI_add, decide_eq_false (show ¬ ∀ j, j < f + 1 → plc P c (T 1) j < T 0 from fun w => hl (w f (by omega)))]
          rfl
      · rw [decide_eq_false ha, if_pos (show nI (false.toNat) = nI 0 from rfl), e_109_251, e_109_252, nI_add, decide_eq_false (show ¬ ∀ j, j < f + 1 → plc P c (T 1) j < T 0 from fun w => ha fun j hj => w j (by omega))]
        rfl)
    try dsimp only at hl
    rw [decide_eq_true (show ∀ j, j < 0 → plc P c (T 1) j < T 0 from fun j hj => by omega)] at hl
    refine Eq.trans hl ?_
    rw [e_109_215, m_told q0, q_obS, a_rd q2 (by decide) (by decide), q_obS, if_pos (nI_le (Nat.le_refl _) (by omega))]
    show (if nI (vld T (plc P c (T 1))).toNat = nI 0 then _ else _) = _
    cases hv : vld T (plc P c (T 1)) with
    | false =>
      have hn : newB T P t c = false := by unfold newB; rw [hv]; simp
      rw [if_pos (show nI (false.toNat) = nI 0 from rfl), e_109_297, nI_add, hn, if_neg (by decide), Bool.or_false]
    | true =>
      have hQ := QB_plc hT hP hv
      rw [if_neg (show ¬ nI (true.toNat) = nI 0 by decide), m_firstDrive q0 q2 nH_4 nH_11 hT hQ.1, q_cIS, q_obS]
      dsimp only
      cases hfd : fd T (plc P c (T 1)) (fun R => sT T P t (cod T R)) with
      | none =>
        have hn : newB T P t c = false := by unfold newB; rw [hfd]; simp
        rw [if_pos (show optI none = (-9 : Int32) from rfl), e_109_297, nI_add, hn, if_neg (by decide), Bool.or_false]
      | some a =>
        have hn : newB T P t c = true := by unfold newB; rw [hfd, hs, hv, decide_eq_true hc]; rfl
        have ha : a < 100 := by
          obtain ⟨f', r', k1, k2, k3, k4, -⟩ := fdF_some t0 hfd
          omega
        rw [if_neg (show ¬ optI (some a) = (-9 : Int32) from n_m9 (by omega)), m_near q0, q_obS, if_neg (show ¬ nI 64 = nI 0 by decide), pk_rem (by omega) (by decide) (by decide), pk_div (by omega) (by decide) (by decide), L_rd nH_10 (by omega) (by decide), q_obS, if_neg (show ¬ nI 64 = nI 0 by decide), n_set nH_10 (by omega), q_obS, nH_u10, e_109_297, nI_add, hn, if_pos rfl, Bool.or_true]
        rfl
theorem m_round (h0 : σ.1 m = some (mC m tr z)) (h2 : σ.1 (m + 2) = some (iA 35 T)) (hT : WT T) (hP : WP T P) {S : Nat → Nat} (hS : ∀ j, T 1 ≤ j → S j = P j) (r : Nat → Int64) (t : Nat) (x1 x2 : Int32) :
    ∃ S', (∀ j, T 1 ≤ j → S' j = P j) ∧ q_run 109 154 [(0, .ref m), (1, .int x1), (2, .int x2), (3, .int (nI t)), (4, .int (nI 0)), (5, .int (nI (5 ^ T 1))), (6, .int (nI 0))] [] (nH σ m g S (sT T P t) r) = q_run 109 132 [(0, .ref m), (1, .int x1), (2, .int x2), (3, .int (nI (t + 1))), (4, .int (nI (anyN (newB T P t) (5 ^ T 1)).toNat)), (5, .int (nI (5 ^ T 1)))] [] (nH σ m g S' (sT T P (t + 1)) (sG 49 r (sT T P t))) := by
  have t1 := hT.2.1
  have hc2 := pow5_le t1
  have q0 : ∀ {S s r}, (nH σ m g S s r).1 m = some (mC m tr z) := fun {S s r} => (nH_o (by omega) (by omega) (by omega)).trans h0
  have cp := q_for (fun k => q_run 109 154 [(0, .ref m), (1, .int x1), (2, .int x2), (3, .int (nI t)), (4, .int (nI 0)), (5, .int (nI (5 ^ T 1))), (6, .int (nI k))] [] (nH σ m g S (sT T P t) (fun w => if w < k then lN (wdS (sT T P t) w) else r w))) 49 (fun k hk => by
    try dsimp only
    rw [e_109_154, if_neg (nI_ge hk (by decide)), m_nearer q0, q_obS, m_near q0, q_obS, L_rd nH_10 hk (by decide), q_obS, L_wr nH_11 hk (by decide), q_obS, nH_u11, nI_add, sG_i hk]
    congr 2
    funext w
    unfold upJ
    by_cases e : w = k
    · rw [if_pos e, if_pos (by omega), e]
    · rw [if_neg e]
      dsimp only
      by_cases e2 : w < k
      · rw [if_pos e2, if_pos (by omega)]
      · rw [if_neg e2, if_neg (by omega)])
  try dsimp only at cp
  have ez : (fun w => if w < 0 then lN (wdS (sT T P t) w) else r w) = r := by funext w; exact if_neg (by omega)
  rw [ez] at cp
  have loop : ∀ c, c ≤ 5 ^ T 1 → ∃ S', (∀ j, T 1 ≤ j → S' j = P j) ∧ q_run 109 184 [(0, .ref m), (1, .int x1), (2, .int x2), (3, .int (nI t)), (4, .int (nI 0)), (5, .int (nI (5 ^ T 1))), (6, .int (nI 0))] [] (nH σ m g S (sT T P t) (sG 49 r (sT T P t))) = q_run 109 184 [(0, .ref m), (1, .int x1), (2, .int x2), (3, .int (nI t)), (4, .int (nI (anyN (newB T P t) c).toNat)), (5, .int (nI (5 ^ T 1))), (6, .int (nI c))] [] (nH σ m g S' (sR T P t c) (sG 49 r (sT T P t))) := by
    intro c
    induction c with
    | zero => intro _; exact ⟨S, hS, by rw [sR_0]; rfl⟩
    | succ c ih =>
      intro hc
      obtain ⟨S1, k1, k2⟩ := ih (by omega)
      obtain ⟨S2, m1, m2⟩ := m_onecode (g := g) h0 h2 hT hP k1 (r0 := r) (t := t) (c := c) (by omega) (anyN (newB T P t) c) x1 x2 (nI t) _ rfl
      exact ⟨S2, m1, k2.trans m2⟩
  obtain ⟨S', k1, k2⟩ := loop _ (Nat.le_refl _)
  refine ⟨S', k1, ?_⟩
  refine Eq.trans cp ?_
  rw [e_109_154, if_pos (nI_le (Nat.le_refl _) (by decide))]
  refine Eq.trans k2 ?_
  rw [e_109_184, if_pos (nI_le (Nat.le_refl _) (by omega)), nI_add, sR_all hT hP]
end RE
