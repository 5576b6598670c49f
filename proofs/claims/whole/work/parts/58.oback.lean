/-! ===== the way back: the whole ===== -/
def refR (T P : Nat → Nat) (v V : Int32) : Prop := (∃ t, t ≤ 3126 ∧ dtB T t P = true ∧ (∀ k, k < t → dtB T k P = false) ∧ V = if v = nI 0 then nI t else if t = 0 then -9 else optI (fd T P (dtB T (t - 1)))) ∨ ((∀ k, dtB T k P = false) ∧ V = -9)
theorem cnt_le' (c : Nat → Bool) (n : Nat) : cnt c n ≤ n := cnt_le c n
section RF
variable {σ : qH} {m : Nat} {tr : Int64} {z : Nat → Int32} {g : Nat → Int64} {T P : Nat → Nat}
theorem m_rounds (h0 : σ.1 m = some (mC m tr z)) (h2 : σ.1 (m + 2) = some (iA 35 T)) (hT : WT T) (hP : WP T P) (x1 : Int32) :
    ∀ fuel t (S : Nat → Nat) (r : Nat → Int64), (∀ j, T 1 ≤ j → S j = P j) → 3126 ≤ cnt (sT T P t) 3125 + fuel → t ≤ cnt (sT T P t) 3125 → (∀ k, k < t → dtB T k P = false) → (t = 0 ∨ ∃ r0, r = sG 49 r0 (sT T P (t - 1))) →
    ∃ t' S' r', (∀ j, T 1 ≤ j → S' j = P j) ∧ t' ≤ 3126 ∧ ((dtB T t' P = true ∧ (∀ k, k < t' → dtB T k P = false) ∧ (t' = 0 ∨ ∃ r0, r' = sG 49 r0 (sT T P (t' - 1)))) ∨ (dtB T t' P = false ∧ ∀ k, dtB T k P = false)) ∧
    q_run 109 132 [(0, .ref m), (1, .int x1), (2, .int (nI (cod T P))), (3, .int (nI t)), (4, .int (nI 1)), (5, .int (nI (5 ^ T 1)))] [] (nH σ m g S (sT T P t) r) = q_run 109 309 [(0, .ref m), (1, .int x1), (2, .int (nI (cod T P))), (3, .int (nI t'))] [] (nH σ m g S' (sT T P t') r') := by
  have t1 := hT.2.1
  have hc2 := pow5_le t1
  have hQ : QB T P P := ⟨hP, fun _ _ => rfl⟩
  have hcl : cod T P < 5 ^ T 1 := cod_lt t1 (hQ.p5 hT)
  have q0 : ∀ {S s r}, (nH σ m g S s r).1 m = some (mC m tr z) := fun {S s r} => (nH_o (by omega) (by omega) (by omega)).trans h0
  intro fuel
  induction fuel with
  | zero =>
    intro t S r hS hf
    have := cnt_le (sT T P t) 3125
    omega
  | succ fuel ih =>
    intro t S r hS hf ht hk hr
    have hcn := cnt_le (sT T P t) 3125
    have e1 : q_run 109 132 [(0, .ref m), (1, .int x1), (2, .int (nI (cod T P))), (3, .int (nI t)), (4, .int (nI 1)), (5, .int (nI (5 ^ T 1)))] [] (nH σ m g S (sT T P t) r) = if nI (dtB T t P).toNat = nI 0 then q_run 109 154 [(0, .ref m), (1, .int x1), (2, .int (nI (cod T P))), (3, .int (nI t)), (4, .int (nI 0)), (5, .int (nI (5 ^ T 1))), (6, .int (nI 0))] [] (nH σ m g S (sT T P t) r) else q_run 109 309 [(0, .ref m), (1, .int x1), (2, .int (nI (cod T P))), (3, .int (nI t))] [] (nH σ m g S (sT T P t) r) := by
      rw [e_109_132, if_neg (show ¬ nI 1 = nI 0 by decide), m_near q0, q_obS, m_isIn nH_10 (by omega), q_cIS, q_obS, sT_cod hT hP hQ]
    rw [e1]
    cases hd : dtB T t P with
    | true => exact ⟨t, S, r, hS, by omega, Or.inl ⟨hd, hk, hr⟩, if_neg (by decide)⟩
    | false =>
      rw [if_pos (show nI (false.toNat) = nI 0 from rfl)]
      obtain ⟨S1, k1, k2⟩ := m_round (g := g) h0 h2 hT hP hS r t x1 (nI (cod T P))
      rw [k2]
      cases ha : anyN (newB T P t) (5 ^ T 1) with
      | false =>
        have hn := anyN_f ha
        refine ⟨t + 1, S1, sG 49 r (sT T P t), k1, by omega, Or.inr ⟨dt_never hT hP hn hd _, dt_never hT hP hn hd⟩, ?_⟩
        rw [e_109_132, if_pos (show nI (false.toNat) = nI 0 from rfl)]
      | true =>
        obtain ⟨c, c1, c2⟩ := anyN_t ha
        have hlt : cnt (sT T P t) 3125 < cnt (sT T P (t + 1)) 3125 := cnt_less (fun i hi => by rw [sT_succ hT hP, hi]; rfl) (k := c) (by
          cases e : sT T P t c with
          | false => rfl
          | true => unfold newB at c2; rw [e] at c2; simp at c2) (by rw [sT_succ hT hP, c2, Bool.or_true]) 3125 (by omega)
        refine ih (t + 1) S1 _ k1 (by omega) (by omega) (fun k hk2 => ?_) (Or.inr ⟨r, by rw [Nat.add_sub_cancel]⟩)
        by_cases e : k = t
        · rw [e]; exact hd
        · exact hk k (by omega)
theorem homes_QB (hT : WT T) (hP : WP T P) : QB T P (fun j => if j < T 1 then T (20 + j) else P j) := by
  have t1 := hT.2.1
  obtain ⟨p0, p1, p5, p6, p7, p8, p9⟩ := hP
  have hn : ∀ j, T 1 ≤ j → (fun j => if j < T 1 then T (20 + j) else P j) j = P j := fun j hj => if_neg (by omega)
  refine ⟨⟨fun f hf => ?_, fun i h1 h2 => ?_, fun i hi => ?_, fun i h1 h2 => ?_, ?_, ?_, fun j hj => ?_⟩, fun k hk => hn k (by omega)⟩
  · rw [show (fun j => if j < T 1 then T (20 + j) else P j) f = T (20 + f) from if_pos hf]; exact (hT.2.2.2.2.2.2.1 f hf).1
  · rw [hn i h1]; exact p1 i h1 h2
  · rw [hn _ (by omega), hn _ (by omega), hn _ (by omega)]; exact p5 i hi
  · rw [hn _ (by omega)]; exact p6 i h1 h2
  · rw [hn _ (by omega)]; exact p7
  · rw [hn _ (by omega)]; exact p8
  · rw [hn _ (by omega)]; exact p9 j hj
theorem homes_hm (hT : WT T) (hP : WP T P) : hmB T (fun j => if j < T 1 then T (20 + j) else P j) = true := by
  refine decide_eq_true (pkS_congr fun i hi => ?_)
  by_cases e : i < T 1
  · exact if_pos e
  · rw [if_neg e, hP.2.1 i (by omega) hi, hT.2.2.2.2.2.2.2 i (by omega) hi]
theorem sT_0 (hT : WT T) (hP : WP T P) : upB (fun _ => false) (cod T (fun j => if j < T 1 then T (20 + j) else P j)) = sT T P 0 := by
  have hH := homes_QB hT hP
  have hm := homes_hm hT hP
  funext c
  unfold upB
  by_cases e : c = cod T (fun j => if j < T 1 then T (20 + j) else P j)
  · rw [if_pos e, e, sT_cod hT hP hH]; exact hm.symm
  · rw [if_neg e]
    cases hs : sT T P 0 c with
    | false => rfl
    | true =>
      unfold sT at hs
      rw [Bool.and_eq_true, Bool.and_eq_true] at hs
      obtain ⟨h1, h2, h3⟩ := hs
      have hQ := QB_plc hT hP h2
      have e2 : pkS (plc P c (T 1)) = pkS (fun i => T (20 + i)) := of_decide_eq_true h3
      have e3 : pkS (fun j => if j < T 1 then T (20 + j) else P j) = pkS (fun i => T (20 + i)) := of_decide_eq_true hm
      have e4 := hQ.eq hT hH (e2.trans e3.symm)
      exact absurd (by rw [← e4, cod_plc T P (of_decide_eq_true h1)]) e
theorem m_back {v : Int32} {fa : Nat → Int32} {r : Nat → Int64} (h0 : σ.1 m = some (mC m tr z)) (h2 : σ.1 (m + 2) = some (iA 35 T)) (h4 : σ.1 (m + 4) = some (iA 22 P)) (h9 : σ.1 (m + 9) = some (iF 22 fa)) (h10 : σ.1 (m + 10) = some (lF 49 g)) (h11 : σ.1 (m + 11) = some (lF 49 r)) (hT : WT T) (hP : WP T P) (hv : v = nI 0 ∨ v = nI 1) :
    ∃ A N1 N2 V, q_call 109 [.ref m, .int v] σ = some (some (.int V), q_upd (q_upd (q_upd (q_upd σ (m + 9) (iF 22 A)) (m + 11) (lF 49 N2)) (m + 10) (lF 49 N1)) (m + 4) (iA 22 P)) ∧ refR T P v V := by
  have t0 := hT.1
  have t1 := hT.2.1
  have hc2 := pow5_le t1
  have hQ : QB T P P := ⟨hP, fun _ _ => rfl⟩
  have hcl : cod T P < 5 ^ T 1 := cod_lt t1 (hQ.p5 hT)
  have hH := homes_QB hT hP
  have hHl : cod T (fun j => if j < T 1 then T (20 + j) else P j) < 5 ^ T 1 := cod_lt t1 (hH.p5 hT)
  have hin : decide (nI 0 ≤ v ∧ v ≤ nI 1) = true := by rcases hv with rfl | rfl <;> decide
  have hfa : ∀ j, j < 22 → lay fa 0 22 (fun k => nI (P k)) j = nI (P j) := fun j hj => by have := lay_in fa (b := 0) (fun k => nI (P k)) hj; rw [Nat.zero_add] at this; exact this
  have n0 : (q_upd σ (m + 9) (iF 22 (lay fa 0 22 (fun k => nI (P k))))).1 m = some (mC m tr z) := (u_n _ _ (by omega)).trans h0
  have n2 : (q_upd σ (m + 9) (iF 22 (lay fa 0 22 (fun k => nI (P k))))).1 (m + 2) = some (iA 35 T) := (u_n _ _ (by omega)).trans h2
  have n4 : (q_upd σ (m + 9) (iF 22 (lay fa 0 22 (fun k => nI (P k))))).1 (m + 4) = some (iA 22 P) := (u_n _ _ (by omega)).trans h4
  have n10 : (q_upd σ (m + 9) (iF 22 (lay fa 0 22 (fun k => nI (P k))))).1 (m + 10) = some (lF 49 g) := (u_n _ _ (by omega)).trans h10
  have n11 : (q_upd σ (m + 9) (iF 22 (lay fa 0 22 (fun k => nI (P k))))).1 (m + 11) = some (lF 49 r) := (u_n _ _ (by omega)).trans h11
  have n9 : (q_upd σ (m + 9) (iF 22 (lay fa 0 22 (fun k => nI (P k))))).1 (m + 9) = some (iF 22 (lay fa 0 22 (fun k => nI (P k)))) := u_s ..
  have st : q_call 109 [.ref m, .int v] σ = q_run 109 22 [(0, .ref m), (1, .int v), (2, .int (nI (cod T P))), (3, .int (nI 0))] [] (q_upd σ (m + 9) (iF 22 (lay fa 0 22 (fun k => nI (P k))))) := by
    rw [k_109 h0, e_109_0, m_in, q_cIS, q_obS, hin]
    dsimp only
    rw [if_neg (show ¬ nI (true.toNat) = nI 0 by decide), m_holds h0 h4 h9, q_cVS, q_obS, m_code n0 n2 n4 t1, q_cIS, q_obS]
  rw [st]
  generalize hσ1 : q_upd σ (m + 9) (iF 22 (lay fa 0 22 (fun k => nI (P k)))) = σ1 at n0 n2 n4 n10 n11 n9
  have q0 : ∀ {S s r}, (nH σ1 m g S s r).1 m = some (mC m tr z) := fun {S s r} => (nH_o (by omega) (by omega) (by omega)).trans n0
  have q2 : ∀ {S s r}, (nH σ1 m g S s r).1 (m + 2) = some (iA 35 T) := fun {S s r} => (nH_o (by omega) (by omega) (by omega)).trans n2
  have q9 : ∀ {S s r}, (nH σ1 m g S s r).1 (m + 9) = some (iF 22 (lay fa 0 22 (fun k => nI (P k)))) := fun {S s r} => (nH_o (by omega) (by omega) (by omega)).trans n9
  -- near is empty
  have l1 := q_for (fun k => q_run 109 22 [(0, .ref m), (1, .int v), (2, .int (nI (cod T P))), (3, .int (nI k))] [] (q_upd σ1 (m + 10) (lF 49 (fun w => if w < k then lN 0 else g w)))) 49 (fun k hk => by
    try dsimp only
    have k0 : ∀ {e}, (q_upd σ1 (m + 10) e).1 m = some (mC m tr z) := fun {e} => (u_n _ _ (by omega)).trans n0
    have k10 : ∀ {e}, (q_upd σ1 (m + 10) e).1 (m + 10) = some e := fun {e} => u_s ..
    rw [e_109_22, if_neg (nI_ge hk (by decide)), m_near k0, q_obS, L_wr k10 hk (by decide), q_obS, u_u, nI_add]
    congr 3
    congr 1
    funext w
    unfold upJ
    by_cases e : w = k
    · rw [if_pos e, if_pos (by omega)]
    · rw [if_neg e]
      dsimp only
      by_cases e2 : w < k
      · rw [if_pos e2, if_pos (by omega)]
      · rw [if_neg e2, if_neg (by omega)])
  try dsimp only at l1
  have ez : (fun w => if w < 0 then lN 0 else g w) = g := by funext w; exact if_neg (by omega)
  have ee : (fun w => if w < 49 then lN 0 else g w) = sG 49 g (fun _ => false) := by
    funext w
    unfold sG
    rw [wdS_0]
  have hn : q_upd σ1 (m + 10) (lF 49 (sG 49 g (fun _ => false))) = nH σ1 m g P (fun _ => false) r := by
    unfold nH
    rw [u_self n11, u_self (show (q_upd σ1 (m + 10) (lF 49 (sG 49 g (fun _ => false)))).1 (m + 4) = some (iA 22 P) from (u_n _ _ (by omega)).trans n4)]
  rw [ez, u_self n10, ee, hn] at l1
  rw [l1, e_109_22, if_pos (nI_le (Nat.le_refl _) (by decide))]
  -- the homes
  have l2 := q_for (fun f => q_run 109 43 [(0, .ref m), (1, .int v), (2, .int (nI (cod T P))), (3, .int (nI f))] [] (nH σ1 m g (fun j => if j < f then T (20 + j) else P j) (fun _ => false) r)) (T 1) (fun f hf => by
    try dsimp only
    rw [e_109_43, m_told q0, q_obS, a_rd q2 (by decide) (by decide), q_obS, if_neg (nI_ge hf (by omega)), m_s q0, q_obS, q_obS, nI_add, a_rd q2 (by omega) (by decide), q_obS, a_wr nH_4 (by omega) (by decide), q_obS, nH_u4, nI_add]
    congr 2
    funext j
    unfold up
    by_cases e : j = f
    · rw [if_pos e, if_pos (by omega), e]
    · rw [if_neg e]
      dsimp only
      by_cases e2 : j < f
      · rw [if_pos e2, if_pos (by omega)]
      · rw [if_neg e2, if_neg (by omega)])
  try dsimp only at l2
  have ep : (fun j => if j < 0 then T (20 + j) else P j) = P := by funext j; exact if_neg (by omega)
  rw [ep] at l2
  rw [l2, e_109_43, m_told q0, q_obS, a_rd q2 (by decide) (by decide), q_obS, if_pos (nI_le (Nat.le_refl _) (by omega)), m_near q0, q_obS, m_code q0 q2 nH_4 t1, q_cIS, q_obS]
  dsimp only
  rw [if_neg (show ¬ nI 64 = nI 0 by decide), pk_div (by omega) (by decide) (by decide), L_rd nH_10 (by omega) (by decide), q_obS, m_code q0 q2 nH_4 t1, q_cIS, q_obS]
  dsimp only
  rw [if_neg (show ¬ nI 64 = nI 0 by decide), pk_rem (by omega) (by decide) (by decide), n_set nH_10 (by omega), q_obS, nH_u10, sT_0 hT hP]
  -- how many codes
  refine Exists.elim (m_rounds (g := g) n0 n2 hT hP v 3126 0 (fun j => if j < T 1 then T (20 + j) else P j) r (fun j hj => if_neg (by omega)) (by omega) (Nat.zero_le _) (fun k hk => by omega) (Or.inl rfl)) fun t' ht => ?_
  obtain ⟨S', r', hS', ht', hres, hrun⟩ := ht
  have l3 := q_for (fun k => q_run 109 109 [(0, .ref m), (1, .int v), (2, .int (nI (cod T P))), (3, .int (nI 0)), (4, .int (nI 1)), (5, .int (nI (5 ^ k))), (6, .int (nI k))] [] (nH σ1 m g (fun j => if j < T 1 then T (20 + j) else P j) (sT T P 0) r)) (T 1) (fun k hk => by
    try dsimp only
    rw [e_109_109, m_told q0, q_obS, a_rd q2 (by decide) (by decide), q_obS, if_neg (nI_ge hk (by omega)), pk_mul, nI_add, Nat.pow_succ])
  try dsimp only at l3
  rw [Nat.pow_zero] at l3
  have l4 : q_run 109 109 [(0, .ref m), (1, .int v), (2, .int (nI (cod T P))), (3, .int (nI 0)), (4, .int (nI 1)), (5, .int (nI 1)), (6, .int (nI 0))] [] (nH σ1 m g (fun j => if j < T 1 then T (20 + j) else P j) (sT T P 0) r) = q_run 109 309 [(0, .ref m), (1, .int v), (2, .int (nI (cod T P))), (3, .int (nI t'))] [] (nH σ1 m g S' (sT T P t') r') := by
    rw [l3, e_109_109, m_told q0, q_obS, a_rd q2 (by decide) (by decide), q_obS, if_pos (nI_le (Nat.le_refl _) (by omega))]
    exact hrun
  have hS22 : ∀ j, 22 ≤ j → S' j = 0 := fun j hj => by rw [hS' j (by omega)]; exact hP.2.2.2.2.2.2 j hj
  have fin : ∀ V, (if nI (dtB T t' P).toNat = nI 0 then (-9 : Int32) else if v = nI 0 then nI t' else if nI t' = nI 0 then -9 else optI (fd T P (fun R => sT T P (t' - 1) (cod T R)))) = V → (dtB T t' P = true → v ≠ nI 0 → t' ≠ 0 → ∃ r0, r' = sG 49 r0 (sT T P (t' - 1))) → q_run 109 309 [(0, .ref m), (1, .int v), (2, .int (nI (cod T P))), (3, .int (nI t'))] [] (nH σ1 m g S' (sT T P t') r') = some (some (.int V), nH σ1 m g P (sT T P t') r') := by
    intro V hV hr
    rw [e_109_309, m_near q0, q_obS, m_isIn nH_10 (by omega), q_cIS, q_obS, sT_cod hT hP hQ]
    dsimp only
    rw [m_lets0 q0 nH_4 q9 hfa hP.2.2.2.2.2.2 hS22, q_cVS, q_obS, nH_u4]
    cases hd : dtB T t' P with
    | false =>
      rw [hd, if_pos (show nI (false.toNat) = nI 0 from rfl)] at hV
      rw [if_pos (show nI (false.toNat) = nI 0 from rfl), hV]
    | true =>
      rw [hd, if_neg (show ¬ nI (true.toNat) = nI 0 by decide)] at hV
      rw [if_neg (show ¬ nI (true.toNat) = nI 0 by decide)]
      by_cases e1 : v = nI 0
      · rw [if_pos e1] at hV ⊢
        rw [hV]
      · rw [if_neg e1] at hV ⊢
        by_cases e2 : nI t' = nI 0
        · rw [if_pos e2] at hV ⊢
          rw [hV]
        · rw [if_neg e2] at hV ⊢
          obtain ⟨r0, rfl⟩ := hr hd e1 (fun w => e2 (by rw [w]))
          rw [m_firstDrive q0 q2 nH_4 nH_11 hT hP, q_cIS, q_obS, hV]
  have hf := fin _ rfl (fun hd _ ht0 => by
    rcases hres with ⟨-, -, w⟩ | ⟨w, -⟩
    · exact w.resolve_left ht0
    · rw [w] at hd; cases hd)
  refine ⟨lay fa 0 22 (fun k => nI (P k)), sG 49 g (sT T P t'), r', (if nI (dtB T t' P).toNat = nI 0 then (-9 : Int32) else if v = nI 0 then nI t' else if nI t' = nI 0 then -9 else optI (fd T P (fun R => sT T P (t' - 1) (cod T R)))), ?_, ?_⟩
  · rw [hσ1]
    exact l4.trans hf
  · rcases hres with ⟨k1, k2, -⟩ | ⟨k1, k2⟩
    · refine Or.inl ⟨t', ht', k1, k2, ?_⟩
      rw [k1, if_neg (show ¬ nI (true.toNat) = nI 0 by decide), fd_sT hT hP hQ]
      by_cases e1 : v = nI 0
      · rw [if_pos e1, if_pos e1]
      · rw [if_neg e1, if_neg e1]
        by_cases e2 : t' = 0
        · rw [if_pos (by rw [e2]), if_pos e2]
        · rw [if_neg (fun w => e2 ((nI_eq (by omega) (by decide)).mp w)), if_neg e2]
    · refine Or.inr ⟨k2, ?_⟩
      rw [k1, if_pos (show nI (false.toNat) = nI 0 from rfl)]
end RF
theorem back_eq {T P : Nat → Nat} (hT : WT T) {fw fi v V : Int32} (h1 : backR T P fw fi) (h2 : refR T P v V) : (if v = nI 0 then fw else fi) = V := by
  rcases h1 with ⟨rfl, rfl, k⟩ | ⟨rfl, rfl, k⟩ | ⟨n, a, rfl, rfl, k1, k⟩
  · have hd : dtB T 0 P = true := k
    rcases h2 with ⟨t, -, m1, m2, rfl⟩ | ⟨m1, -⟩
    · have e : t = 0 := by
        by_cases e : t = 0
        · exact e
        · have := m2 0 (by omega)
          rw [hd] at this; cases this
      rw [e, if_pos rfl]
    · rw [m1 0] at hd; cases hd
  · rcases h2 with ⟨t, -, m1, m2, rfl⟩ | ⟨m1, rfl⟩
    · rw [k.dt hT t] at m1; cases m1
    · split <;> rfl
  · obtain ⟨d1, d2, d3⟩ := k.dt hT
    rcases h2 with ⟨t, -, m1, m2, rfl⟩ | ⟨m1, -⟩
    · have e : t = n + 1 := by
        rcases Nat.lt_trichotomy t (n + 1) with w | w | w
        · rw [d2 t (by omega)] at m1; cases m1
        · exact w
        · rw [m2 _ w] at d1; cases d1
      rw [e, if_neg (show ¬ n + 1 = 0 by omega), Nat.add_sub_cancel, d3]
      rfl
    · rw [m1] at d1; cases d1
theorem o_back {σ : qH} {x : Nat} (h : QV σ x) (v : Int32) : QO σ x 104 109 [.int v] := by
  obtain ⟨p, tx, n, T, P, Hs, kn, I, kp, W, no, tr, C, D, hC, hD, hX, hM, hQ⟩ := id h
  obtain ⟨h0, ⟨zz, hp⟩, hpo, he, -⟩ := hX.f hC
  obtain ⟨z, m0, ⟨z0, z1, z2⟩, m2, m4⟩ := hM.f hD
  have hT : WT T := hQ.2.2.1
  have hP : WP T P := hQ.2.2.2.1
  by_cases hv : v = nI 0 ∨ v = nI 1
  · obtain ⟨e19, f19, g19, hC19⟩ := hX.2.2.2.2.2.2.2.2.2.2.1
    obtain ⟨f20, hC20⟩ := hX.2.2.2.2.2.2.2.2.2.2.2.1
    obtain ⟨f21, hC21⟩ := hX.2.2.2.2.2.2.2.2.2.2.2.2.1
    have h19 : σ.1 (x + 19) = some (wbC x e19 f19 g19) := by rw [← hC19]; exact hC.at 19 (by decide) (by decide)
    have h20 : σ.1 (x + 20) = some (iF 3125 f20) := by rw [← hC20]; exact hC.at 20 (by decide) (by decide)
    have h21 : σ.1 (x + 21) = some (lF 512 f21) := by rw [← hC21]; exact hC.at 21 (by decide) (by decide)
    obtain ⟨e, w, l, fw, fi, cx, hb⟩ := c_back h0 h19 h20 h21 hp hpo he hT hP hv
    obtain ⟨f9, hf9⟩ := hM.2.2.2.2.2.2.2.2.2.1
    obtain ⟨f10, hf10⟩ := hM.2.2.2.2.2.2.2.2.2.2.1
    obtain ⟨f11, hf11⟩ := hM.2.2.2.2.2.2.2.2.2.2.2
    have m9 : σ.1 (x + 24 + 9) = some (iF 22 f9) := by rw [← hf9]; exact hD 9 (by decide)
    have m10 : σ.1 (x + 24 + 10) = some (lF 49 f10) := by rw [← hf10]; exact hD 10 (by decide)
    have m11 : σ.1 (x + 24 + 11) = some (lF 49 f11) := by rw [← hf11]; exact hD 11 (by decide)
    have f1 : ∀ a, a ≠ x + 19 → a ≠ x + 20 → a ≠ x + 21 → (q_upd (q_upd (q_upd σ (x + 21) (lF 512 w)) (x + 20) (iF 3125 l)) (x + 19) (wbC x e fw fi)).1 a = σ.1 a := fun a h1 h2 h3 => (u_n _ _ h1).trans ((u_n _ _ h2).trans (u_n _ _ h3))
    have s1 : (q_upd (q_upd (q_upd σ (x + 21) (lF 512 w)) (x + 20) (iF 3125 l)) (x + 19) (wbC x e fw fi)).2 = σ.2 := rfl
    have hC1 := ((hC.upd (k := 21) (by decide) (by decide) (lF 512 w)).upd (k := 20) (by decide) (by decide) (iF 3125 l)).upd (k := 19) (by decide) (by decide) (wbC x e fw fi)
    have hD1 := ((hD.x (k := 21) (by decide) (lF 512 w)).x (k := 20) (by decide) (iF 3125 l)).x (k := 19) (by decide) (wbC x e fw fi)
    have hX1 := ((hX.up21 ⟨w, rfl⟩).up20 ⟨l, rfl⟩).up19 ⟨e, fw, fi, rfl⟩
    generalize q_upd (q_upd (q_upd σ (x + 21) (lF 512 w)) (x + 20) (iF 3125 l)) (x + 19) (wbC x e fw fi) = σ1 at cx hC1 hD1 f1 s1
    have n0 := (f1 (x + 24) (by omega) (by omega) (by omega)).trans m0
    have n2 := (f1 (x + 24 + 2) (by omega) (by omega) (by omega)).trans m2
    have n4 := (f1 (x + 24 + 4) (by omega) (by omega) (by omega)).trans m4
    have n9 := (f1 (x + 24 + 9) (by omega) (by omega) (by omega)).trans m9
    have n10 := (f1 (x + 24 + 10) (by omega) (by omega) (by omega)).trans m10
    have n11 := (f1 (x + 24 + 11) (by omega) (by omega) (by omega)).trans m11
    obtain ⟨A, N1, N2, V, cm, hr⟩ := m_back n0 n2 n4 n9 n10 n11 hT hP hv
    have ev := back_eq hT hb hr
    rw [ev] at cx
    have hD2 := (((hD1.upd (k := 9) (iF 22 A)).upd (k := 11) (lF 49 N2)).upd (k := 10) (lF 49 N1)).upd (k := 4) (iA 22 P)
    have hC2 := (((hC1.m (k := 9) (by decide) (iF 22 A)).m (k := 11) (by decide) (lF 49 N2)).m (k := 10) (by decide) (lF 49 N1)).m (k := 4) (by decide) (iA 22 P)
    obtain ⟨q0, q1, q2, q3, q4, q5, q6, q7, q8, q9, qa, qb⟩ := hM
    exact QO.mk cx cm ⟨p, tx, n, T, P, Hs, kn, I, kp, W, no, tr, _, _, hC2, hD2, hX1, ⟨q0, q1, q2, q3, rfl, q5, q6, q7, q8, ⟨_, rfl⟩, ⟨_, rfl⟩, ⟨_, rfl⟩⟩, hQ⟩ s1 (fun a ha => by rw [u_n _ _ (by omega), u_n _ _ (by omega), u_n _ _ (by omega), u_n _ _ (by omega), f1 a (by omega) (by omega) (by omega)])
  · have hv0 : ¬ v = nI 0 := fun w => hv (Or.inl w)
    have hv1 : ¬ v = nI 1 := fun w => hv (Or.inr w)
    refine QO.ro (v := .int (-1)) h ?_ ?_
    · rw [k_104 h0, e_104_0, if_neg hv0, if_neg hv1]
    · have hin : decide (nI 0 ≤ v ∧ v ≤ nI 1) = false := decide_eq_false fun w => by
        obtain ⟨j, hj, rfl⟩ := m_image.mp w
        rcases i2 hj with rfl | rfl
        · exact hv0 rfl
        · exact hv1 rfl
      rw [k_109 m0, e_109_0, m_in, q_cIS, q_obS, hin]
      rfl
