/-! ===== house: the class's reader made, its text read ===== -/
def rdX (t : Value) (l i a b c d e : Int32) (p : Value) : qE := .inl (4, [t, .int l, .int i, .int a, .int b, .int c, .int d, .int e, p])
section RX2
variable {σ : qH} {ρ : Nat} {t p : Value} {l i a b c d e : Int32}
theorem rx_2 (h : σ.1 ρ = some (rdX t l i a b c d e p)) : q_put σ (.ref ρ) 4 2 3 (.int (nI 32)) = some (q_upd σ ρ (rdX t l (nI 32) a b c d e p)) := p_F h (show 2 < 9 by decide) (okv3' (by decide))
theorem rx_3 (h : σ.1 ρ = some (rdX t l i a b c d e p)) (y : Int32) : q_put σ (.ref ρ) 4 3 0 (.int y) = some (q_upd σ ρ (rdX t l i y b c d e p)) := p_F h (show 3 < 9 by decide) rfl
theorem rx_4 (h : σ.1 ρ = some (rdX t l i a b c d e p)) (y : Int32) : q_put σ (.ref ρ) 4 4 0 (.int y) = some (q_upd σ ρ (rdX t l i a y c d e p)) := p_F h (show 4 < 9 by decide) rfl
theorem rx_5 (h : σ.1 ρ = some (rdX t l i a b c d e p)) (y : Int32) : q_put σ (.ref ρ) 4 5 0 (.int y) = some (q_upd σ ρ (rdX t l i a b y d e p)) := p_F h (show 5 < 9 by decide) rfl
theorem rx_6 (h : σ.1 ρ = some (rdX t l i a b c d e p)) (y : Int32) : q_put σ (.ref ρ) 4 6 0 (.int y) = some (q_upd σ ρ (rdX t l i a b c y e p)) := p_F h (show 6 < 9 by decide) rfl
theorem rx_7 (h : σ.1 ρ = some (rdX t l i a b c d e p)) (y : Int32) : q_put σ (.ref ρ) 4 7 0 (.int y) = some (q_upd σ ρ (rdX t l i a b c d y p)) := p_F h (show 7 < 9 by decide) rfl
theorem rx_8 (h : σ.1 ρ = some (rdX t l i a b c d e p)) (y : Nat) : q_put σ (.ref ρ) 4 8 2 (.ref y) = some (q_upd σ ρ (rdX t l i a b c d e (.ref y))) := p_F h (show 8 < 9 by decide) rfl
theorem rx_0 (h : σ.1 ρ = some (rdX t l i a b c d e p)) (y : Nat) : q_put σ (.ref ρ) 4 0 2 (.ref y) = some (q_upd σ ρ (rdX (.ref y) l i a b c d e p)) := p_F h (show 0 < 9 by decide) rfl
theorem rx_1 (h : σ.1 ρ = some (rdX t l i a b c d e p)) (y : Int32) : q_put σ (.ref ρ) 4 1 0 (.int y) = some (q_upd σ ρ (rdX t y i a b c d e p)) := p_F h (show 1 < 9 by decide) rfl
end RX2
theorem pp_told0 {σ : qH} {p : Nat} {r f l z w : Int32} {h c d g s : Int64} (H : σ.1 p = some (plR r f l z h c d w g s)) : q_put σ (.ref p) 3 3 4 (.int (nI 0)) = some (q_upd σ p (plR r f l (nI 0) h c d w g s)) := p_F H (show 3 < 10 by decide) (okv4 false)
theorem c_planI {σ : qH} {p : Nat} (H : σ.1 p = some (.inl (3, q_dfl 3))) : q_call 0 [.ref p] σ = some (none, q_upd σ p (planC T0 (nI 0))) := by
  have q : ∀ {e}, (q_upd σ p e).1 p = some e := fun {e} => u_s ..
  have H0 : σ.1 p = some (plR 0 0 0 0 0 0 0 0 0 0) := H
  rw [k_0 H, e_0_0, pp_rooms H0, q_obS, pp_flocks q, q_obS, u_u, pp_lambAt q, q_obS, u_u, pp_told0 q, q_obS, u_u, pp_holds q, q_obS, u_u, pp_carpets q, q_obS, u_u, pp_doors q, q_obS, u_u, pp_homes q, q_obS, u_u, pp_hungers q, q_obS, u_u, pp_stuffs q, q_obS, u_u]
  rfl
theorem n_min {n : Nat} (hn : n ≤ 120) : q_min (nI n) (nI 120) = nI n := by
  rw [q_minN _ _ (by omega) (by decide)]
  by_cases g : 120 < n
  · omega
  · rw [if_neg g]
theorem new_s (σ : qH) (e : qE) (k : Nat) : (q_new σ e k).1 σ.2.1 = some e := if_pos rfl
theorem new_o (σ : qH) (e : qE) (k : Nat) {a : Nat} (h : a ≠ σ.2.1) : (q_new σ e k).1 a = σ.1 a := if_neg h
theorem c_newReader {σ : qH} {x n : Nat} {tx : Nat → Nat} (ht : σ.1 (x + 1) = some (.inr (0, (120, .inl (fun j => nI (tx j)))))) (hx : x + 36 ≤ σ.2.1) (hn : n ≤ 120) :
    q_call 22 [.ref σ.2.1, .ref (x + 1), .int (nI n)] (q_new σ (.inl (4, q_dfl 4)) 9) = some (none, rH (σ.1, σ.2.1 + 1 + 1, σ.2.2 + 9 + 10) x σ.2.1 n 32 0 0 0 0 T0) := by
  have H0 : (q_new σ (.inl (4, q_dfl 4)) 9).1 σ.2.1 = some (rdX .null 0 0 0 0 0 0 0 .null) := new_s ..
  have q : ∀ {τ : qH} {e}, (q_upd τ σ.2.1 e).1 σ.2.1 = some e := fun {τ e} => u_s ..
  rw [k_22 H0, e_22_0, rx_2 H0, q_obS, rx_3 q, q_obS, u_u, rx_4 q, q_obS, u_u, rx_5 q, q_obS, u_u, rx_6 q, q_obS, u_u, rx_7 q, q_obS, u_u]
  have K1 : (q_new (q_upd (q_new σ (.inl (4, q_dfl 4)) 9) σ.2.1 (rdX .null 0 (nI 32) (nI 0) (nI 0) (nI 0) (nI 0) (nI 0) .null)) (.inl (3, q_dfl 3)) 10).1 (σ.2.1 + 1) = some (.inl (3, q_dfl 3)) := new_s (q_upd (q_new σ (.inl (4, q_dfl 4)) 9) σ.2.1 (rdX .null 0 (nI 32) (nI 0) (nI 0) (nI 0) (nI 0) (nI 0) .null)) _ _
  have K0 : (q_new (q_upd (q_new σ (.inl (4, q_dfl 4)) 9) σ.2.1 (rdX .null 0 (nI 32) (nI 0) (nI 0) (nI 0) (nI 0) (nI 0) .null)) (.inl (3, q_dfl 3)) 10).1 σ.2.1 = some (rdX .null 0 (nI 32) (nI 0) (nI 0) (nI 0) (nI 0) (nI 0) .null) := (new_o _ _ _ (show σ.2.1 ≠ σ.2.1 + 1 by omega)).trans (u_s ..)
  have KT : ∀ {e f}, (q_upd (q_upd (q_new (q_upd (q_new σ (.inl (4, q_dfl 4)) 9) σ.2.1 (rdX .null 0 (nI 32) (nI 0) (nI 0) (nI 0) (nI 0) (nI 0) .null)) (.inl (3, q_dfl 3)) 10) (σ.2.1 + 1) e) σ.2.1 f).1 (x + 1) = some (.inr (0, (120, .inl (fun j => nI (tx j))))) := fun {e f} => (u_n _ _ (by omega)).trans ((u_n _ _ (by omega)).trans ((new_o _ _ _ (show x + 1 ≠ σ.2.1 + 1 by omega)).trans ((u_n _ _ (by omega)).trans ((new_o _ _ _ (by omega)).trans ht))))
  show q_ob (q_cV (q_call 0 [.ref (σ.2.1 + 1)] (q_new (q_upd (q_new σ (.inl (4, q_dfl 4)) 9) σ.2.1 (rdX .null 0 (nI 32) (nI 0) (nI 0) (nI 0) (nI 0) (nI 0) .null)) (.inl (3, q_dfl 3)) 10))) none (fun h7 => q_ob (q_put h7 (.ref σ.2.1) 4 8 2 (.ref (σ.2.1 + 1))) none fun h8 => q_ob (q_put h8 (.ref σ.2.1) 4 0 2 (.ref (x + 1))) none fun h9 => q_ob (q_alen h9 (.ref (x + 1)) 0) none fun v10 => q_ob (q_put h9 (.ref σ.2.1) 4 1 0 (.int (q_min (nI n) v10))) none fun h11 => some (none, h11)) = _
  rw [c_planI K1, q_cVS, q_obS, rx_8 ((u_n _ _ (by omega)).trans K0), q_obS, rx_0 q, q_obS, u_u, l_kind KT, q_obS, n_min hn, rx_1 q, q_obS, u_u]
  congr 2
  unfold rH q_upd q_new
  dsimp only
  congr 1
  funext a
  by_cases g1 : a = σ.2.1
  · simp only [if_pos g1]; rfl
  · by_cases g2 : a = σ.2.1 + 1
    · simp only [if_neg g1, if_pos g2]; rfl
    · simp only [if_neg g1, if_neg g2]
theorem WX_T0 : WX T0 := by
  have e : TI = T0 := by
    funext j
    unfold TI layN
    by_cases g : j < 35
    · rw [if_pos g]
    · rw [if_neg g]; exact (if_neg (by omega)).symm
  exact ⟨by rw [← e]; exact WT_init, by decide⟩
theorem begP_i {T : Nat → Nat} {i : Nat} (h : i < 5) : begP T i = T (20 + i) := if_pos h
theorem begP_c {T : Nat → Nat} {i : Nat} (h : i < 5) : begP T (15 + i) = T (10 + i) := by
  unfold begP
  rw [if_neg (by omega), if_pos (by omega), show 15 + i - 15 = i by omega]
theorem begP_0 {T : Nat → Nat} {j : Nat} (h1 : 5 ≤ j) (h2 : j < 15 ∨ 20 ≤ j) : begP T j = 0 := by
  unfold begP
  rw [if_neg (by omega), if_neg (by omega)]
theorem pkL_0 {f : Nat → Nat} (h : ∀ i, i < 5 → f i = 0) : pkL f = 0 := by
  unfold pkL
  rw [h 0 (by decide), h 1 (by decide), h 2 (by decide), h 3 (by decide), h 4 (by decide)]
theorem evC_beg (T : Nat → Nat) : evC (begP T) = evR (nI (pkS (fun i => T (20 + i)))) (lN (pkL (fun i => T (10 + i)))) (lN 0) (lN 0) (nI 0) (nI 0) := by
  unfold evC
  rw [pkS_congr (f := begP T) (g := fun i => T (20 + i)) fun i hi => begP_i hi, pkL_congr (f := fun i => begP T (15 + i)) (g := fun i => T (10 + i)) fun i hi => begP_c hi, pkL_0 (f := fun i => begP T (5 + i)) fun i hi => begP_0 (by omega) (by omega), pkL_0 (f := fun i => begP T (10 + i)) fun i hi => begP_0 (by omega) (by omega), begP_0 (T := T) (j := 20) (by decide) (by decide), begP_0 (T := T) (j := 21) (by decide) (by decide)]
theorem c_begin {σ : qH} {e p : Nat} {P T : Nat → Nat} {z : Int32} (he : σ.1 e = some (evC P)) (hp : σ.1 p = some (planC T z)) (hep : p ≠ e) : q_call 44 [.ref e, .ref p] σ = some (none, q_upd σ e (evC (begP T))) := by
  have he2 : σ.1 e = some (evR (nI (pkS P)) (lN (pkL (fun i => P (15 + i)))) (lN (pkL (fun i => P (5 + i)))) (lN (pkL (fun i => P (10 + i)))) (nI (P 20)) (nI (P 21))) := he
  have q : ∀ {a b c d g k}, (q_upd σ e (evR a b c d g k)).1 e = some (evR a b c d g k) := fun {a b c d g k} => u_s ..
  have qp : ∀ {y}, (q_upd σ e y).1 p = some (planC T z) := fun {y} => (u_n _ _ hep).trans hp
  rw [k_44 he2, e_44_0, pl_homes hp, q_obS, evp_places he2, q_obS, pl_carpets qp, q_obS, evp_carpets q, q_obS, u_u, evp_eaten q, q_obS, u_u, evp_lambs q, q_obS, u_u, evp_dogs q, q_obS, u_u, evp_night q, q_obS, u_u, evC_beg]
theorem WP_beg {T : Nat → Nat} (hT : WT T) : WP T (begP T) := by
  obtain ⟨t0, t1, t2, t5, t6, t7, t8, t9⟩ := hT
  refine ⟨fun f hf => ?_, fun i h1 h2 => ?_, fun i hi => ⟨?_, ?_, ?_⟩, fun i h1 h2 => ?_, ?_, ?_, fun j hj => begP_z _ hj⟩
  · rw [begP_i (by omega)]; exact (t8 f hf).1
  · rw [begP_i h2]; exact t9 i h1 h2
  · rw [begP_0 (by omega) (by omega)]; omega
  · rw [begP_0 (by omega) (by omega)]; omega
  · rw [begP_c hi]; exact (t5 i hi).2.1
  · rw [begP_c h2]; exact t7 i h1 h2
  · rw [begP_0 (by decide) (by decide)]; exact Nat.two_pow_pos _
  · rw [begP_0 (by decide) (by decide)]; omega
theorem WT_lay {T T2 : Nat → Nat} (h : WT T2) : WT (layN T T2 35) := by
  obtain ⟨t0, t1, t2, t5, t6, t7, t8, t9⟩ := h
  have e : ∀ {j}, j < 35 → layN T T2 35 j = T2 j := fun hj => layN_i T T2 hj
  refine ⟨by rw [e (by decide)]; exact t0, by rw [e (by decide)]; exact t1, by rw [e (by decide)]; exact t2, fun r hr => ?_, fun r hr => ?_, fun r h1 h2 => ?_, fun f hf => ?_, fun f h1 h2 => ?_⟩
  · rw [e (by omega), e (by omega), e (by omega), e (by omega), e (by omega), e (by omega)]; exact t5 r hr
  · rw [e (by decide)] at hr
    rw [e (by omega)]; exact t6 r hr
  · rw [e (by decide)] at h1
    rw [e (by omega)]; exact t7 r h1 h2
  · rw [e (by decide)] at hf
    rw [e (by omega), e (by omega), e (by omega)]; exact t8 f hf
  · rw [e (by decide)] at h1
    rw [e (by omega)]; exact t9 f h1 h2
theorem planC_lay (T T2 : Nat → Nat) (z : Int32) : planC (layN T T2 35) z = planC T2 z := by
  have e : ∀ {j}, j < 35 → layN T T2 35 j = T2 j := fun hj => layN_i T T2 hj
  rw [planC_R, planC_R, e (show 0 < 35 by decide), e (show 1 < 35 by decide), e (show 2 < 35 by decide), pkL_congr (f := fun i => layN T T2 35 (5 + i)) (g := fun i => T2 (5 + i)) fun i hi => e (by omega), pkL_congr (f := fun i => layN T T2 35 (10 + i)) (g := fun i => T2 (10 + i)) fun i hi => e (by omega), pkL_congr (f := fun i => layN T T2 35 (15 + i)) (g := fun i => T2 (15 + i)) fun i hi => e (by omega), pkS_congr (f := fun i => layN T T2 35 (20 + i)) (g := fun i => T2 (20 + i)) fun i hi => e (by omega), pkL_congr (f := fun i => layN T T2 35 (25 + i)) (g := fun i => T2 (25 + i)) fun i hi => e (by omega), pkL_congr (f := fun i => layN T T2 35 (30 + i)) (g := fun i => T2 (30 + i)) fun i hi => e (by omega)]
theorem begP_lay (T T2 : Nat → Nat) : begP (layN T T2 35) = begP T2 := by
  funext k
  unfold begP
  by_cases g : k < 5
  · rw [if_pos g, if_pos g, layN_i _ _ (by omega)]
  · rw [if_neg g, if_neg g]
    by_cases g2 : 15 ≤ k ∧ k ≤ 19
    · rw [if_pos g2, if_pos g2, layN_i _ _ (by omega)]
    · rw [if_neg g2, if_neg g2]
