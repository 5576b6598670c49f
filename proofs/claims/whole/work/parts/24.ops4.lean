/-! ===== now, rate ===== -/
theorem m_strays {σ : qH} {m : Nat} {tr : Int64} {z : Nat → Int32} {T P : Nat → Nat} (h0 : σ.1 m = some (mC m tr z)) (h2 : σ.1 (m + 2) = some (iA 35 T)) (h4 : σ.1 (m + 4) = some (iA 22 P)) (hT : WT T) (hP : WP T P) :
    q_call 78 [.ref m] σ = some (some (.int (nI (strF T P))), σ) := by
  rw [k_78 h0, e_78_0]
  have t1 := hT.2.1
  refine (q_for (fun i => q_run 78 4 [(0, .ref m), (1, .int (nI (bits (fun f => !(P f == T (20 + f))) i))), (2, .int (nI i))] [] σ) (T 1) (fun i hi => ?_)).trans ?_
  · try dsimp only
    have hp := hP.p8 hT i (by omega)
    have ht := hT.l.2.2.2.2.2 i (by omega)
    rw [e_78_4, m_told h0, q_obS, a_rd h2 (by decide) (by decide), q_obS, if_neg (nI_ge hi (by omega)), m_s h0, q_obS, a_rd h4 (by omega) (by decide), q_obS, q_obS, nI_add, a_rd h2 (by omega) (by decide), q_obS]
    by_cases e : P i = T (20 + i)
    · rw [if_pos (by rw [e]), e_78_40, n_or, nI_add, Nat.or_zero, bits_f (c := fun f => !(P f == T (20 + f))) (by simp [e])]
    · rw [if_neg (fun q => e ((nI_eq (by omega) (by omega)).mp q)), e_78_40, bits_step (by omega), nI_add, bits_t (c := fun f => !(P f == T (20 + f))) (by simp [e])]
  · try dsimp only
    rw [e_78_4, m_told h0, q_obS, a_rd h2 (by decide) (by decide), q_obS, if_pos (nI_le (Nat.le_refl _) (by omega))]
    rfl
theorem o_now {σ : qH} {x : Nat} (h : QV σ x) (w : Int32) : QO σ x 77 79 [.int w] := by
  obtain ⟨p, tx, n, T, P, Hs, kn, I, kp, W, no, tr, C, D, z, zz, hC, hD, hX, hM, hQ, h0, ⟨hp, hpo⟩, he, ⟨hz, z0, z1, z2⟩, m0, m2, m4⟩ := h.facts
  obtain ⟨nx, hnx, hpa0, -⟩ := hX.2.2.2.2.2.1
  have hpa : σ.1 (x + 5) = some (paC x nx kn) := by rw [← hpa0]; exact hC.at 5 (by decide) (by decide)
  have hk : q_getI σ (.ref (x + 5)) 2 2 = some (nI kn) := g_I hpa rfl
  obtain ⟨b1, b2, hT, hP, b5⟩ := hQ
  have he' : σ.1 (x + 3) = some (evR (nI (pkS P)) (lN (pkL (fun i => P (15 + i)))) (lN (pkL (fun i => P (5 + i)))) (lN (pkL (fun i => P (10 + i)))) (nI (P 20)) (nI (P 21))) := he
  refine QO.ro (v := .int (if w = nI 0 then nI (P 21) else if w = nI 1 then nI (strF T P) else if w = nI 2 then nI (P 20) else if w = nI 3 then nI (sumN (fun i => P (15 + i)) 5) else if w = nI 4 then nI (sumN (fun i => P (10 + i)) 5) else if w = nI 5 then nI kn else -1)) h ?_ ?_
  · rw [k_77 h0, e_77_0]
    simp only [x_plan h0, x_evening h0, x_past h0, q_obS, ev_night he', ev_places he', ev_dogs he', ev_carpets he', ev_lambs he', c_strays hp hT hP, c_sum hP.l.2.2, c_sum hP.l.2.1, q_cIS, hk]
    repeat' split
    all_goals rfl
  · rw [k_79 m0, e_79_0]
    refine (q_for (fun i => q_run 79 7 [(0, .ref (x + 24)), (1, .int w), (2, .int (nI (sumN (fun i => P (15 + i)) i))), (3, .int (nI (sumN (fun i => P (10 + i)) i))), (4, .int (nI i))] [] σ) 5 (fun i hi => ?_)).trans ?_
    · try dsimp only
      rw [e_79_7, if_neg (nI_ge hi (by omega))]
      simp (disch := omega) only [m_s m0, q_obS, nI_add, a_rd m4]
      rfl
    · try dsimp only
      rw [e_79_7, if_pos (nI_le (Nat.le_refl _) (by decide))]
      simp (disch := omega) only [m_s m0, q_obS, a_rd m4, m_strays m0 m2 m4 hT hP, q_cIS, m_known m0, z1]
      repeat' split
      all_goals rfl
section RT
variable {σ : qH} {x p n kp : Nat} {tr : Int64} {T P : Nat → Nat} {zz : Int32}
theorem c_pile (h0 : σ.1 x = some (xC x p n kp tr)) (hp : σ.1 p = some (planC T zz)) (hpo : p = x + 2 ∨ x + 36 ≤ p) (hT : WT T) {f : Nat} (hf : f < 5) :
    q_call 143 [.ref x, .int (nI f)] σ = some (some (.int (nI (T (25 + f)))), q_upd σ x (xC x p n kp (tr + lN 1))) := by
  have ha : (q_upd σ x (xC x p n kp (tr + lN 1))).1 x = some (xC x p n kp (tr + lN 1)) := u_s ..
  have hb : (q_upd σ x (xC x p n kp (tr + lN 1))).1 p = some (planC T zz) := (u_n _ _ (by omega)).trans hp
  rw [k_143 h0, e_143_0, x_traced h0, q_obS, xp_traced h0, q_obS, x_plan ha, q_obS, pl_hungers hb, q_obS, c_lane hT.l.2.2.2.1 hf, q_cIS, q_obS]
theorem c_cord (h0 : σ.1 x = some (xC x p n kp tr)) (hp : σ.1 p = some (planC T zz)) (hpo : p = x + 2 ∨ x + 36 ≤ p) (he : σ.1 (x + 3) = some (evC P)) (hT : WT T) (hP : WP T P) {f : Nat} (hf : f < T 1) :
    q_call 144 [.ref x, .int (nI f)] σ = some (some (.int (nI (T (25 + f)) + nI (P (15 + P f)))), q_upd σ x (xC x p n kp (tr + lN 10 + lN 1))) := by
  have t1 := hT.2.1
  have t0 := hT.1
  have hpf := hP.1 f hf
  have ha : (q_upd σ x (xC x p n kp (tr + lN 10))).1 x = some (xC x p n kp (tr + lN 10)) := u_s ..
  have hb : (q_upd σ x (xC x p n kp (tr + lN 10))).1 p = some (planC T zz) := (u_n _ _ (by omega)).trans hp
  have ha2 : (q_upd σ x (xC x p n kp (tr + lN 10 + lN 1))).1 x = some (xC x p n kp (tr + lN 10 + lN 1)) := u_s ..
  have hc : (q_upd σ x (xC x p n kp (tr + lN 10 + lN 1))).1 (x + 3) = some (evR (nI (pkS P)) (lN (pkL (fun i => P (15 + i)))) (lN (pkL (fun i => P (5 + i)))) (lN (pkL (fun i => P (10 + i)))) (nI (P 20)) (nI (P 21))) := (u_n _ _ (by omega)).trans he
  rw [k_144 h0, e_144_0, x_traced h0, q_obS, xp_traced h0, q_obS, c_pile ha hb hpo hT (by omega), q_cIS, q_obS, u_u]
  dsimp only
  rw [x_evening ha2, q_obS, ev_carpets hc, q_obS, q_obS, ev_places hc, q_obS, c_spot (hP.p8 hT) (by omega), q_cIS, q_obS]
  dsimp only
  rw [c_lane hP.l.2.2 (by omega), q_cIS, q_obS]
theorem c_nap (h0 : σ.1 x = some (xC x p n kp tr)) (hp : σ.1 p = some (planC T zz)) (hpo : p = x + 2 ∨ x + 36 ≤ p) (he : σ.1 (x + 3) = some (evC P)) (hT : WT T) (hP : WP T P) {f : Nat} (hf : f < T 1) :
    q_call 145 [.ref x, .int (nI f)] σ = some (some (.int (nI (T (25 + f)) - nI (P (10 + f)))), q_upd σ x (xC x p n kp (tr + lN 100 + lN 1))) := by
  have t1 := hT.2.1
  have ha : (q_upd σ x (xC x p n kp (tr + lN 100))).1 x = some (xC x p n kp (tr + lN 100)) := u_s ..
  have hb : (q_upd σ x (xC x p n kp (tr + lN 100))).1 p = some (planC T zz) := (u_n _ _ (by omega)).trans hp
  have ha2 : (q_upd σ x (xC x p n kp (tr + lN 100 + lN 1))).1 x = some (xC x p n kp (tr + lN 100 + lN 1)) := u_s ..
  have hc : (q_upd σ x (xC x p n kp (tr + lN 100 + lN 1))).1 (x + 3) = some (evR (nI (pkS P)) (lN (pkL (fun i => P (15 + i)))) (lN (pkL (fun i => P (5 + i)))) (lN (pkL (fun i => P (10 + i)))) (nI (P 20)) (nI (P 21))) := (u_n _ _ (by omega)).trans he
  rw [k_145 h0, e_145_0, x_traced h0, q_obS, xp_traced h0, q_obS, c_pile ha hb hpo hT (by omega), q_cIS, q_obS, u_u]
  dsimp only
  rw [x_evening ha2, q_obS, ev_lambs hc, q_obS, c_lane hP.l.2.1 (by omega), q_cIS, q_obS]
theorem c_damask (h0 : σ.1 x = some (xC x p n kp tr)) (hp : σ.1 p = some (planC T zz)) (hpo : p = x + 2 ∨ x + 36 ≤ p) (he : σ.1 (x + 3) = some (evC P)) (hT : WT T) (hP : WP T P) {f : Nat} (hf : f < T 1) :
    q_call 146 [.ref x, .int (nI f)] σ = some (some (.int (nI 2 * (nI (T (25 + f)) + nI (P (15 + P f))))), q_upd σ x (xC x p n kp (tr + lN 1000 + lN 10 + lN 1))) := by
  have ha : (q_upd σ x (xC x p n kp (tr + lN 1000))).1 x = some (xC x p n kp (tr + lN 1000)) := u_s ..
  have hb : (q_upd σ x (xC x p n kp (tr + lN 1000))).1 p = some (planC T zz) := (u_n _ _ (by omega)).trans hp
  have hc : (q_upd σ x (xC x p n kp (tr + lN 1000))).1 (x + 3) = some (evC P) := (u_n _ _ (by omega)).trans he
  rw [k_146 h0, e_146_0, x_traced h0, q_obS, xp_traced h0, q_obS, c_cord ha hb hpo hc hT hP hf, q_cIS, q_obS, u_u]
theorem c_velvet (h0 : σ.1 x = some (xC x p n kp tr)) (hp : σ.1 p = some (planC T zz)) (hpo : p = x + 2 ∨ x + 36 ≤ p) (he : σ.1 (x + 3) = some (evC P)) (hT : WT T) (hP : WP T P) {f : Nat} (hf : f < T 1) :
    q_call 147 [.ref x, .int (nI f)] σ = some (some (.int (nI (T (25 + f)) - nI (P (10 + f)) + nI f)), q_upd σ x (xC x p n kp (tr + lN 10000 + lN 100 + lN 1))) := by
  have ha : (q_upd σ x (xC x p n kp (tr + lN 10000))).1 x = some (xC x p n kp (tr + lN 10000)) := u_s ..
  have hb : (q_upd σ x (xC x p n kp (tr + lN 10000))).1 p = some (planC T zz) := (u_n _ _ (by omega)).trans hp
  have hc : (q_upd σ x (xC x p n kp (tr + lN 10000))).1 (x + 3) = some (evC P) := (u_n _ _ (by omega)).trans he
  rw [k_147 h0, e_147_0, x_traced h0, q_obS, xp_traced h0, q_obS, c_nap ha hb hpo hc hT hP hf, q_cIS, q_obS, u_u]
theorem c_fringe (h0 : σ.1 x = some (xC x p n kp tr)) (hp : σ.1 p = some (planC T zz)) (hpo : p = x + 2 ∨ x + 36 ≤ p) (he : σ.1 (x + 3) = some (evC P)) (hT : WT T) {f : Nat} (hf : f < T 1) :
    q_call 148 [.ref x, .int (nI f)] σ = some (some (.int (nI (T (25 + f)) + nI (P 21))), q_upd σ x (xC x p n kp (tr + lN 100000 + lN 1))) := by
  have t1 := hT.2.1
  have ha : (q_upd σ x (xC x p n kp (tr + lN 100000))).1 x = some (xC x p n kp (tr + lN 100000)) := u_s ..
  have hb : (q_upd σ x (xC x p n kp (tr + lN 100000))).1 p = some (planC T zz) := (u_n _ _ (by omega)).trans hp
  have ha2 : (q_upd σ x (xC x p n kp (tr + lN 100000 + lN 1))).1 x = some (xC x p n kp (tr + lN 100000 + lN 1)) := u_s ..
  have hc : (q_upd σ x (xC x p n kp (tr + lN 100000 + lN 1))).1 (x + 3) = some (evR (nI (pkS P)) (lN (pkL (fun i => P (15 + i)))) (lN (pkL (fun i => P (5 + i)))) (lN (pkL (fun i => P (10 + i)))) (nI (P 20)) (nI (P 21))) := (u_n _ _ (by omega)).trans he
  rw [k_148 h0, e_148_0, x_traced h0, q_obS, xp_traced h0, q_obS, c_pile ha hb hpo hT (by omega), q_cIS, q_obS, u_u]
  dsimp only
  rw [x_evening ha2, q_obS, ev_night hc, q_obS]
end RT
/-- what a kind answers, and what it adds to the trace -/
def rateV (T P : Nat → Nat) (f k : Nat) : Int32 := if k = 0 then nI (T (25 + f)) else if k = 1 then nI (T (25 + f)) + nI (P (15 + P f)) else if k = 2 then nI (T (25 + f)) - nI (P (10 + f)) else if k = 3 then nI 2 * (nI (T (25 + f)) + nI (P (15 + P f))) else if k = 4 then nI (T (25 + f)) - nI (P (10 + f)) + nI f else nI (T (25 + f)) + nI (P 21)
def rateT (k : Nat) : Int64 := if k = 0 then lN 1 else if k = 1 then lN 11 else if k = 2 then lN 101 else if k = 3 then lN 1011 else if k = 4 then lN 10101 else lN 100001
theorem i6' {i : Nat} (h : i < 6) : i = 0 ∨ i = 1 ∨ i = 2 ∨ i = 3 ∨ i = 4 ∨ i = 5 := by omega
theorem m_rate {σ : qH} {m : Nat} {tr : Int64} {z : Nat → Int32} {T P : Nat → Nat} (h0 : σ.1 m = some (mC m tr z)) (h2 : σ.1 (m + 2) = some (iA 35 T)) (h4 : σ.1 (m + 4) = some (iA 22 P)) (hT : WT T) (hP : WP T P) {f k : Nat} (hf : f < T 1) (hk : k < 6) :
    q_call 150 [.ref m, .int (nI k), .int (nI f)] σ = some (some (.int (rateV T P f k)), q_upd σ m (mC m (tr + rateT k) z)) := by
  have t1 := hT.2.1
  have t0 := hT.1
  have hpf := hP.1 f hf
  have e80 : ∀ t : Int64, q_run 150 80 [(0, .ref m), (1, .int (nI k)), (2, .int (nI f))] [.long t, .long tr, .ref m] σ = some (some (.int (rateV T P f k)), q_upd σ m (mC m (tr + t) z)) := by
    intro t
    have ha : (q_upd σ m (mC m (tr + t) z)).1 m = some (mC m (tr + t) z) := u_s ..
    have ha2 : (q_upd σ m (mC m (tr + t) z)).1 (m + 2) = some (iA 35 T) := (u_n _ _ (by omega)).trans h2
    have ha4 : (q_upd σ m (mC m (tr + t) z)).1 (m + 4) = some (iA 22 P) := (u_n _ _ (by omega)).trans h4
    rw [e_150_80, mp_trace h0, q_obS]
    simp (disch := omega) only [m_told ha, m_s ha, q_obS, nI_add, a_rd ha2, a_rd ha4]
    unfold rateV
    simp only [nI_add]
    rcases i6' hk with rfl | rfl | rfl | rfl | rfl | rfl
    · rfl
    · rw [if_neg (by decide), if_pos rfl, if_neg (by decide), if_pos rfl]
    · rw [if_neg (by decide), if_neg (by decide), if_pos rfl, if_neg (by decide), if_neg (by decide), if_pos rfl]
    · rw [if_neg (by decide), if_neg (by decide), if_neg (by decide), if_pos rfl, if_neg (by decide), if_neg (by decide), if_neg (by decide), if_pos rfl]
    · rw [if_neg (by decide), if_neg (by decide), if_neg (by decide), if_neg (by decide), if_pos rfl, if_neg (by decide), if_neg (by decide), if_neg (by decide), if_neg (by decide), if_pos rfl]
    · rw [if_neg (by decide), if_neg (by decide), if_neg (by decide), if_neg (by decide), if_neg (by decide), if_neg (by decide), if_neg (by decide), if_neg (by decide), if_neg (by decide), if_neg (by decide)]
  rw [k_150 h0, e_150_0, m_in, q_cIS, q_obS]
  dsimp only
  rw [decide_eq_true ⟨nI_le (Nat.zero_le _) (by omega), nI_le (show k ≤ 5 by omega) (by decide)⟩, if_neg (show ¬ nI (true.toNat) = nI 0 by decide), m_isFlock h0 h2 t1, q_cIS, q_obS]
  dsimp only
  rw [decide_eq_true ⟨nI_le (Nat.zero_le _) (by omega), nI_lt hf (by omega)⟩, if_neg (show ¬ nI (true.toNat) = nI 0 by decide), m_trace h0, q_obS]
  simp only [e80]
  unfold rateT
  rcases i6' hk with rfl | rfl | rfl | rfl | rfl | rfl
  · rfl
  · rw [if_neg (by decide), if_pos rfl, if_neg (by decide), if_pos rfl]
  · rw [if_neg (by decide), if_neg (by decide), if_pos rfl, if_neg (by decide), if_neg (by decide), if_pos rfl]
  · rw [if_neg (by decide), if_neg (by decide), if_neg (by decide), if_pos rfl, if_neg (by decide), if_neg (by decide), if_neg (by decide), if_pos rfl]
  · rw [if_neg (by decide), if_neg (by decide), if_neg (by decide), if_neg (by decide), if_pos rfl, if_neg (by decide), if_neg (by decide), if_neg (by decide), if_neg (by decide), if_pos rfl]
  · rw [if_neg (by decide), if_neg (by decide), if_neg (by decide), if_neg (by decide), if_neg (by decide), if_neg (by decide), if_neg (by decide), if_neg (by decide), if_neg (by decide), if_neg (by decide)]
theorem c_rate {σ : qH} {x p n kp : Nat} {tr : Int64} {T P : Nat → Nat} {zz : Int32} (h0 : σ.1 x = some (xC x p n kp tr)) (hp : σ.1 p = some (planC T zz)) (hpo : p = x + 2 ∨ x + 36 ≤ p) (he : σ.1 (x + 3) = some (evC P)) (hT : WT T) (hP : WP T P) {f k : Nat} (hf : f < T 1) (hk : k < 6) :
    q_call 149 [.ref x, .int (nI k), .int (nI f)] σ = some (some (.int (rateV T P f k)), q_upd σ x (xC x p n kp (tr + rateT k))) := by
  have t1 := hT.2.1
  rw [k_149 h0, e_149_0, x_plan h0, q_obS, c_hasFlock hp, q_cIS, q_obS]
  dsimp only
  rw [decide_eq_true ⟨nI_le (Nat.zero_le _) (by omega), nI_lt hf (by omega)⟩, if_neg (show ¬ nI (true.toNat) = nI 0 by decide)]
  unfold rateV rateT
  rcases i6' hk with rfl | rfl | rfl | rfl | rfl | rfl
  · rw [if_pos rfl, c_pile h0 hp hpo hT (by omega), q_cIS, q_obS]; rfl
  · rw [if_neg (by decide), if_pos rfl, c_cord h0 hp hpo he hT hP hf, q_cIS, q_obS, Int64.add_assoc]; rfl
  · rw [if_neg (by decide), if_neg (by decide), if_pos rfl, c_nap h0 hp hpo he hT hP hf, q_cIS, q_obS, Int64.add_assoc]; rfl
  · rw [if_neg (by decide), if_neg (by decide), if_neg (by decide), if_pos rfl, c_damask h0 hp hpo he hT hP hf, q_cIS, q_obS, Int64.add_assoc, Int64.add_assoc]; rfl
  · rw [if_neg (by decide), if_neg (by decide), if_neg (by decide), if_neg (by decide), if_pos rfl, c_velvet h0 hp hpo he hT hP hf, q_cIS, q_obS, Int64.add_assoc, Int64.add_assoc]; rfl
  · rw [if_neg (by decide), if_neg (by decide), if_neg (by decide), if_neg (by decide), if_neg (by decide), if_pos rfl, c_fringe h0 hp hpo he hT hf, q_cIS, q_obS, Int64.add_assoc]; rfl
theorem o_rate {σ : qH} {x : Nat} (h : QV σ x) (k f : Int32) : QO σ x 149 150 [.int k, .int f] := by
  obtain ⟨p, tx, n, T, P, Hs, kn, I, kp, W, no, tr, C, D, z, zz, hC, hD, hX, hM, hQ, h0, ⟨hp, hpo⟩, he, ⟨hz, z0, z1, z2⟩, m0, m2, m4⟩ := h.facts
  have hT : WT T := hQ.2.2.1
  have hP : WP T P := hQ.2.2.2.1
  have t1 := hT.2.1
  by_cases hf : 0 ≤ f ∧ f < nI (T 1)
  · obtain ⟨f, hf', rfl⟩ := n_within (by omega) hf
    rcases n_in (x := k) (N := 6) (by decide) with ⟨j, hj, rfl⟩ | ⟨hb, hk⟩
    · have h1 := c_rate h0 hp hpo he hT hP hf' hj
      have n0 : (q_upd σ x (xC x p n (bits kp 2) (tr + rateT j))).1 (x + 24) = some (mC (x + 24) tr z) := (u_n _ _ (by omega)).trans m0
      have n2 : (q_upd σ x (xC x p n (bits kp 2) (tr + rateT j))).1 (x + 24 + 2) = some (iA 35 T) := (u_n _ _ (by omega)).trans m2
      have n4 : (q_upd σ x (xC x p n (bits kp 2) (tr + rateT j))).1 (x + 24 + 4) = some (iA 22 P) := (u_n _ _ (by omega)).trans m4
      refine QO.mk h1 (m_rate n0 n2 n4 hT hP hf' hj) ⟨p, tx, n, T, P, Hs, kn, I, kp, W, no, tr + rateT j, upC C 0 (xC x p n (bits kp 2) (tr + rateT j)), upC D 0 (mC (x + 24) (tr + rateT j) z), (hC.upd (k := 0) (by decide) (by decide) _).m (k := 0) (by decide) _, (hD.x (k := 0) (by decide) _).upd (k := 0) _, hX.up0 n (tr + rateT j), ⟨⟨z, rfl, z0, z1, z2⟩, hM.2⟩, hQ⟩ rfl (fun a ha => ?_)
      rw [u_n _ _ (by omega), u_n _ _ (by omega)]
    · refine QO.ro (v := .int (-1000000)) h ?_ ?_
      · rw [k_149 h0, e_149_0, x_plan h0, q_obS, c_hasFlock hp, q_cIS, q_obS]
        dsimp only
        rw [decide_eq_true hf, if_neg (show ¬ nI (true.toNat) = nI 0 by decide), if_neg (hk 0 (by decide)), if_neg (hk 1 (by decide)), if_neg (hk 2 (by decide)), if_neg (hk 3 (by decide)), if_neg (hk 4 (by decide)), if_neg (hk 5 (by decide))]
      · rw [k_150 m0, e_150_0, m_in, q_cIS, q_obS]
        dsimp only
        rw [decide_eq_false (fun q => ?_), if_pos (show nI (false.toNat) = nI 0 from rfl), e_150_17]
        rcases hb with hb | hb
        · exact absurd hb (Int32.not_lt.mpr q.1)
        · exact absurd (Int32.le_trans hb q.2) (by decide)
  · refine QO.ro (v := .int (-1000000)) h ?_ ?_
    · rw [k_149 h0, e_149_0, x_plan h0, q_obS, c_hasFlock hp, q_cIS, q_obS]
      dsimp only
      rw [decide_eq_false hf, if_pos (show nI (false.toNat) = nI 0 from rfl)]
    · rw [k_150 m0, e_150_0, m_in, q_cIS, q_obS]
      dsimp only
      by_cases g : nI 0 ≤ k ∧ k ≤ nI 5
      · rw [decide_eq_true g, if_neg (show ¬ nI (true.toNat) = nI 0 by decide), m_isFlock m0 m2 t1, q_cIS, q_obS]
        dsimp only
        rw [decide_eq_false hf, if_pos (show nI (false.toNat) = nI 0 from rfl), e_150_17]
      · rw [decide_eq_false g, if_pos (show nI (false.toNat) = nI 0 from rfl), e_150_17]
