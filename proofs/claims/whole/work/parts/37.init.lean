/-! ===== the two constructors ===== -/
def HS (f0 : Nat → Option qE) (σ : qH) (x m : Nat) (C : Nat → qE) (s : Nat) : Prop := σ.2.1 = x + m ∧ σ.2.2 = s ∧ (∀ k, k < m → σ.1 (x + k) = some (C k)) ∧ ∀ a, a < x → σ.1 a = f0 a
section HSs
variable {f0 : Nat → Option qE} {σ : qH} {x m s : Nat} {C : Nat → qE}
theorem HS.new (h : HS f0 σ x m C s) (e : qE) (n : Nat) : ∃ σ', q_new σ e n = σ' ∧ HS f0 σ' x (m + 1) (upC C m e) (s + n) := by
  obtain ⟨h1, h2, h3, h4⟩ := h
  refine ⟨_, rfl, by show σ.2.1 + 1 = _; omega, by show σ.2.2 + n = _; omega, fun k hk => ?_, fun a ha => ?_⟩
  · show (if x + k = σ.2.1 then some e else σ.1 (x + k)) = _
    by_cases g : k = m
    · rw [if_pos (by omega), g, upC_s]
    · rw [if_neg (by omega), upC_n _ _ g]; exact h3 k (by omega)
  · show (if a = σ.2.1 then some e else σ.1 a) = _
    rw [if_neg (by omega)]; exact h4 a ha
theorem HS.newa (h : HS f0 σ x m C s) (k N : Nat) (hN : N ≤ 60000) : ∃ σ', q_newa σ k (nI N) = some σ' ∧ HS f0 σ' x (m + 1) (upC C m (.inr (k, q_zero k N))) (s + N) := by
  obtain ⟨σ', e, H⟩ := h.new (.inr (k, q_zero k N)) N
  refine ⟨σ', ?_, H⟩
  unfold q_newa
  rw [nI_clamp (by omega), if_neg (fun q => ?_), e]
  rcases q with q | q
  · exact absurd q (nI_pos (by omega))
  · omega
theorem HS.upd (h : HS f0 σ x m C s) {k : Nat} (hk : k < m) (e : qE) : HS f0 (q_upd σ (x + k) e) x m (upC C k e) s := by
  obtain ⟨h1, h2, h3, h4⟩ := h
  refine ⟨h1, h2, fun j hj => ?_, fun a ha => ?_⟩
  · by_cases g : j = k
    · rw [g, u_s, upC_s]
    · rw [u_n _ _ (by omega), upC_n _ _ g]; exact h3 j hj
  · rw [u_n _ _ (by omega)]; exact h4 a ha
theorem HS.at (h : HS f0 σ x m C s) (k : Nat) (hk : k < m) {e : qE} (he : C k = e) : σ.1 (x + k) = some e := by rw [← he]; exact h.2.2.1 k hk
theorem HS.put (h : HS f0 σ x m C s) (k : Nat) (hk : k < m) {ci : Nat} {fs : List Value} (hc : C k = .inl (ci, fs)) {j t : Nat} {y : Value} (hj : j < fs.length) (hy : q_okv t y = true) : ∃ σ', q_put σ (.ref (x + k)) ci j t y = some σ' ∧ HS f0 σ' x m (upC C k (.inl (ci, fs.set j y))) s :=
  ⟨_, p_F (h.at k hk hc) hj hy, h.upd hk _⟩
theorem HS.re (h : HS f0 σ x m C s) (k : Nat) {e : qE} (he : C k = e) : HS f0 σ x m (upC C k e) s := by
  obtain ⟨h1, h2, h3, h4⟩ := h
  refine ⟨h1, h2, fun j hj => ?_, h4⟩
  by_cases g : j = k
  · rw [g, upC_s, ← he]; exact h3 k (by omega)
  · rw [upC_n _ _ g]; exact h3 j hj
theorem HS.ev (h : HS f0 σ x m C s) (k : Nat) (hk : k < m) (hc : C k = .inl (0, q_dfl 0)) : ∃ σ', q_call 1 [.ref (x + k)] σ = some (none, σ') ∧ HS f0 σ' x m (upC C k (evC (fun _ => 0))) s := by
  have h0 : σ.1 (x + k) = some (evR 0 0 0 0 0 0) := h.at k hk hc
  have u : ∀ {e : qE}, (q_upd σ (x + k) e).1 (x + k) = some e := fun {e} => u_s ..
  refine ⟨q_upd σ (x + k) (evC (fun _ => 0)), ?_, h.upd hk _⟩
  rw [k_1 h0, e_1_0, evp_places h0, q_obS, evp_carpets u, q_obS, u_u, evp_eaten u, q_obS, u_u, evp_lambs u, q_obS, u_u, evp_dogs u, q_obS, u_u, evp_night u, q_obS, u_u]
  rfl
def refsI (n i b : Nat) : qE := .inr (4, (n, .inr (.inr (.inr (.inr (fun j => if j < i then some (b + j) else none))))))
theorem HS.astR (h : HS f0 σ x m C s) (k : Nat) (hk : k < m) {n i b : Nat} (hc : C k = refsI n i b) (hi : i < n) (hn : n < 2 ^ 31) (k2 : Nat) (hk2 : k2 < m) {vs : List Value} (hc2 : C k2 = .inl (0, vs)) (hb : b + i = x + k2) : ∃ σ', q_astR σ (.ref (x + k)) (nI i) (x + k2) = some σ' ∧ HS f0 σ' x m (upC C k (refsI n (i + 1) b)) s := by
  have a1 := h.at k hk hc
  have a2 := h.at k2 hk2 hc2
  refine ⟨q_upd σ (x + k) (refsI n (i + 1) b), ?_, h.upd hk _⟩
  unfold q_astR q_arr q_obj
  simp only [a1, a2, refsI, if_true]
  rw [if_neg (fun q => ?_), nI_clamp (by omega)]
  · congr 9
    funext j
    unfold va_up
    by_cases g : j = i
    · rw [g, if_pos rfl, if_pos (by omega), hb]
    · rw [if_neg g]
      by_cases g2 : j < i
      · show (if j < i then some (b + j) else none) = _
        rw [if_pos g2, if_pos (by omega)]
      · show (if j < i then some (b + j) else none) = _
        rw [if_neg g2, if_neg (by omega)]
  · rcases q with q | q
    · exact nI_in hi hn q
    · cases q
theorem refs_0 (n b : Nat) : (.inr (4, q_zero 4 n) : qE) = refsI n 0 b := by
  unfold refsI q_zero
  congr 6
theorem HS.alen (h : HS f0 σ x m C s) (k : Nat) (hk : k < m) {n i b : Nat} (hc : C k = refsI n i b) : q_alen σ (.ref (x + k)) 4 = some (nI n) := by
  have a1 := h.at k hk hc
  unfold q_alen q_arr
  simp only [a1, refsI, if_true]
  rfl
end HSs

def T0 : Nat → Nat := fun j => if j = 2 then 20 else 0
theorem HS.plan {f0 : Nat → Option qE} {σ : qH} {x m s : Nat} {C : Nat → qE} (h : HS f0 σ x m C s) (k : Nat) (hk : k < m) (hc : C k = .inl (3, q_dfl 3)) : ∃ σ' C', q_call 0 [.ref (x + k)] σ = some (none, σ') ∧ HS f0 σ' x m C' s ∧ C' k = planC T0 (nI 0) ∧ ∀ j, j ≠ k → C' j = C j := by
  have E := k_0 (h.at k hk hc)
  rw [e_0_0] at E
  have H0 := h
  obtain ⟨g1, e1, H1⟩ := H0.put k hk hc (j := 0) (t := 0) (y := .int (nI 0)) (show 0 < 10 by decide) rfl
  rw [e1, q_obS] at E
  obtain ⟨g2, e2, H2⟩ := H1.put k hk (upC_s ..) (j := 1) (t := 0) (y := .int (nI 0)) (show 1 < 10 by decide) rfl
  rw [e2, q_obS] at E
  obtain ⟨g3, e3, H3⟩ := H2.put k hk (upC_s ..) (j := 2) (t := 0) (y := .int (nI 20)) (show 2 < 10 by decide) rfl
  rw [e3, q_obS] at E
  obtain ⟨g4, e4, H4⟩ := H3.put k hk (upC_s ..) (j := 3) (t := 4) (y := .int (nI 0)) (show 3 < 10 by decide) rfl
  rw [e4, q_obS] at E
  obtain ⟨g5, e5, H5⟩ := H4.put k hk (upC_s ..) (j := 4) (t := 1) (y := .long (lN 0)) (show 4 < 10 by decide) rfl
  rw [e5, q_obS] at E
  obtain ⟨g6, e6, H6⟩ := H5.put k hk (upC_s ..) (j := 5) (t := 1) (y := .long (lN 0)) (show 5 < 10 by decide) rfl
  rw [e6, q_obS] at E
  obtain ⟨g7, e7, H7⟩ := H6.put k hk (upC_s ..) (j := 6) (t := 1) (y := .long (lN 0)) (show 6 < 10 by decide) rfl
  rw [e7, q_obS] at E
  obtain ⟨g8, e8, H8⟩ := H7.put k hk (upC_s ..) (j := 7) (t := 0) (y := .int (nI 0)) (show 7 < 10 by decide) rfl
  rw [e8, q_obS] at E
  obtain ⟨g9, e9, H9⟩ := H8.put k hk (upC_s ..) (j := 8) (t := 1) (y := .long (lN 0)) (show 8 < 10 by decide) rfl
  rw [e9, q_obS] at E
  obtain ⟨g10, e10, H10⟩ := H9.put k hk (upC_s ..) (j := 9) (t := 1) (y := .long (lN 0)) (show 9 < 10 by decide) rfl
  rw [e10, q_obS] at E
  exact ⟨_, _, E, H10, upC_s .., fun j hj => by rw [upC_n _ _ hj, upC_n _ _ hj, upC_n _ _ hj, upC_n _ _ hj, upC_n _ _ hj, upC_n _ _ hj, upC_n _ _ hj, upC_n _ _ hj, upC_n _ _ hj, upC_n _ _ hj]⟩
theorem HS.graz {f0 : Nat → Option qE} {σ : qH} {x m s : Nat} {C : Nat → qE} (h : HS f0 σ x m C s) (k : Nat) (hk : k < m) (hc : C k = .inl (1, q_dfl 1)) : ∃ σ' C', q_call 3 [.ref (x + k)] σ = some (none, σ') ∧ HS f0 σ' x m C' s ∧ C' k = grC (fun _ => 0) 0 (lN 0) (nI 0) (nI 0) (nI 0) ∧ ∀ j, j ≠ k → C' j = C j := by
  have E := k_3 (h.at k hk hc)
  rw [e_3_0] at E
  have H0 := h
  obtain ⟨g1, e1, H1⟩ := H0.put k hk hc (j := 0) (t := 1) (y := .long (lN 0)) (show 0 < 7 by decide) rfl
  rw [e1, q_obS] at E
  obtain ⟨g2, e2, H2⟩ := H1.put k hk (upC_s ..) (j := 1) (t := 1) (y := .long (lN 0)) (show 1 < 7 by decide) rfl
  rw [e2, q_obS] at E
  obtain ⟨g3, e3, H3⟩ := H2.put k hk (upC_s ..) (j := 2) (t := 1) (y := .long (lN 0)) (show 2 < 7 by decide) rfl
  rw [e3, q_obS] at E
  obtain ⟨g4, e4, H4⟩ := H3.put k hk (upC_s ..) (j := 3) (t := 0) (y := .int (nI 0)) (show 3 < 7 by decide) rfl
  rw [e4, q_obS] at E
  obtain ⟨g5, e5, H5⟩ := H4.put k hk (upC_s ..) (j := 4) (t := 0) (y := .int (nI 0)) (show 4 < 7 by decide) rfl
  rw [e5, q_obS] at E
  obtain ⟨g6, e6, H6⟩ := H5.put k hk (upC_s ..) (j := 5) (t := 0) (y := .int (nI 0)) (show 5 < 7 by decide) rfl
  rw [e6, q_obS] at E
  obtain ⟨g7, e7, H7⟩ := H6.put k hk (upC_s ..) (j := 6) (t := 0) (y := .int (nI 0)) (show 6 < 7 by decide) rfl
  rw [e7, q_obS] at E
  exact ⟨_, _, E, H7, upC_s .., fun j hj => by rw [upC_n _ _ hj, upC_n _ _ hj, upC_n _ _ hj, upC_n _ _ hj, upC_n _ _ hj, upC_n _ _ hj, upC_n _ _ hj]⟩
theorem HS.ring {f0 : Nat → Option qE} {σ : qH} {x m s k r : Nat} {C : Nat → qE} {fs : List Value} (h : HS f0 σ x m C s) (hk : k < m) (hr : r < m) (hkr : k ≠ r) (hc : C k = .inl (2, fs)) (hf : fs[0]? = some (.ref (x + r))) (hr2 : C r = refsI 10 0 (x + m)) : ∀ i, i ≤ 10 →
    ∃ σ' C', q_run 2 25 [(0, .ref (x + k)), (1, .int (nI 0))] [] σ = q_run 2 25 [(0, .ref (x + k)), (1, .int (nI i))] [] σ' ∧ HS f0 σ' x (m + i) C' (s + 6 * i) ∧ C' r = refsI 10 i (x + m) ∧ (∀ j, j < i → C' (m + j) = evC (fun _ => 0)) ∧ ∀ j, j < m → j ≠ r → C' j = C j
  | 0, _ => ⟨σ, C, rfl, h, hr2, fun j hj => absurd hj (Nat.not_lt_zero _), fun _ _ _ => rfl⟩
  | i + 1, hi => by
    obtain ⟨σ1, C1, E, H, c1, c2, c3⟩ := HS.ring h hk hr hkr hc hf hr2 i (by omega)
    have hc' : C1 k = .inl (2, fs) := (c3 k hk hkr).trans hc
    have g0 := H.at k (by omega) hc'
    have ga : q_getR σ1 (.ref (x + k)) 2 0 = some (x + r) := g_R g0 hf
    obtain ⟨σ2, e2, H2⟩ := H.new (.inl (0, q_dfl 0)) 6
    obtain ⟨σ3, e3, H3⟩ := H2.ev (m + i) (by omega) (upC_s ..)
    obtain ⟨σ4, e4, H4⟩ := H3.astR r (by omega) (n := 10) (i := i) (b := x + m) (by rw [upC_n _ _ (by omega), upC_n _ _ (by omega)]; exact c1) (by omega) (by decide) (m + i) (by omega) (upC_s ..) (by omega)
    refine ⟨σ4, _, ?_, H4, upC_s .., fun j hj => ?_, fun j hj hjr => ?_⟩
    · rw [E, e_2_25, ga, q_obS, H.alen r (by omega) c1, q_obS, if_neg (nI_ge (show i < 10 by omega) (by decide)), q_obS, H.1, e2, e3, q_cVS, q_obS, e4, q_obS, nI_add]
    · rw [upC_n _ _ (by omega)]
      by_cases g : j = i
      · rw [g, upC_s]
      · rw [upC_n _ _ (by omega), upC_n _ _ (by omega)]; exact c2 j (by omega)
    · rw [upC_n _ _ (by omega), upC_n _ _ (by omega), upC_n _ _ (by omega)]; exact c3 j hj hjr
theorem HS.imgs {f0 : Nat → Option qE} {σ : qH} {x m s k r : Nat} {C : Nat → qE} {fs : List Value} (h : HS f0 σ x m C s) (hk : k < m) (hr : r < m) (hkr : k ≠ r) (hc : C k = .inl (6, fs)) (hf : fs[6]? = some (.ref (x + r))) (hr2 : C r = refsI 2 0 (x + m)) : ∀ i, i ≤ 2 →
    ∃ σ' C', q_run 5 103 [(0, .ref (x + k)), (1, .int (nI 0))] [] σ = q_run 5 103 [(0, .ref (x + k)), (1, .int (nI i))] [] σ' ∧ HS f0 σ' x (m + i) C' (s + 6 * i) ∧ C' r = refsI 2 i (x + m) ∧ (∀ j, j < i → C' (m + j) = evC (fun _ => 0)) ∧ ∀ j, j < m → j ≠ r → C' j = C j
  | 0, _ => ⟨σ, C, rfl, h, hr2, fun j hj => absurd hj (Nat.not_lt_zero _), fun _ _ _ => rfl⟩
  | i + 1, hi => by
    obtain ⟨σ1, C1, E, H, c1, c2, c3⟩ := HS.imgs h hk hr hkr hc hf hr2 i (by omega)
    have hc' : C1 k = .inl (6, fs) := (c3 k hk hkr).trans hc
    have g0 := H.at k (by omega) hc'
    have ga : q_getR σ1 (.ref (x + k)) 6 6 = some (x + r) := g_R g0 hf
    obtain ⟨σ2, e2, H2⟩ := H.new (.inl (0, q_dfl 0)) 6
    obtain ⟨σ3, e3, H3⟩ := H2.ev (m + i) (by omega) (upC_s ..)
    obtain ⟨σ4, e4, H4⟩ := H3.astR r (by omega) (n := 2) (i := i) (b := x + m) (by rw [upC_n _ _ (by omega), upC_n _ _ (by omega)]; exact c1) (by omega) (by decide) (m + i) (by omega) (upC_s ..) (by omega)
    refine ⟨σ4, _, ?_, H4, upC_s .., fun j hj => ?_, fun j hj hjr => ?_⟩
    · rw [E, e_5_103, ga, q_obS, H.alen r (by omega) c1, q_obS, if_neg (nI_ge (show i < 2 by omega) (by decide)), q_obS, H.1, e2, e3, q_cVS, q_obS, e4, q_obS, nI_add]
    · rw [upC_n _ _ (by omega)]
      by_cases g : j = i
      · rw [g, upC_s]
      · rw [upC_n _ _ (by omega), upC_n _ _ (by omega)]; exact c2 j (by omega)
    · rw [upC_n _ _ (by omega), upC_n _ _ (by omega), upC_n _ _ (by omega)]; exact c3 j hj hjr
theorem HS.past {f0 : Nat → Option qE} {σ : qH} {x m s : Nat} {C : Nat → qE} (h : HS f0 σ x m C s) (k : Nat) (hk : k < m) (hc : C k = .inl (2, q_dfl 2)) : ∃ σ' C', q_call 2 [.ref (x + k)] σ = some (none, σ') ∧ HS f0 σ' x (m + 11) C' (s + 70) ∧ C' k = .inl (2, [.ref (x + m), .int (nI 0), .int (nI 0)]) ∧ C' m = refsI 10 10 (x + m + 1) ∧ (∀ j, j < 10 → C' (m + 1 + j) = evC (fun _ => 0)) ∧ ∀ j, j < m → j ≠ k → C' j = C j := by
  have E := k_2 (h.at k hk hc)
  rw [e_2_0] at E
  obtain ⟨g1, e1, H1⟩ := h.newa 4 10 (by decide)
  rw [e1, q_obS, h.1] at E
  obtain ⟨g2, e2, H2⟩ := H1.put k (by omega) ((upC_n _ _ (by omega)).trans hc) (j := 0) (t := 2) (y := .ref (x + m)) (show 0 < 3 by decide) rfl
  rw [e2, q_obS] at E
  obtain ⟨g3, e3, H3⟩ := H2.put k (by omega) (upC_s ..) (j := 1) (t := 0) (y := .int (nI 0)) (show 1 < 3 by decide) rfl
  rw [e3, q_obS] at E
  obtain ⟨g4, e4, H4⟩ := H3.put k (by omega) (upC_s ..) (j := 2) (t := 0) (y := .int (nI 0)) (show 2 < 3 by decide) rfl
  rw [e4, q_obS] at E
  obtain ⟨g5, C5, E5, H5, d1, d2, d3⟩ := HS.ring (r := m) H4 (by omega) (by omega) (by omega) (upC_s ..) rfl (by rw [upC_n _ _ (by omega), upC_n _ _ (by omega), upC_n _ _ (by omega), upC_s]; exact refs_0 10 _) 10 (by decide)
  have p0 : C5 k = .inl (2, [.ref (x + m), .int (nI 0), .int (nI 0)]) := (d3 k (by omega) (by omega)).trans (upC_s ..)
  have ga : q_getR g5 (.ref (x + k)) 2 0 = some (x + m) := g_R (H5.at k (by omega) p0) rfl
  refine ⟨g5, C5, ?_, ?_, p0, ?_, fun j hj => ?_, fun j hj hjk => ?_⟩
  · rw [E, E5, e_2_25, ga, q_obS, H5.alen m (by omega) d1, q_obS, if_pos (nI_le (Nat.le_refl _) (by decide))]
  · exact H5
  · exact d1
  · exact d2 j hj
  · rw [d3 j (by omega) (by omega), upC_n _ _ hjk, upC_n _ _ hjk, upC_n _ _ hjk, upC_n _ _ (by omega)]
theorem HS.way {f0 : Nat → Option qE} {σ : qH} {x m s : Nat} {C : Nat → qE} (h : HS f0 σ x m C s) (k : Nat) (hk : k < m) (hc : C k = .inl (5, q_dfl 5)) : ∃ σ' C', q_call 4 [.ref (x + k)] σ = some (none, σ') ∧ HS f0 σ' x (m + 2) C' (s + 3125 + 512) ∧ C' k = .inl (5, [.ref (x + m), .ref (x + (m + 1)), .int (nI 0), .int (-9), .int (-9)]) ∧ C' m = iF 3125 (fun _ => 0) ∧ C' (m + 1) = lF 512 (fun _ => 0) ∧ ∀ j, j < m → j ≠ k → C' j = C j := by
  have E := k_4 (h.at k hk hc)
  rw [e_4_0] at E
  obtain ⟨g1, e1, H1⟩ := h.newa 1 3125 (by decide)
  rw [e1, q_obS, h.1] at E
  obtain ⟨g2, e2, H2⟩ := H1.put k (by omega) ((upC_n _ _ (by omega)).trans hc) (j := 0) (t := 2) (y := .ref (x + m)) (show 0 < 5 by decide) rfl
  rw [e2, q_obS] at E
  obtain ⟨g3, e3, H3⟩ := H2.newa 2 512 (by decide)
  rw [e3, q_obS, H2.1] at E
  obtain ⟨g4, e4, H4⟩ := H3.put k (by omega) ((upC_n _ _ (by omega)).trans (upC_s ..)) (j := 1) (t := 2) (y := .ref (x + (m + 1))) (show 1 < 5 by decide) rfl
  rw [e4, q_obS] at E
  obtain ⟨g5, e5, H5⟩ := H4.put k (by omega) (upC_s ..) (j := 2) (t := 0) (y := .int (nI 0)) (show 2 < 5 by decide) rfl
  rw [e5, q_obS] at E
  obtain ⟨g6, e6, H6⟩ := H5.put k (by omega) (upC_s ..) (j := 3) (t := 0) (y := .int (-9)) (show 3 < 5 by decide) rfl
  rw [e6, q_obS] at E
  obtain ⟨g7, e7, H7⟩ := H6.put k (by omega) (upC_s ..) (j := 4) (t := 0) (y := .int (-9)) (show 4 < 5 by decide) rfl
  rw [e7, q_obS] at E
  refine ⟨g7, _, E, H7, upC_s .., ?_, ?_, fun j hj hjk => ?_⟩
  · rw [upC_n _ _ (by omega), upC_n _ _ (by omega), upC_n _ _ (by omega), upC_n _ _ (by omega), upC_n _ _ (by omega), upC_n _ _ (by omega), upC_s]; rfl
  · rw [upC_n _ _ (by omega), upC_n _ _ (by omega), upC_n _ _ (by omega), upC_n _ _ (by omega), upC_s]; rfl
  · rw [upC_n _ _ hjk, upC_n _ _ hjk, upC_n _ _ hjk, upC_n _ _ hjk, upC_n _ _ (by omega), upC_n _ _ hjk, upC_n _ _ (by omega)]

section HSu
variable {f0 : Nat → Option qE} {σ : qH} {x m s : Nat} {C : Nat → qE}
theorem HS.newU (h : HS f0 σ x m C s) (e : qE) (n : Nat) : ∃ σ' C', q_new σ e n = σ' ∧ HS f0 σ' x (m + 1) C' (s + n) ∧ C' m = e ∧ ∀ j, j ≠ m → C' j = C j := by
  obtain ⟨σ', e1, H⟩ := h.new e n
  exact ⟨σ', _, e1, H, upC_s .., fun j hj => upC_n _ _ hj⟩
theorem HS.newaU (h : HS f0 σ x m C s) (k N : Nat) (hN : N ≤ 60000) : ∃ σ' C', q_newa σ k (nI N) = some σ' ∧ HS f0 σ' x (m + 1) C' (s + N) ∧ C' m = .inr (k, q_zero k N) ∧ ∀ j, j ≠ m → C' j = C j := by
  obtain ⟨σ', e1, H⟩ := h.newa k N hN
  exact ⟨σ', _, e1, H, upC_s .., fun j hj => upC_n _ _ hj⟩
theorem HS.putU (h : HS f0 σ x m C s) (k : Nat) (hk : k < m) {ci : Nat} {fs : List Value} (hc : C k = .inl (ci, fs)) {j t : Nat} {y : Value} (hj : j < fs.length) (hy : q_okv t y = true) : ∃ σ' C', q_put σ (.ref (x + k)) ci j t y = some σ' ∧ HS f0 σ' x m C' s ∧ C' k = .inl (ci, fs.set j y) ∧ ∀ j, j ≠ k → C' j = C j := by
  obtain ⟨σ', e1, H⟩ := h.put k hk hc hj hy
  exact ⟨σ', _, e1, H, upC_s .., fun j hj => upC_n _ _ hj⟩
theorem HS.evU (h : HS f0 σ x m C s) (k : Nat) (hk : k < m) (hc : C k = .inl (0, q_dfl 0)) : ∃ σ' C', q_call 1 [.ref (x + k)] σ = some (none, σ') ∧ HS f0 σ' x m C' s ∧ C' k = evC (fun _ => 0) ∧ ∀ j, j ≠ k → C' j = C j := by
  obtain ⟨σ', e1, H⟩ := h.ev k hk hc
  exact ⟨σ', _, e1, H, upC_s .., fun j hj => upC_n _ _ hj⟩
end HSu
def XI (C : Nat → qE) (x : Nat) : Prop := C 0 = xC x (x + 2) 0 0 (lN 0) ∧ C 1 = .inr (0, (120, .inl (fun _ => nI 0))) ∧ C 2 = planC T0 (nI 0) ∧ C 3 = evC (fun _ => 0) ∧ C 4 = evC (fun _ => 0) ∧ C 5 = paC x 0 0 ∧ C 6 = refs 10 (x + 7) ∧ (∀ j, j < 10 → C (7 + j) = evC (fun _ => 0)) ∧ C 17 = refs 2 (x + 22) ∧ C 18 = grC (fun _ => 0) 0 (lN 0) (nI 0) (nI 0) (nI 0) ∧ C 19 = wbC x (nI 0) (-9) (-9) ∧ C 20 = iF 3125 (fun _ => 0) ∧ C 21 = lF 512 (fun _ => 0) ∧ (∀ j, j < 2 → C (22 + j) = evC (fun _ => 0))
theorem c_init {f0 : Nat → Option qE} {σ : qH} {x : Nat} {C : Nat → qE} (h : HS f0 σ x 1 C 11) (hc : C 0 = .inl (6, q_dfl 6)) : ∃ σ' C', q_call 5 [.ref x] σ = some (none, σ') ∧ HS f0 σ' x 24 C' 3889 ∧ XI C' x := by
  have E := k_5 (h.at 0 (by decide) hc)
  rw [e_5_0] at E
  obtain ⟨g1, C1, e1, H1, c1, d1⟩ := HS.newaU h 0 120 (by decide)
  replace H1 : HS f0 g1 x 2 C1 _ := H1
  rw [e1, q_obS, (h).1] at E
  have F1_0 := (d1 0 (by decide)).trans hc
  obtain ⟨g2, C2, e2, H2, c2, d2⟩ := HS.putU H1 0 (by decide) F1_0 (j := 0) (t := 2) (y := .ref (x + 1)) (show 0 < 11 by decide) rfl
  rw [e2, q_obS] at E
  have F2_1 := (d2 1 (by decide)).trans c1
  obtain ⟨g3, C3, e3, H3, c3, d3⟩ := HS.putU H2 0 (by decide) c2 (j := 1) (t := 0) (y := .int (nI 0)) (show 1 < 11 by decide) rfl
  rw [e3, q_obS] at E
  have F3_1 := (d3 1 (by decide)).trans F2_1
  obtain ⟨g4, C4, e4, H4, c4, d4⟩ := HS.newU H3 (.inl (3, q_dfl 3)) 10
  replace H4 : HS f0 g4 x 3 C4 _ := H4
  rw [(H3).1, e4] at E
  have F4_1 := (d4 1 (by decide)).trans F3_1
  have F4_0 := (d4 0 (by decide)).trans c3
  obtain ⟨g5, C5, e5, H5, c5, d5⟩ := HS.plan H4 2 (by decide) c4
  rw [e5, q_cVS, q_obS] at E
  have F5_1 := (d5 1 (by decide)).trans F4_1
  have F5_0 := (d5 0 (by decide)).trans F4_0
  obtain ⟨g6, C6, e6, H6, c6, d6⟩ := HS.putU H5 0 (by decide) F5_0 (j := 2) (t := 2) (y := .ref (x + 2)) (show 2 < 11 by decide) rfl
  rw [e6, q_obS] at E
  have F6_1 := (d6 1 (by decide)).trans F5_1
  have F6_2 := (d6 2 (by decide)).trans c5
  obtain ⟨g7, C7, e7, H7, c7, d7⟩ := HS.newU H6 (.inl (0, q_dfl 0)) 6
  replace H7 : HS f0 g7 x 4 C7 _ := H7
  rw [(H6).1, e7] at E
  have F7_1 := (d7 1 (by decide)).trans F6_1
  have F7_2 := (d7 2 (by decide)).trans F6_2
  have F7_0 := (d7 0 (by decide)).trans c6
  obtain ⟨g8, C8, e8, H8, c8, d8⟩ := HS.evU H7 3 (by decide) c7
  rw [e8, q_cVS, q_obS] at E
  have F8_1 := (d8 1 (by decide)).trans F7_1
  have F8_2 := (d8 2 (by decide)).trans F7_2
  have F8_0 := (d8 0 (by decide)).trans F7_0
  obtain ⟨g9, C9, e9, H9, c9, d9⟩ := HS.putU H8 0 (by decide) F8_0 (j := 3) (t := 2) (y := .ref (x + 3)) (show 3 < 11 by decide) rfl
  rw [e9, q_obS] at E
  have F9_1 := (d9 1 (by decide)).trans F8_1
  have F9_2 := (d9 2 (by decide)).trans F8_2
  have F9_3 := (d9 3 (by decide)).trans c8
  obtain ⟨g10, C10, e10, H10, c10, d10⟩ := HS.newU H9 (.inl (0, q_dfl 0)) 6
  replace H10 : HS f0 g10 x 5 C10 _ := H10
  rw [(H9).1, e10] at E
  have F10_1 := (d10 1 (by decide)).trans F9_1
  have F10_2 := (d10 2 (by decide)).trans F9_2
  have F10_3 := (d10 3 (by decide)).trans F9_3
  have F10_0 := (d10 0 (by decide)).trans c9
  obtain ⟨g11, C11, e11, H11, c11, d11⟩ := HS.evU H10 4 (by decide) c10
  rw [e11, q_cVS, q_obS] at E
  have F11_1 := (d11 1 (by decide)).trans F10_1
  have F11_2 := (d11 2 (by decide)).trans F10_2
  have F11_3 := (d11 3 (by decide)).trans F10_3
  have F11_0 := (d11 0 (by decide)).trans F10_0
  obtain ⟨g12, C12, e12, H12, c12, d12⟩ := HS.putU H11 0 (by decide) F11_0 (j := 4) (t := 2) (y := .ref (x + 4)) (show 4 < 11 by decide) rfl
  rw [e12, q_obS] at E
  have F12_1 := (d12 1 (by decide)).trans F11_1
  have F12_2 := (d12 2 (by decide)).trans F11_2
  have F12_3 := (d12 3 (by decide)).trans F11_3
  have F12_4 := (d12 4 (by decide)).trans c11
  obtain ⟨g13, C13, e13, H13, c13, d13⟩ := HS.newU H12 (.inl (2, q_dfl 2)) 3
  replace H13 : HS f0 g13 x 6 C13 _ := H13
  rw [(H12).1, e13] at E
  have F13_1 := (d13 1 (by decide)).trans F12_1
  have F13_2 := (d13 2 (by decide)).trans F12_2
  have F13_3 := (d13 3 (by decide)).trans F12_3
  have F13_4 := (d13 4 (by decide)).trans F12_4
  have F13_0 := (d13 0 (by decide)).trans c12
  obtain ⟨g14, C14, e14, H14, c14, cr14, cv14, d14⟩ := HS.past H13 5 (by decide) c13
  replace H14 : HS f0 g14 x 17 C14 _ := H14
  rw [e14, q_cVS, q_obS] at E
  have F14_1 := (d14 1 (by decide) (by decide)).trans F13_1
  have F14_2 := (d14 2 (by decide) (by decide)).trans F13_2
  have F14_3 := (d14 3 (by decide) (by decide)).trans F13_3
  have F14_4 := (d14 4 (by decide) (by decide)).trans F13_4
  have F14_0 := (d14 0 (by decide) (by decide)).trans F13_0
  obtain ⟨g15, C15, e15, H15, c15, d15⟩ := HS.putU H14 0 (by decide) F14_0 (j := 5) (t := 2) (y := .ref (x + 5)) (show 5 < 11 by decide) rfl
  rw [e15, q_obS] at E
  have F15_1 := (d15 1 (by decide)).trans F14_1
  have F15_2 := (d15 2 (by decide)).trans F14_2
  have F15_3 := (d15 3 (by decide)).trans F14_3
  have F15_4 := (d15 4 (by decide)).trans F14_4
  have F15_5 := (d15 5 (by decide)).trans c14
  have F15_6 := (d15 6 (by decide)).trans cr14
  have F15_7 := (d15 7 (by decide)).trans (cv14 0 (by decide))
  have F15_8 := (d15 8 (by decide)).trans (cv14 1 (by decide))
  have F15_9 := (d15 9 (by decide)).trans (cv14 2 (by decide))
  have F15_10 := (d15 10 (by decide)).trans (cv14 3 (by decide))
  have F15_11 := (d15 11 (by decide)).trans (cv14 4 (by decide))
  have F15_12 := (d15 12 (by decide)).trans (cv14 5 (by decide))
  have F15_13 := (d15 13 (by decide)).trans (cv14 6 (by decide))
  have F15_14 := (d15 14 (by decide)).trans (cv14 7 (by decide))
  have F15_15 := (d15 15 (by decide)).trans (cv14 8 (by decide))
  have F15_16 := (d15 16 (by decide)).trans (cv14 9 (by decide))
  obtain ⟨g16, C16, e16, H16, c16, d16⟩ := HS.newaU H15 4 2 (by decide)
  replace H16 : HS f0 g16 x 18 C16 _ := H16
  rw [e16, q_obS, (H15).1] at E
  have F16_1 := (d16 1 (by decide)).trans F15_1
  have F16_2 := (d16 2 (by decide)).trans F15_2
  have F16_3 := (d16 3 (by decide)).trans F15_3
  have F16_4 := (d16 4 (by decide)).trans F15_4
  have F16_5 := (d16 5 (by decide)).trans F15_5
  have F16_6 := (d16 6 (by decide)).trans F15_6
  have F16_7 := (d16 7 (by decide)).trans F15_7
  have F16_8 := (d16 8 (by decide)).trans F15_8
  have F16_9 := (d16 9 (by decide)).trans F15_9
  have F16_10 := (d16 10 (by decide)).trans F15_10
  have F16_11 := (d16 11 (by decide)).trans F15_11
  have F16_12 := (d16 12 (by decide)).trans F15_12
  have F16_13 := (d16 13 (by decide)).trans F15_13
  have F16_14 := (d16 14 (by decide)).trans F15_14
  have F16_15 := (d16 15 (by decide)).trans F15_15
  have F16_16 := (d16 16 (by decide)).trans F15_16
  have F16_0 := (d16 0 (by decide)).trans c15
  obtain ⟨g17, C17, e17, H17, c17, d17⟩ := HS.putU H16 0 (by decide) F16_0 (j := 6) (t := 2) (y := .ref (x + 17)) (show 6 < 11 by decide) rfl
  rw [e17, q_obS] at E
  have F17_1 := (d17 1 (by decide)).trans F16_1
  have F17_2 := (d17 2 (by decide)).trans F16_2
  have F17_3 := (d17 3 (by decide)).trans F16_3
  have F17_4 := (d17 4 (by decide)).trans F16_4
  have F17_5 := (d17 5 (by decide)).trans F16_5
  have F17_6 := (d17 6 (by decide)).trans F16_6
  have F17_7 := (d17 7 (by decide)).trans F16_7
  have F17_8 := (d17 8 (by decide)).trans F16_8
  have F17_9 := (d17 9 (by decide)).trans F16_9
  have F17_10 := (d17 10 (by decide)).trans F16_10
  have F17_11 := (d17 11 (by decide)).trans F16_11
  have F17_12 := (d17 12 (by decide)).trans F16_12
  have F17_13 := (d17 13 (by decide)).trans F16_13
  have F17_14 := (d17 14 (by decide)).trans F16_14
  have F17_15 := (d17 15 (by decide)).trans F16_15
  have F17_16 := (d17 16 (by decide)).trans F16_16
  have F17_17 := (d17 17 (by decide)).trans c16
  obtain ⟨g18, C18, e18, H18, c18, d18⟩ := HS.putU H17 0 (by decide) c17 (j := 7) (t := 0) (y := .int (nI 0)) (show 7 < 11 by decide) rfl
  rw [e18, q_obS] at E
  have F18_1 := (d18 1 (by decide)).trans F17_1
  have F18_2 := (d18 2 (by decide)).trans F17_2
  have F18_3 := (d18 3 (by decide)).trans F17_3
  have F18_4 := (d18 4 (by decide)).trans F17_4
  have F18_5 := (d18 5 (by decide)).trans F17_5
  have F18_6 := (d18 6 (by decide)).trans F17_6
  have F18_7 := (d18 7 (by decide)).trans F17_7
  have F18_8 := (d18 8 (by decide)).trans F17_8
  have F18_9 := (d18 9 (by decide)).trans F17_9
  have F18_10 := (d18 10 (by decide)).trans F17_10
  have F18_11 := (d18 11 (by decide)).trans F17_11
  have F18_12 := (d18 12 (by decide)).trans F17_12
  have F18_13 := (d18 13 (by decide)).trans F17_13
  have F18_14 := (d18 14 (by decide)).trans F17_14
  have F18_15 := (d18 15 (by decide)).trans F17_15
  have F18_16 := (d18 16 (by decide)).trans F17_16
  have F18_17 := (d18 17 (by decide)).trans F17_17
  obtain ⟨g19, C19, e19, H19, c19, d19⟩ := HS.newU H18 (.inl (1, q_dfl 1)) 7
  replace H19 : HS f0 g19 x 19 C19 _ := H19
  rw [(H18).1, e19] at E
  have F19_1 := (d19 1 (by decide)).trans F18_1
  have F19_2 := (d19 2 (by decide)).trans F18_2
  have F19_3 := (d19 3 (by decide)).trans F18_3
  have F19_4 := (d19 4 (by decide)).trans F18_4
  have F19_5 := (d19 5 (by decide)).trans F18_5
  have F19_6 := (d19 6 (by decide)).trans F18_6
  have F19_7 := (d19 7 (by decide)).trans F18_7
  have F19_8 := (d19 8 (by decide)).trans F18_8
  have F19_9 := (d19 9 (by decide)).trans F18_9
  have F19_10 := (d19 10 (by decide)).trans F18_10
  have F19_11 := (d19 11 (by decide)).trans F18_11
  have F19_12 := (d19 12 (by decide)).trans F18_12
  have F19_13 := (d19 13 (by decide)).trans F18_13
  have F19_14 := (d19 14 (by decide)).trans F18_14
  have F19_15 := (d19 15 (by decide)).trans F18_15
  have F19_16 := (d19 16 (by decide)).trans F18_16
  have F19_17 := (d19 17 (by decide)).trans F18_17
  have F19_0 := (d19 0 (by decide)).trans c18
  obtain ⟨g20, C20, e20, H20, c20, d20⟩ := HS.graz H19 18 (by decide) c19
  rw [e20, q_cVS, q_obS] at E
  have F20_1 := (d20 1 (by decide)).trans F19_1
  have F20_2 := (d20 2 (by decide)).trans F19_2
  have F20_3 := (d20 3 (by decide)).trans F19_3
  have F20_4 := (d20 4 (by decide)).trans F19_4
  have F20_5 := (d20 5 (by decide)).trans F19_5
  have F20_6 := (d20 6 (by decide)).trans F19_6
  have F20_7 := (d20 7 (by decide)).trans F19_7
  have F20_8 := (d20 8 (by decide)).trans F19_8
  have F20_9 := (d20 9 (by decide)).trans F19_9
  have F20_10 := (d20 10 (by decide)).trans F19_10
  have F20_11 := (d20 11 (by decide)).trans F19_11
  have F20_12 := (d20 12 (by decide)).trans F19_12
  have F20_13 := (d20 13 (by decide)).trans F19_13
  have F20_14 := (d20 14 (by decide)).trans F19_14
  have F20_15 := (d20 15 (by decide)).trans F19_15
  have F20_16 := (d20 16 (by decide)).trans F19_16
  have F20_17 := (d20 17 (by decide)).trans F19_17
  have F20_0 := (d20 0 (by decide)).trans F19_0
  obtain ⟨g21, C21, e21, H21, c21, d21⟩ := HS.putU H20 0 (by decide) F20_0 (j := 8) (t := 2) (y := .ref (x + 18)) (show 8 < 11 by decide) rfl
  rw [e21, q_obS] at E
  have F21_1 := (d21 1 (by decide)).trans F20_1
  have F21_2 := (d21 2 (by decide)).trans F20_2
  have F21_3 := (d21 3 (by decide)).trans F20_3
  have F21_4 := (d21 4 (by decide)).trans F20_4
  have F21_5 := (d21 5 (by decide)).trans F20_5
  have F21_6 := (d21 6 (by decide)).trans F20_6
  have F21_7 := (d21 7 (by decide)).trans F20_7
  have F21_8 := (d21 8 (by decide)).trans F20_8
  have F21_9 := (d21 9 (by decide)).trans F20_9
  have F21_10 := (d21 10 (by decide)).trans F20_10
  have F21_11 := (d21 11 (by decide)).trans F20_11
  have F21_12 := (d21 12 (by decide)).trans F20_12
  have F21_13 := (d21 13 (by decide)).trans F20_13
  have F21_14 := (d21 14 (by decide)).trans F20_14
  have F21_15 := (d21 15 (by decide)).trans F20_15
  have F21_16 := (d21 16 (by decide)).trans F20_16
  have F21_17 := (d21 17 (by decide)).trans F20_17
  have F21_18 := (d21 18 (by decide)).trans c20
  obtain ⟨g22, C22, e22, H22, c22, d22⟩ := HS.newU H21 (.inl (5, q_dfl 5)) 5
  replace H22 : HS f0 g22 x 20 C22 _ := H22
  rw [(H21).1, e22] at E
  have F22_1 := (d22 1 (by decide)).trans F21_1
  have F22_2 := (d22 2 (by decide)).trans F21_2
  have F22_3 := (d22 3 (by decide)).trans F21_3
  have F22_4 := (d22 4 (by decide)).trans F21_4
  have F22_5 := (d22 5 (by decide)).trans F21_5
  have F22_6 := (d22 6 (by decide)).trans F21_6
  have F22_7 := (d22 7 (by decide)).trans F21_7
  have F22_8 := (d22 8 (by decide)).trans F21_8
  have F22_9 := (d22 9 (by decide)).trans F21_9
  have F22_10 := (d22 10 (by decide)).trans F21_10
  have F22_11 := (d22 11 (by decide)).trans F21_11
  have F22_12 := (d22 12 (by decide)).trans F21_12
  have F22_13 := (d22 13 (by decide)).trans F21_13
  have F22_14 := (d22 14 (by decide)).trans F21_14
  have F22_15 := (d22 15 (by decide)).trans F21_15
  have F22_16 := (d22 16 (by decide)).trans F21_16
  have F22_17 := (d22 17 (by decide)).trans F21_17
  have F22_18 := (d22 18 (by decide)).trans F21_18
  have F22_0 := (d22 0 (by decide)).trans c21
  obtain ⟨g23, C23, e23, H23, c23, ca23, cb23, d23⟩ := HS.way H22 19 (by decide) c22
  replace H23 : HS f0 g23 x 22 C23 _ := H23
  rw [e23, q_cVS, q_obS] at E
  have F23_1 := (d23 1 (by decide) (by decide)).trans F22_1
  have F23_2 := (d23 2 (by decide) (by decide)).trans F22_2
  have F23_3 := (d23 3 (by decide) (by decide)).trans F22_3
  have F23_4 := (d23 4 (by decide) (by decide)).trans F22_4
  have F23_5 := (d23 5 (by decide) (by decide)).trans F22_5
  have F23_6 := (d23 6 (by decide) (by decide)).trans F22_6
  have F23_7 := (d23 7 (by decide) (by decide)).trans F22_7
  have F23_8 := (d23 8 (by decide) (by decide)).trans F22_8
  have F23_9 := (d23 9 (by decide) (by decide)).trans F22_9
  have F23_10 := (d23 10 (by decide) (by decide)).trans F22_10
  have F23_11 := (d23 11 (by decide) (by decide)).trans F22_11
  have F23_12 := (d23 12 (by decide) (by decide)).trans F22_12
  have F23_13 := (d23 13 (by decide) (by decide)).trans F22_13
  have F23_14 := (d23 14 (by decide) (by decide)).trans F22_14
  have F23_15 := (d23 15 (by decide) (by decide)).trans F22_15
  have F23_16 := (d23 16 (by decide) (by decide)).trans F22_16
  have F23_17 := (d23 17 (by decide) (by decide)).trans F22_17
  have F23_18 := (d23 18 (by decide) (by decide)).trans F22_18
  have F23_0 := (d23 0 (by decide) (by decide)).trans F22_0
  obtain ⟨g24, C24, e24, H24, c24, d24⟩ := HS.putU H23 0 (by decide) F23_0 (j := 9) (t := 2) (y := .ref (x + 19)) (show 9 < 11 by decide) rfl
  rw [e24, q_obS] at E
  have F24_1 := (d24 1 (by decide)).trans F23_1
  have F24_2 := (d24 2 (by decide)).trans F23_2
  have F24_3 := (d24 3 (by decide)).trans F23_3
  have F24_4 := (d24 4 (by decide)).trans F23_4
  have F24_5 := (d24 5 (by decide)).trans F23_5
  have F24_6 := (d24 6 (by decide)).trans F23_6
  have F24_7 := (d24 7 (by decide)).trans F23_7
  have F24_8 := (d24 8 (by decide)).trans F23_8
  have F24_9 := (d24 9 (by decide)).trans F23_9
  have F24_10 := (d24 10 (by decide)).trans F23_10
  have F24_11 := (d24 11 (by decide)).trans F23_11
  have F24_12 := (d24 12 (by decide)).trans F23_12
  have F24_13 := (d24 13 (by decide)).trans F23_13
  have F24_14 := (d24 14 (by decide)).trans F23_14
  have F24_15 := (d24 15 (by decide)).trans F23_15
  have F24_16 := (d24 16 (by decide)).trans F23_16
  have F24_17 := (d24 17 (by decide)).trans F23_17
  have F24_18 := (d24 18 (by decide)).trans F23_18
  have F24_19 := (d24 19 (by decide)).trans c23
  have F24_20 := (d24 20 (by decide)).trans ca23
  have F24_21 := (d24 21 (by decide)).trans cb23
  obtain ⟨g25, C25, e25, H25, c25, d25⟩ := HS.putU H24 0 (by decide) c24 (j := 10) (t := 1) (y := .long (lN 0)) (show 10 < 11 by decide) rfl
  rw [e25, q_obS] at E
  have F25_1 := (d25 1 (by decide)).trans F24_1
  have F25_2 := (d25 2 (by decide)).trans F24_2
  have F25_3 := (d25 3 (by decide)).trans F24_3
  have F25_4 := (d25 4 (by decide)).trans F24_4
  have F25_5 := (d25 5 (by decide)).trans F24_5
  have F25_6 := (d25 6 (by decide)).trans F24_6
  have F25_7 := (d25 7 (by decide)).trans F24_7
  have F25_8 := (d25 8 (by decide)).trans F24_8
  have F25_9 := (d25 9 (by decide)).trans F24_9
  have F25_10 := (d25 10 (by decide)).trans F24_10
  have F25_11 := (d25 11 (by decide)).trans F24_11
  have F25_12 := (d25 12 (by decide)).trans F24_12
  have F25_13 := (d25 13 (by decide)).trans F24_13
  have F25_14 := (d25 14 (by decide)).trans F24_14
  have F25_15 := (d25 15 (by decide)).trans F24_15
  have F25_16 := (d25 16 (by decide)).trans F24_16
  have F25_17 := (d25 17 (by decide)).trans F24_17
  have F25_18 := (d25 18 (by decide)).trans F24_18
  have F25_19 := (d25 19 (by decide)).trans F24_19
  have F25_20 := (d25 20 (by decide)).trans F24_20
  have F25_21 := (d25 21 (by decide)).trans F24_21
  obtain ⟨σ2, C2, E2, H2, r1, r2, r3⟩ := HS.imgs (r := 17) (k := 0) H25 (by decide) (by decide) (by decide) c25 rfl (F25_17.trans (refs_0 2 _)) 2 (by decide)
  have p0 := (r3 0 (by decide) (by decide)).trans c25
  have ga : q_getR σ2 (.ref (x + 0)) 6 6 = some (x + 17) := g_R (H2.at 0 (by decide) p0) rfl
  refine ⟨σ2, C2, ?_, H2, p0, (r3 1 (by decide) (by decide)).trans F25_1, (r3 2 (by decide) (by decide)).trans F25_2, (r3 3 (by decide) (by decide)).trans F25_3, (r3 4 (by decide) (by decide)).trans F25_4, (r3 5 (by decide) (by decide)).trans F25_5, (r3 6 (by decide) (by decide)).trans F25_6, fun j hj => (r3 (7 + j) (by omega) (by omega)).trans ?_, r1, (r3 18 (by decide) (by decide)).trans F25_18, (r3 19 (by decide) (by decide)).trans F25_19, (r3 20 (by decide) (by decide)).trans F25_20, (r3 21 (by decide) (by decide)).trans F25_21, r2⟩
  · exact E.trans (by rw [E2, e_5_103, ga, q_obS, H2.alen 17 (by decide) r1, q_obS, if_pos (nI_le (Nat.le_refl _) (by decide))])
  · match j, hj with
    | 0, _ => exact F25_7 | 1, _ => exact F25_8 | 2, _ => exact F25_9 | 3, _ => exact F25_10 | 4, _ => exact F25_11 | 5, _ => exact F25_12 | 6, _ => exact F25_13 | 7, _ => exact F25_14 | 8, _ => exact F25_15 | 9, _ => exact F25_16
