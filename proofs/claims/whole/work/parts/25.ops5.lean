/-! ===== copying: evenings, rows; what the past remembers ===== -/
theorem q_cRS (a : Nat) (σ : qH) : q_cR (some (some (.ref a), σ)) = some (some a, σ) := rfl
theorem q_cRN (σ : qH) : q_cR (some (some .null, σ)) = some (none, σ) := rfl
theorem c_slot {σ : qH} {r n b : Nat} (h : σ.1 r = some (refs n b)) (hn : n < 2 ^ 31) {i : Nat} (hi : i < n) : q_call 80 [.ref r, .int (nI i)] σ = some (some (.ref (b + i)), σ) := by
  rw [k_80, e_80_0, if_neg (show ¬ nI i < nI 0 from nI_pos (by omega))]
  unfold q_alen q_arr q_aldR q_arr
  simp only [h, refs, if_true]
  rw [q_obS, show Int32.ofNat n = nI n from rfl, if_pos (nI_lt hi hn), if_neg (nI_in hi hn), nI_clamp (by omega), if_pos hi]
  rfl
theorem c_noSlot {σ : qH} {r n b : Nat} (h : σ.1 r = some (refs n b)) {i : Int32} (hi : i < nI 0 ∨ nI n ≤ i) : q_call 80 [.ref r, .int i] σ = some (some .null, σ) := by
  rw [k_80, e_80_0]
  by_cases g : i < nI 0
  · rw [if_pos g, e_80_10]
  · rw [if_neg g]
    unfold q_alen q_arr
    simp only [h, refs, if_true]
    rw [q_obS, show Int32.ofNat n = nI n from rfl, if_neg (Int32.not_lt.mpr (hi.resolve_left g)), e_80_10]
theorem c_become {σ : qH} {a b : Nat} {v1 w1 : Int32} {v2 v3 v4 w2 w3 w4 : Int64} {v5 v6 w5 w6 : Int32} (ha : σ.1 a = some (evR v1 v2 v3 v4 v5 v6)) (hb : σ.1 b = some (evR w1 w2 w3 w4 w5 w6)) (hab : a ≠ b) :
    q_call 51 [.ref a, .ref b] σ = some (none, q_upd σ a (evR w1 w2 w3 w4 w5 w6)) := by
  have fa : ∀ {e : qE}, (q_upd σ a e).1 a = some e := fun {e} => u_s σ a e
  have fb : ∀ {e : qE}, (q_upd σ a e).1 b = some (evR w1 w2 w3 w4 w5 w6) := fun {e} => (u_n σ e hab.symm).trans hb
  rw [k_51 ha, e_51_0, ev_places hb, q_obS, evp_places ha, q_obS, ev_carpets fb, q_obS, evp_carpets fa, q_obS, u_u, ev_eaten fb, q_obS, evp_eaten fa, q_obS, u_u, ev_lambs fb, q_obS, evp_lambs fa, q_obS, u_u, ev_dogs fb, q_obS, evp_dogs fa, q_obS, u_u, ev_night fb, q_obS, evp_night fa, q_obS, u_u]
theorem c_becomeE {σ : qH} {a b : Nat} {e : qE} {P : Nat → Nat} (ha : σ.1 a = some e) (he : evX e) (hb : σ.1 b = some (evC P)) (hab : a ≠ b) : q_call 51 [.ref a, .ref b] σ = some (none, q_upd σ a (evC P)) := by
  obtain ⟨v1, v2, v3, v4, v5, v6, rfl⟩ := he
  exact c_become ha hb hab
/-- a row with another laid over it from b on -/
def lay (f : Nat → Int32) (b j : Nat) (g : Nat → Int32) : Nat → Int32 := fun t => if b ≤ t ∧ t < b + j then g (t - b) else f t
theorem lay_0 (f : Nat → Int32) (b : Nat) (g : Nat → Int32) : lay f b 0 g = f := by
  funext t; exact if_neg (by omega)
theorem lay_s (f : Nat → Int32) (b j : Nat) (g : Nat → Int32) : upI (lay f b j g) (b + j) (g j) = lay f b (j + 1) g := by
  funext t
  unfold upI lay
  by_cases h : t = b + j
  · subst h; rw [if_pos rfl, if_pos (by omega)]; congr 1; omega
  · rw [if_neg h]
    by_cases g : b ≤ t ∧ t < b + j
    · rw [if_pos g, if_pos (by omega)]
    · rw [if_neg g, if_neg (by omega)]
theorem lay_in (f : Nat → Int32) {b j : Nat} (g : Nat → Int32) {k : Nat} (hk : k < j) : lay f b j g (b + k) = g k := by
  unfold lay; rw [if_pos (by omega)]; congr 1; omega
theorem lay_out (f : Nat → Int32) {b j : Nat} (g : Nat → Int32) {t : Nat} (ht : t < b ∨ b + j ≤ t) : lay f b j g t = f t := if_neg (by omega)
theorem f_rd {σ : qH} {a n : Nat} {f : Nat → Int32} (h : σ.1 a = some (iF n f)) {j : Nat} (hj : j < n) (hn : n < 2 ^ 31) : q_aldI σ (.ref a) 1 (nI j) = some (f j) := by
  unfold q_aldI q_arr
  simp only [h, iF, if_true]
  rw [if_neg (nI_in hj hn), nI_clamp (by omega)]
theorem updI {f : Nat → Int32} {j : Nat} (hj : j < 2 ^ 31) (v : Int32) : upd f (nI j).toNatClampNeg v = upI f j v := by
  rw [nI_clamp hj]; rfl
theorem f_wr {σ : qH} {a n : Nat} {f : Nat → Int32} (h : σ.1 a = some (iF n f)) {j : Nat} (hj : j < n) (hn : n < 2 ^ 31) (v : Int32) : q_astI σ (.ref a) 1 (nI j) v = some (q_upd σ a (iF n (upI f j v))) := by
  unfold q_astI q_arr
  simp only [h, iF, if_true]
  rw [if_neg (nI_in hj hn), updI (by omega)]
theorem MC.fr {σ σ1 : qH} {x : Nat} {D : Nat → qE} (h : MC σ x D) (hf : ∀ a, x + 24 ≤ a → a < x + 36 → σ1.1 a = σ.1 a) : MC σ1 x D := fun k hk => by rw [hf _ (by omega) (by omega)]; exact h k hk
theorem XC.fr {σ σ1 : qH} {x p : Nat} {C : Nat → qE} (h : XC σ x p C) (hf : ∀ a, a < x + 24 ∨ x + 36 ≤ a → σ1.1 a = σ.1 a) : XC σ1 x p C := by
  obtain ⟨h1, h2, h3⟩ := h
  exact ⟨fun k hk h2 => by rw [hf _ (by omega)]; exact h1 k hk h2, by rw [hf _ (by omega)]; exact h2, h3⟩
theorem upC_s (C : Nat → qE) (k : Nat) (e : qE) : upC C k e k = e := if_pos rfl
def remK (kn : Nat) : Nat := if kn < 10 then kn + 1 else 10
def remH (Hs : Nat → Nat → Nat) (kn : Nat) (P : Nat → Nat) : Nat → Nat → Nat := fun i => if i + 1 = remK kn then P else if kn < 10 then Hs i else Hs (i + 1)
theorem c_rem {σ : qH} {x p : Nat} {C : Nat → qE} {tx : Nat → Nat} {n : Nat} {T P : Nat → Nat} {Hs : Nat → Nat → Nat} {kn : Nat} {I : Nat → Nat → Nat} {kp : Nat → Bool} {W : Nat → Nat} {no : Nat} {tr : Int64} (hC : XC σ x p C) (hX : XS C x p tx n T P Hs kn I kp W no tr) (hk : kn ≤ 10) :
    ∃ C1 σ1, q_call 81 [.ref (x + 5), .ref (x + 3)] σ = some (none, σ1) ∧ XC σ1 x p C1 ∧ XS C1 x p tx n T P (remH Hs kn P) (remK kn) I kp W no tr ∧ σ1.2 = σ.2 ∧ ∀ a, a < x ∨ x + 24 ≤ a → σ1.1 a = σ.1 a := by
  obtain ⟨x0, x1, x2, x3, x4, ⟨nx, hnx, x5, x5b⟩, x6, x7, x8, x9, xa, xb, xc, xd, xe⟩ := hX
  have h5 : σ.1 (x + 5) = some (paC x nx kn) := by rw [← x5]; exact hC.at 5 (by decide) (by decide)
  have h6 : σ.1 (x + 6) = some (refs 10 (x + 7)) := by rw [← x6]; exact hC.at 6 (by decide) (by decide)
  have h3 : σ.1 (x + 3) = some (evC P) := by rw [← x3]; exact hC.at 3 (by decide) (by decide)
  have h7 : σ.1 (x + 7 + nx) = some (C (7 + nx)) := by rw [Nat.add_assoc]; exact hC.at (7 + nx) (by omega) (by omega)
  refine ⟨upC (upC C (7 + nx) (evC P)) 5 (paC x ((nx + 1) % 10) (remK kn)), q_upd (q_upd σ (x + (7 + nx)) (evC P)) (x + 5) (paC x ((nx + 1) % 10) (remK kn)), ?_, (hC.upd (k := 7 + nx) (by omega) (by omega) _).upd (k := 5) (by decide) (by decide) _, ⟨?_, ?_, ?_, ?_, ?_, ⟨(nx + 1) % 10, by omega, upC_s .., fun i hi => ?_⟩, ?_, fun j hj => ?_, ?_, ?_, ?_, ?_, ?_, fun i hi => ?_, fun i hi hk => ?_⟩, rfl, fun a ha => ?_⟩
  · have g0 : q_getR σ (.ref (x + 5)) 2 0 = some (x + 6) := g_R h5 rfl
    have g1 : q_getI σ (.ref (x + 5)) 2 1 = some (nI nx) := g_I h5 rfl
    have h5b : (q_upd σ (x + 7 + nx) (evC P)).1 (x + 5) = some (paC x nx kn) := (u_n _ _ (by omega)).trans h5
    have g2 : q_getI (q_upd σ (x + 7 + nx) (evC P)) (.ref (x + 5)) 2 1 = some (nI nx) := g_I h5b rfl
    have g3 : ∀ y, q_put (q_upd σ (x + 7 + nx) (evC P)) (.ref (x + 5)) 2 1 0 (.int (nI y)) = some (q_upd (q_upd σ (x + 7 + nx) (evC P)) (x + 5) (paC x y kn)) := fun y => p_F h5b (show 1 < 3 by decide) rfl
    have h5c : ∀ {y}, (q_upd (q_upd σ (x + 7 + nx) (evC P)) (x + 5) (paC x y kn)).1 (x + 5) = some (paC x y kn) := fun {y} => u_s ..
    have g4 : ∀ {y}, q_getI (q_upd (q_upd σ (x + 7 + nx) (evC P)) (x + 5) (paC x y kn)) (.ref (x + 5)) 2 2 = some (nI kn) := fun {y} => g_I h5c rfl
    have g5 : ∀ {y} w, q_put (q_upd (q_upd σ (x + 7 + nx) (evC P)) (x + 5) (paC x y kn)) (.ref (x + 5)) 2 2 0 (.int (nI w)) = some (q_upd (q_upd (q_upd σ (x + 7 + nx) (evC P)) (x + 5) (paC x y kn)) (x + 5) (paC x y w)) := fun {y} w => p_F h5c (show 2 < 3 by decide) rfl
    have em : nI nx + nI 1 - (nI nx + nI 1) / nI 10 * nI 10 = nI ((nx + 1) % 10) := by
      rw [nI_add, pk_rem (by omega) (by decide) (by decide)]
    have en : q_min (nI 10) (nI (kn + 1)) = nI (remK kn) := by
      rw [q_minN _ _ (by decide) (by omega)]
      congr 1
      unfold remK
      by_cases h : kn < 10
      · rw [if_pos h]; split <;> omega
      · rw [if_neg h]; split <;> omega
    rw [k_81 h5, e_81_0, g0, q_obS, g1, q_obS, c_slot h6 (by decide) hnx, q_cRS, q_obS]
    dsimp only
    rw [c_becomeE h7 (x7 nx hnx) h3 (by omega), q_cVS, q_obS, g2, q_obS, if_neg (show ¬ nI 10 = nI 0 by decide), em, g3, q_obS, g4, q_obS, nI_add, en, g5, q_obS, u_u, Nat.add_assoc]
  · rw [upC_n _ _ (by omega), upC_n _ _ (by omega)]; exact x0
  · rw [upC_n _ _ (by omega), upC_n _ _ (by omega)]; exact x1
  · obtain ⟨zz, x2⟩ := x2; exact ⟨zz, by rw [upC_n _ _ (by omega), upC_n _ _ (by omega)]; exact x2⟩
  · rw [upC_n _ _ (by omega), upC_n _ _ (by omega)]; exact x3
  · rw [upC_n _ _ (by omega), upC_n _ _ (by omega)]; exact x4
  · rw [upC_n _ _ (by omega)]
    unfold remK at hi
    unfold remH remK
    by_cases h : kn < 10
    · rw [if_pos h] at hi ⊢
      rw [if_pos h]
      by_cases e : i = kn
      · rw [e, if_pos rfl, show 7 + ((nx + 1) % 10 + 10 - (kn + 1) + kn) % 10 = 7 + nx by omega]; exact upC_s ..
      · rw [if_neg (by omega), show 7 + ((nx + 1) % 10 + 10 - (kn + 1) + i) % 10 = 7 + (nx + 10 - kn + i) % 10 by omega, upC_n _ _ (by omega)]
        exact x5b i (by omega)
    · rw [if_neg h] at hi ⊢
      rw [if_neg h]
      have e10 : kn = 10 := by omega
      subst e10
      by_cases e : i = 9
      · rw [e, if_pos rfl, show 7 + ((nx + 1) % 10 + 10 - 10 + 9) % 10 = 7 + nx by omega]; exact upC_s ..
      · rw [if_neg (by omega), show 7 + ((nx + 1) % 10 + 10 - 10 + i) % 10 = 7 + (nx + 10 - 10 + (i + 1)) % 10 by omega, upC_n _ _ (by omega)]
        exact x5b (i + 1) (by omega)
  · rw [upC_n _ _ (by omega), upC_n _ _ (by omega)]; exact x6
  · rw [upC_n _ _ (by omega)]
    by_cases e : j = nx
    · rw [e, upC_s]; exact ⟨_, _, _, _, _, _, rfl⟩
    · rw [upC_n _ _ (by omega)]; exact x7 j hj
  · rw [upC_n _ _ (by omega), upC_n _ _ (by omega)]; exact x8
  · rw [upC_n _ _ (by omega), upC_n _ _ (by omega)]; exact x9
  · rw [upC_n _ _ (by omega), upC_n _ _ (by omega)]; exact xa
  · rw [upC_n _ _ (by omega), upC_n _ _ (by omega)]; exact xb
  · rw [upC_n _ _ (by omega), upC_n _ _ (by omega)]; exact xc
  · rw [upC_n _ _ (by omega), upC_n _ _ (by omega)]; exact xd i hi
  · rw [upC_n _ _ (by omega), upC_n _ _ (by omega)]; exact xe i hi hk
  · rw [u_n _ _ (by omega), u_n _ _ (by omega)]
theorem MS.z {D : Nat → qE} {x : Nat} {tx : Nat → Nat} {n : Nat} {T P : Nat → Nat} {Hs : Nat → Nat → Nat} {kn : Nat} {I : Nat → Nat → Nat} {kp : Nat → Bool} {W : Nat → Nat} {no : Nat} {tr : Int64} (h : MS D x tx n T P Hs kn I kp W no tr) : ∃ z : Nat → Int32, D 0 = mC (x + 24) tr z ∧ z 0 = nI n ∧ z 1 = nI kn ∧ z 2 = nI no := h.1
theorem MS.up4 {D : Nat → qE} {x : Nat} {tx : Nat → Nat} {n : Nat} {T P : Nat → Nat} {Hs : Nat → Nat → Nat} {kn : Nat} {I : Nat → Nat → Nat} {kp : Nat → Bool} {W : Nat → Nat} {no : Nat} {tr : Int64} (h : MS D x tx n T P Hs kn I kp W no tr) (P2 : Nat → Nat) : MS (upC D 4 (iA 22 P2)) x tx n T P2 Hs kn I kp W no tr := by
  obtain ⟨a0, a1, a2, a3, a4, a5, a6, a7, a8, a9, aa, ab⟩ := h
  exact ⟨a0, a1, a2, a3, rfl, a5, a6, a7, a8, a9, aa, ab⟩
theorem m_put22 {σ : qH} {m kn : Nat} {tr : Int64} {z : Nat → Int32} {P : Nat → Nat} {f : Nat → Int32} (h0 : σ.1 m = some (mC m tr z)) (hz : z 1 = nI kn) (hk : kn ≤ 9) (h4 : σ.1 (m + 4) = some (iA 22 P)) (h5 : σ.1 (m + 5) = some (iF 220 f)) :
    q_run 83 49 [(0, .ref m)] [] σ = some (none, q_upd (q_upd σ (m + 5) (iF 220 (lay f (22 * kn) 22 (fun t => nI (P t))))) m (mC m tr (upI z 1 (nI (kn + 1))))) := by
  have h := q_for (fun j => q_run 83 51 [(0, .ref m), (1, .int (nI j))] [] (q_upd σ (m + 5) (iF 220 (lay f (22 * kn) j (fun t => nI (P t)))))) 22 (fun j hj => by
    try dsimp only
    have g0 : (q_upd σ (m + 5) (iF 220 (lay f (22 * kn) j (fun t => nI (P t))))).1 m = some (mC m tr z) := (u_n _ _ (by omega)).trans h0
    have g4 : (q_upd σ (m + 5) (iF 220 (lay f (22 * kn) j (fun t => nI (P t))))).1 (m + 4) = some (iA 22 P) := (u_n _ _ (by omega)).trans h4
    have g5 : (q_upd σ (m + 5) (iF 220 (lay f (22 * kn) j (fun t => nI (P t))))).1 (m + 5) = some (iF 220 (lay f (22 * kn) j (fun t => nI (P t)))) := u_s ..
    rw [e_83_51, if_neg (nI_ge hj (by omega)), m_past g0, q_obS, m_known g0, q_obS, hz, pk_mul, nI_add, nI_add, m_s g0, q_obS, a_rd g4 hj (by decide), q_obS, f_wr g5 (by omega) (by decide), q_obS, u_u, lay_s _ _ _ (fun t => nI (P t))])
  try dsimp only at h
  have g0 : (q_upd σ (m + 5) (iF 220 (lay f (22 * kn) 22 (fun t => nI (P t))))).1 m = some (mC m tr z) := (u_n _ _ (by omega)).trans h0
  rw [e_83_49]
  rw [lay_0, u_self h5] at h
  rw [h, e_83_51, if_pos (nI_le (Nat.le_refl _) (by decide)), m_known g0, q_obS, hz, nI_add, mp_known g0, q_obS]
theorem m_keeps {σ : qH} {x : Nat} {D : Nat → qE} {tx : Nat → Nat} {n : Nat} {T P : Nat → Nat} {Hs : Nat → Nat → Nat} {kn : Nat} {I : Nat → Nat → Nat} {kp : Nat → Bool} {W : Nat → Nat} {no : Nat} {tr : Int64} (hD : MC σ x D) (hM : MS D x tx n T P Hs kn I kp W no tr) (hk : kn ≤ 10) :
    ∃ D1 σ1, q_call 83 [.ref (x + 24)] σ = some (none, σ1) ∧ MC σ1 x D1 ∧ MS D1 x tx n T P (remH Hs kn P) (remK kn) I kp W no tr ∧ σ1.2 = σ.2 ∧ ∀ a, a < x + 24 ∨ x + 36 ≤ a → σ1.1 a = σ.1 a := by
  obtain ⟨⟨z, a0, z0, z1, z2⟩, a1, a2, a3, a4, ⟨f, a5, a5b⟩, a6, a7, a8, a9, aa, ab⟩ := hM
  have h0 : σ.1 (x + 24) = some (mC (x + 24) tr z) := by rw [← a0]; exact hD 0 (by decide)
  have h4 : σ.1 (x + 24 + 4) = some (iA 22 P) := by rw [← a4]; exact hD 4 (by decide)
  have h5 : σ.1 (x + 24 + 5) = some (iF 220 f) := by rw [← a5]; exact hD 5 (by decide)
  by_cases h : kn < 10
  · refine ⟨upC (upC D 5 (iF 220 (lay f (22 * kn) 22 (fun t => nI (P t))))) 0 (mC (x + 24) tr (upI z 1 (nI (kn + 1)))), q_upd (q_upd σ (x + 24 + 5) (iF 220 (lay f (22 * kn) 22 (fun t => nI (P t))))) (x + 24) (mC (x + 24) tr (upI z 1 (nI (kn + 1)))), ?_, (hD.upd (k := 5) _).upd (k := 0) _, ⟨⟨upI z 1 (nI (kn + 1)), rfl, z0, ?_, z2⟩, a1, a2, a3, a4, ⟨_, rfl, fun i hi k hk => ?_⟩, a6, a7, a8, a9, aa, ab⟩, rfl, fun a ha => ?_⟩
    · rw [k_83 h0, e_83_0, m_known h0, q_obS, z1, if_neg (fun q => absurd ((nI_eq (by omega) (by decide)).mp q) (by omega)), m_put22 h0 z1 (by omega) h4 h5]
    · unfold remK; rw [if_pos h]; rfl
    · unfold remK at hi; rw [if_pos h] at hi
      unfold remH remK
      rw [if_pos h, if_pos h]
      by_cases e : i = kn
      · rw [e, if_pos rfl, lay_in _ _ hk]
      · rw [if_neg (by omega), lay_out _ _ (by omega)]; exact a5b i (by omega) k hk
    · rw [u_n _ _ (by omega), u_n _ _ (by omega)]
  · have e10 : kn = 10 := by omega
    subst e10
    have hl := q_for (fun j => q_run 83 11 [(0, .ref (x + 24)), (1, .int (nI j))] [] (q_upd σ (x + 24 + 5) (iF 220 (lay f 0 j (fun t => f (t + 22)))))) 198 (fun j hj => by
      try dsimp only
      have g0 : (q_upd σ (x + 24 + 5) (iF 220 (lay f 0 j (fun t => f (t + 22))))).1 (x + 24) = some (mC (x + 24) tr z) := (u_n _ _ (by omega)).trans h0
      have g5 : (q_upd σ (x + 24 + 5) (iF 220 (lay f 0 j (fun t => f (t + 22))))).1 (x + 24 + 5) = some (iF 220 (lay f 0 j (fun t => f (t + 22)))) := u_s ..
      have e := lay_s f 0 j (fun t => f (t + 22))
      rw [Nat.zero_add] at e
      try dsimp only at e
      rw [e_83_11, if_neg (nI_ge hj (by omega)), m_past g0, q_obS, q_obS, nI_add, f_rd g5 (by omega) (by decide), q_obS, lay_out _ _ (by omega), f_wr g5 (by omega) (by decide), q_obS, u_u, e, nI_add])
    try dsimp only at hl
    rw [lay_0, u_self h5] at hl
    have g0 : (q_upd σ (x + 24 + 5) (iF 220 (lay f 0 198 (fun t => f (t + 22))))).1 (x + 24) = some (mC (x + 24) tr z) := (u_n _ _ (by omega)).trans h0
    have g4 : (q_upd σ (x + 24 + 5) (iF 220 (lay f 0 198 (fun t => f (t + 22))))).1 (x + 24 + 4) = some (iA 22 P) := (u_n _ _ (by omega)).trans h4
    have g5 : (q_upd σ (x + 24 + 5) (iF 220 (lay f 0 198 (fun t => f (t + 22))))).1 (x + 24 + 5) = some (iF 220 (lay f 0 198 (fun t => f (t + 22)))) := u_s ..
    generalize hσ1 : q_upd σ (x + 24 + 5) (iF 220 (lay f 0 198 (fun t => f (t + 22)))) = σ1 at hl g0 g4 g5
    have k0 : (q_upd σ1 (x + 24) (mC (x + 24) tr (upI z 1 (nI 9)))).1 (x + 24) = some (mC (x + 24) tr (upI z 1 (nI 9))) := u_s ..
    have k4 : (q_upd σ1 (x + 24) (mC (x + 24) tr (upI z 1 (nI 9)))).1 (x + 24 + 4) = some (iA 22 P) := (u_n _ _ (by omega)).trans g4
    have k5 : (q_upd σ1 (x + 24) (mC (x + 24) tr (upI z 1 (nI 9)))).1 (x + 24 + 5) = some (iF 220 (lay f 0 198 (fun t => f (t + 22)))) := (u_n _ _ (by omega)).trans g5
    refine ⟨upC (upC (upC (upC D 5 (iF 220 (lay f 0 198 (fun t => f (t + 22))))) 0 (mC (x + 24) tr (upI z 1 (nI 9)))) 5 (iF 220 (lay (lay f 0 198 (fun t => f (t + 22))) (22 * 9) 22 (fun t => nI (P t))))) 0 (mC (x + 24) tr (upI (upI z 1 (nI 9)) 1 (nI (9 + 1)))), q_upd (q_upd (q_upd σ1 (x + 24) (mC (x + 24) tr (upI z 1 (nI 9)))) (x + 24 + 5) (iF 220 (lay (lay f 0 198 (fun t => f (t + 22))) (22 * 9) 22 (fun t => nI (P t))))) (x + 24) (mC (x + 24) tr (upI (upI z 1 (nI 9)) 1 (nI (9 + 1)))), ?_, ?_, ⟨⟨upI (upI z 1 (nI 9)) 1 (nI (9 + 1)), rfl, z0, rfl, z2⟩, a1, a2, a3, a4, ⟨_, rfl, fun i hi k hk => ?_⟩, a6, a7, a8, a9, aa, ab⟩, by rw [← hσ1]; rfl, fun a ha => ?_⟩
    · rw [k_83 h0, e_83_0, m_known h0, q_obS, z1, if_pos rfl, hl, e_83_11, if_pos (nI_le (Nat.le_refl _) (by decide)), m_known g0, q_obS, z1, pk_sub (by decide), mp_known g0, q_obS, m_put22 k0 rfl (by decide) k4 k5]
    · rw [← hσ1]
      exact (((hD.upd (k := 5) _).upd (k := 0) _).upd (k := 5) _).upd (k := 0) _
    · have hi10 : i < 10 := hi
      have er : remH Hs 10 P i = if i + 1 = 10 then P else Hs (i + 1) := rfl
      rw [er]
      by_cases e : i = 9
      · rw [e, if_pos rfl, lay_in _ _ hk]
      · rw [if_neg (by omega), lay_out _ _ (by omega)]
        have := lay_in f (b := 0) (j := 198) (fun t => f (t + 22)) (k := 22 * i + k) (by omega)
        rw [Nat.zero_add] at this
        rw [this]
        try dsimp only
        rw [show 22 * i + k + 22 = 22 * (i + 1) + k by omega]
        exact a5b (i + 1) (by omega) k hk
    · rw [u_n _ _ (by omega), u_n _ _ (by omega), u_n _ _ (by omega), ← hσ1, u_n _ _ (by omega)]
theorem XS.f {σ : qH} {x p : Nat} {C : Nat → qE} {tx : Nat → Nat} {n : Nat} {T P : Nat → Nat} {Hs : Nat → Nat → Nat} {kn : Nat} {I : Nat → Nat → Nat} {kp : Nat → Bool} {W : Nat → Nat} {no : Nat} {tr : Int64} (hX : XS C x p tx n T P Hs kn I kp W no tr) (hC : XC σ x p C) :
    σ.1 x = some (xC x p n (bits kp 2) tr) ∧ (∃ zz, σ.1 p = some (planC T zz)) ∧ (p = x + 2 ∨ x + 36 ≤ p) ∧ σ.1 (x + 3) = some (evC P) ∧ ∃ nx, nx < 10 ∧ σ.1 (x + 5) = some (paC x nx kn) := by
  obtain ⟨x0, x1, ⟨zz, x2⟩, x3, x4, ⟨nx, hnx, x5, x5b⟩, -⟩ := hX
  exact ⟨by rw [← x0]; exact hC.at 0 (by decide) (by decide), ⟨zz, by rw [← x2]; exact hC.2.1⟩, hC.2.2, by rw [← x3]; exact hC.at 3 (by decide) (by decide), nx, hnx, by rw [← x5]; exact hC.at 5 (by decide) (by decide)⟩
theorem MS.f {σ : qH} {x : Nat} {D : Nat → qE} {tx : Nat → Nat} {n : Nat} {T P : Nat → Nat} {Hs : Nat → Nat → Nat} {kn : Nat} {I : Nat → Nat → Nat} {kp : Nat → Bool} {W : Nat → Nat} {no : Nat} {tr : Int64} (hM : MS D x tx n T P Hs kn I kp W no tr) (hD : MC σ x D) :
    ∃ z : Nat → Int32, σ.1 (x + 24) = some (mC (x + 24) tr z) ∧ (z 0 = nI n ∧ z 1 = nI kn ∧ z 2 = nI no) ∧ σ.1 (x + 24 + 2) = some (iA 35 T) ∧ σ.1 (x + 24 + 4) = some (iA 22 P) := by
  obtain ⟨⟨z, a0, z0, z1, z2⟩, a1, a2, a3, a4, -⟩ := hM
  exact ⟨z, by rw [← a0]; exact hD 0 (by decide), ⟨z0, z1, z2⟩, by rw [← a2]; exact hD 2 (by decide), by rw [← a4]; exact hD 4 (by decide)⟩
/-- a change that is remembered first -/
theorem QO.ev {σ : qH} {x p kX kM : Nat} {as : List Value} {v : Value} {tx : Nat → Nat} {n : Nat} {T P : Nat → Nat} {Hs : Nat → Nat → Nat} {kn : Nat} {I : Nat → Nat → Nat} {kp : Nat → Bool} {W : Nat → Nat} {no : Nat} {tr : Int64} {C D : Nat → qE}
    (hC : XC σ x p C) (hD : MC σ x D) (hX : XS C x p tx n T P Hs kn I kp W no tr) (hM : MS D x tx n T P Hs kn I kp W no tr) (hQ : QI tx n T P Hs kn I kp W no) (P2 : Nat → Nat) (hP2 : WP T P2)
    (hx : ∀ σ1 C1, q_call 81 [.ref (x + 5), .ref (x + 3)] σ = some (none, σ1) → XC σ1 x p C1 → XS C1 x p tx n T P (remH Hs kn P) (remK kn) I kp W no tr → q_call kX (.ref x :: as) σ = some (some v, q_upd σ1 (x + 3) (evC P2)))
    (hm : ∀ σ2 σ3 D1, MC σ2 x D → q_call 83 [.ref (x + 24)] σ2 = some (none, σ3) → MC σ3 x D1 → MS D1 x tx n T P (remH Hs kn P) (remK kn) I kp W no tr → q_call kM (.ref (x + 24) :: as) σ2 = some (some v, q_upd σ3 (x + 24 + 4) (iA 22 P2))) (hv : qv kX v = true := by rfl) : QO σ x kX kM as := by
  obtain ⟨b1, b2, hT, hP, hk, hH, b7, b8⟩ := hQ
  obtain ⟨C1, σ1, c1, hC1, hX1, s1, f1⟩ := c_rem hC hX hk
  have r1 := hx σ1 C1 c1 hC1 hX1
  have hC2 := hC1.upd (k := 3) (by decide) (by decide) (evC P2)
  have hX2 := hX1.up3 P2
  have hD2 : MC (q_upd σ1 (x + 3) (evC P2)) x D := hD.fr fun a h1 h2 => by rw [u_n _ _ (by omega)]; exact f1 a (by omega)
  have f2 : ∀ a, a < x → (q_upd σ1 (x + 3) (evC P2)).1 a = σ.1 a := fun a ha => by rw [u_n _ _ (by omega)]; exact f1 a (by omega)
  have s2 : (q_upd σ1 (x + 3) (evC P2)).2 = σ.2 := s1
  generalize q_upd σ1 (x + 3) (evC P2) = σ2 at r1 hC2 hD2 f2 s2
  obtain ⟨D1, σ3, c3, hD3, hM3, s3, f3⟩ := m_keeps hD2 hM hk
  have r3 := hm σ2 σ3 D1 hD2 c3 hD3 hM3
  refine QO.mk r1 r3 ⟨p, tx, n, T, P2, remH Hs kn P, remK kn, I, kp, W, no, tr, upC C1 3 (evC P2), upC D1 4 (iA 22 P2), (hC2.fr f3).m (k := 4) (by decide) _, hD3.upd (k := 4) _, hX2, hM3.up4 P2, b1, b2, hT, hP2, ?_, fun i hi => ?_, b7, b8⟩ (by show σ3.2 = _; rw [s3, s2]) (fun a ha => by rw [u_n _ _ (by omega), f3 a (by omega), f2 a ha]) hv
  · unfold remK; split <;> omega
  · unfold remH
    by_cases e : i + 1 = remK kn
    · rw [if_pos e]; exact hP
    · rw [if_neg e]
      unfold remK at e hi
      by_cases h : kn < 10
      · rw [if_pos h] at e hi ⊢; exact hH i (by omega)
      · rw [if_neg h] at e hi ⊢; exact hH (i + 1) (by omega)
theorem o_step {σ : qH} {x : Nat} (h : QV σ x) : QO σ x 82 84 [] := by
  obtain ⟨p, tx, n, T, P, Hs, kn, I, kp, W, no, tr, C, D, hC, hD, hX, hM, hQ⟩ := id h
  have hT : WT T := hQ.2.2.1
  have hP : WP T P := hQ.2.2.2.1
  refine QO.ev (v := .int (nI (stepE T P (T 1)))) hC hD hX hM hQ (stepP T P (T 1)) (hP.step hT _ (Nat.le_refl _)) (fun σ1 C1 c1 hC1 hX1 => ?_) (fun σ2 σ3 D1 hD2 c3 hD3 hM3 => ?_)
  · obtain ⟨h0, -⟩ := hX.f hC
    obtain ⟨k0, ⟨zz, kp⟩, kpo, ke, -⟩ := hX1.f hC1
    rw [k_82 h0, e_82_0, x_past h0, q_obS, x_evening h0, q_obS, c1, q_cVS, q_obS, x_evening k0, q_obS, x_plan k0, q_obS, c_pass ke kp (by omega) hT hP, q_cIS, q_obS]
  · obtain ⟨z, m0, -⟩ := hM.f hD2
    obtain ⟨z', n0, -, n2, n4⟩ := hM3.f hD3
    rw [k_84 m0, e_84_0, c3, q_cVS, q_obS, m_steps n0 n2 n4 hT hP, q_cIS, q_obS]
