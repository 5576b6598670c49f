/-! ===== the class's plan, told item by item ===== -/
def plR (r f l z : Int32) (h c d : Int64) (w : Int32) (g s : Int64) : qE := .inl (3, [.int r, .int f, .int l, .int z, .long h, .long c, .long d, .int w, .long g, .long s])
section PL
variable {σ : qH} {p : Nat} {r f l z w : Int32} {h c d g s : Int64}
theorem pr_rooms (H : σ.1 p = some (plR r f l z h c d w g s)) : q_getI σ (.ref p) 3 0 = some r := g_I H rfl
theorem pr_flocks (H : σ.1 p = some (plR r f l z h c d w g s)) : q_getI σ (.ref p) 3 1 = some f := g_I H rfl
theorem pr_holds (H : σ.1 p = some (plR r f l z h c d w g s)) : q_getL σ (.ref p) 3 4 = some h := g_L H rfl
theorem pr_carpets (H : σ.1 p = some (plR r f l z h c d w g s)) : q_getL σ (.ref p) 3 5 = some c := g_L H rfl
theorem pr_doors (H : σ.1 p = some (plR r f l z h c d w g s)) : q_getL σ (.ref p) 3 6 = some d := g_L H rfl
theorem pr_homes (H : σ.1 p = some (plR r f l z h c d w g s)) : q_getI σ (.ref p) 3 7 = some w := g_I H rfl
theorem pr_hungers (H : σ.1 p = some (plR r f l z h c d w g s)) : q_getL σ (.ref p) 3 8 = some g := g_L H rfl
theorem pr_stuffs (H : σ.1 p = some (plR r f l z h c d w g s)) : q_getL σ (.ref p) 3 9 = some s := g_L H rfl
theorem pp_rooms (H : σ.1 p = some (plR r f l z h c d w g s)) (y : Int32) : q_put σ (.ref p) 3 0 0 (.int y) = some (q_upd σ p (plR y f l z h c d w g s)) := p_F H (show 0 < 10 by decide) rfl
theorem pp_flocks (H : σ.1 p = some (plR r f l z h c d w g s)) (y : Int32) : q_put σ (.ref p) 3 1 0 (.int y) = some (q_upd σ p (plR r y l z h c d w g s)) := p_F H (show 1 < 10 by decide) rfl
theorem pp_lambAt (H : σ.1 p = some (plR r f l z h c d w g s)) (y : Int32) : q_put σ (.ref p) 3 2 0 (.int y) = some (q_upd σ p (plR r f y z h c d w g s)) := p_F H (show 2 < 10 by decide) rfl
theorem pp_told1 (H : σ.1 p = some (plR r f l z h c d w g s)) : q_put σ (.ref p) 3 3 4 (.int (nI 1)) = some (q_upd σ p (plR r f l (nI 1) h c d w g s)) := p_F H (show 3 < 10 by decide) (okv4 true)
theorem pp_holds (H : σ.1 p = some (plR r f l z h c d w g s)) (y : Int64) : q_put σ (.ref p) 3 4 1 (.long y) = some (q_upd σ p (plR r f l z y c d w g s)) := p_F H (show 4 < 10 by decide) rfl
theorem pp_carpets (H : σ.1 p = some (plR r f l z h c d w g s)) (y : Int64) : q_put σ (.ref p) 3 5 1 (.long y) = some (q_upd σ p (plR r f l z h y d w g s)) := p_F H (show 5 < 10 by decide) rfl
theorem pp_doors (H : σ.1 p = some (plR r f l z h c d w g s)) (y : Int64) : q_put σ (.ref p) 3 6 1 (.long y) = some (q_upd σ p (plR r f l z h c y w g s)) := p_F H (show 6 < 10 by decide) rfl
theorem pp_homes (H : σ.1 p = some (plR r f l z h c d w g s)) (y : Int32) : q_put σ (.ref p) 3 7 0 (.int y) = some (q_upd σ p (plR r f l z h c d y g s)) := p_F H (show 7 < 10 by decide) rfl
theorem pp_hungers (H : σ.1 p = some (plR r f l z h c d w g s)) (y : Int64) : q_put σ (.ref p) 3 8 1 (.long y) = some (q_upd σ p (plR r f l z h c d w y s)) := p_F H (show 8 < 10 by decide) rfl
theorem pp_stuffs (H : σ.1 p = some (plR r f l z h c d w g s)) (y : Int64) : q_put σ (.ref p) 3 9 1 (.long y) = some (q_upd σ p (plR r f l z h c d w g y)) := p_F H (show 9 < 10 by decide) rfl
end PL
theorem planC_R (T : Nat → Nat) (z : Int32) : planC T z = plR (nI (T 0)) (nI (T 1)) (nI (T 2)) z (lN (pkL (fun i => T (5 + i)))) (lN (pkL (fun i => T (10 + i)))) (lN (pkL (fun i => T (15 + i)))) (nI (pkS (fun i => T (20 + i)))) (lN (pkL (fun i => T (25 + i)))) (lN (pkL (fun i => T (30 + i)))) := rfl
theorem up_at {T T' : Nat → Nat} {b k v i : Nat} (h1 : T' (b + k) = v) (h2 : i ≠ k → T' (b + i) = T (b + i)) : up (fun i => T (b + i)) k v i = T' (b + i) := by
  unfold up
  by_cases e : i = k
  · rw [if_pos e, e]; exact h1.symm
  · rw [if_neg e]; exact (h2 e).symm
theorem c_addRoom {σ : qH} {p : Nat} {T : Nat → Nat} {z : Int32} (H : σ.1 p = some (planC T z)) (hT : WT T) (h0 : T 0 < 5) {h c : Nat} (hh : h < 256) (hc : c < 256) : q_call 34 [.ref p, .int (nI h), .int (nI c)] σ = some (none, q_upd σ p (planC (rmT T h c) z)) := by
  have q : ∀ {e}, (q_upd σ p e).1 p = some e := fun {e} => u_s ..
  have eo : ∀ j, j ≠ 5 + T 0 → j ≠ 10 + T 0 → j ≠ 0 → j ≠ 3 → rmT T h c j = T j := fun j h1 h2 h3 h4 => by unfold rmT; rw [up_n _ _ h4, up_n _ _ h3, up_n _ _ h2, up_n _ _ h1]
  have e5 : rmT T h c (5 + T 0) = h := by unfold rmT; rw [up_n _ _ (by omega), up_n _ _ (by omega), up_n _ _ (by omega), up_s]
  have e10 : rmT T h c (10 + T 0) = c := by unfold rmT; rw [up_n _ _ (by omega), up_n _ _ (by omega), up_s]
  have e0 : rmT T h c 0 = T 0 + 1 := by unfold rmT; rw [up_n _ _ (by decide), up_s]
  rw [planC_R] at H
  rw [k_34 H, e_34_0, pr_holds H, q_obS, pr_rooms H, q_obS, c_withLane hT.l.1 h0 hh, q_cLS, q_obS]
  dsimp only
  rw [pp_holds H, q_obS, pr_carpets q, q_obS, pr_rooms q, q_obS, c_withLane hT.l.2.1 h0 hc, q_cLS, q_obS]
  dsimp only
  rw [pp_carpets q, q_obS, u_u, pr_rooms q, q_obS, pp_rooms q, q_obS, u_u, planC_R, nI_add, e0, eo 1 (by omega) (by omega) (by decide) (by decide), eo 2 (by omega) (by omega) (by decide) (by decide)]
  rw [pkL_congr (f := up (fun i => T (5 + i)) (T 0) h) (g := fun i => rmT T h c (5 + i)) fun i hi => up_at e5 fun e => eo _ (by omega) (by omega) (by omega) (by omega),
    pkL_congr (f := up (fun i => T (10 + i)) (T 0) c) (g := fun i => rmT T h c (10 + i)) fun i hi => up_at e10 fun e => eo _ (by omega) (by omega) (by omega) (by omega),
    pkL_congr (f := fun i => T (15 + i)) (g := fun i => rmT T h c (15 + i)) fun i hi => (eo _ (by omega) (by omega) (by omega) (by omega)).symm,
    pkS_congr (f := fun i => T (20 + i)) (g := fun i => rmT T h c (20 + i)) fun i hi => (eo _ (by omega) (by omega) (by omega) (by omega)).symm,
    pkL_congr (f := fun i => T (25 + i)) (g := fun i => rmT T h c (25 + i)) fun i hi => (eo _ (by omega) (by omega) (by omega) (by omega)).symm,
    pkL_congr (f := fun i => T (30 + i)) (g := fun i => rmT T h c (30 + i)) fun i hi => (eo _ (by omega) (by omega) (by omega) (by omega)).symm]
theorem n_orbit {a b : Nat} (hb : b < 5) : nI a ||| (nI 1 <<< (nI b &&& 31)) = nI (a ||| 2 ^ b) := by
  have : (2 : Nat) ^ b ≤ 2 ^ 4 := Nat.pow_le_pow_right (by decide) (by omega)
  rw [n_shl (by omega) (by omega), Nat.one_mul, n_or]
theorem or_256 {a b : Nat} (ha : a < 256) (hb : b < 5) : a ||| 2 ^ b < 256 := Nat.or_lt_two_pow (n := 8) ha (Nat.lt_of_le_of_lt (Nat.pow_le_pow_right (by decide) (show b ≤ 4 by omega)) (by decide))
theorem c_addDoor {σ : qH} {p : Nat} {T : Nat → Nat} {z : Int32} (H : σ.1 p = some (planC T z)) (hT : WT T) {A B : Nat} (hA : A < 5) (hB : B < 5) (hAB : A ≠ B) : q_call 36 [.ref p, .int (nI A), .int (nI B)] σ = some (none, q_upd σ p (planC (drT T A B) z)) := by
  have q : ∀ {e}, (q_upd σ p e).1 p = some e := fun {e} => u_s ..
  have eo : ∀ j, (j < 15 ∨ 20 ≤ j) → j ≠ 3 → drT T A B j = T j := fun j h1 h3 => drT_o T hA hB h1 h3
  have l1 := hT.l.2.2.1
  have lA := or_256 (l1 A hA) hB
  have lB := or_256 (l1 B hB) hA
  have l2 : ∀ i, i < 5 → up (fun i => T (15 + i)) A (T (15 + A) ||| 2 ^ B) i < 256 := fun i hi => by
    unfold up; split
    · exact lA
    · exact l1 i hi
  rw [planC_R] at H
  rw [k_36 H, e_36_0, pr_doors H, q_obS, q_obS, c_lane l1 hA, q_cIS, q_obS]
  dsimp only
  rw [n_orbit hB, c_withLane l1 hA lA, q_cLS, q_obS]
  dsimp only
  rw [pp_doors H, q_obS, pr_doors q, q_obS, q_obS, c_lane l2 hB, q_cIS, q_obS]
  dsimp only
  rw [n_orbit hA, up_n _ _ (Ne.symm hAB), c_withLane l2 hB lB, q_cLS, q_obS]
  dsimp only
  rw [pp_doors q, q_obS, u_u, planC_R, eo 0 (by omega) (by decide), eo 1 (by omega) (by decide), eo 2 (by omega) (by decide)]
  rw [pkL_congr (f := up (up (fun i => T (15 + i)) A (T (15 + A) ||| 2 ^ B)) B (T (15 + B) ||| 2 ^ A)) (g := fun i => drT T A B (15 + i)) fun i hi => by
      rw [drT_at T hAB hi]
      unfold up
      rfl,
    pkL_congr (f := fun i => T (5 + i)) (g := fun i => drT T A B (5 + i)) fun i hi => (eo _ (by omega) (by omega)).symm,
    pkL_congr (f := fun i => T (10 + i)) (g := fun i => drT T A B (10 + i)) fun i hi => (eo _ (by omega) (by omega)).symm,
    pkS_congr (f := fun i => T (20 + i)) (g := fun i => drT T A B (20 + i)) fun i hi => (eo _ (by omega) (by omega)).symm,
    pkL_congr (f := fun i => T (25 + i)) (g := fun i => drT T A B (25 + i)) fun i hi => (eo _ (by omega) (by omega)).symm,
    pkL_congr (f := fun i => T (30 + i)) (g := fun i => drT T A B (30 + i)) fun i hi => (eo _ (by omega) (by omega)).symm]
theorem c_addFlock {σ : qH} {p : Nat} {T : Nat → Nat} {z : Int32} (H : σ.1 p = some (planC T z)) (hT : WT T) (h1 : T 1 < 5) {r g s : Nat} (hr : r < 8) (hg : g < 256) (hs : s < 256) : q_call 38 [.ref p, .int (nI r), .int (nI g), .int (nI s)] σ = some (none, q_upd σ p (planC (flT T r g s) z)) := by
  have q : ∀ {e}, (q_upd σ p e).1 p = some e := fun {e} => u_s ..
  have e1 : flT T r g s 1 = T 1 + 1 := by unfold flT; rw [up_n _ _ (by decide), up_s]
  have eo : ∀ j, j ≠ 20 + T 1 → j ≠ 25 + T 1 → j ≠ 30 + T 1 → j ≠ 1 → j ≠ 3 → flT T r g s j = T j := fun j h1 h2 h3 h4 h5 => by unfold flT; rw [up_n _ _ h5, up_n _ _ h4, up_n _ _ h3, up_n _ _ h2, up_n _ _ h1]
  have e20 : flT T r g s (20 + T 1) = r := by unfold flT; rw [up_n _ _ (by omega), up_n _ _ (by omega), up_n _ _ (by omega), up_n _ _ (by omega), up_s]
  have e25 : flT T r g s (25 + T 1) = g := by unfold flT; rw [up_n _ _ (by omega), up_n _ _ (by omega), up_n _ _ (by omega), up_s]
  have e30 : flT T r g s (30 + T 1) = s := by unfold flT; rw [up_n _ _ (by omega), up_n _ _ (by omega), up_s]
  obtain ⟨l5, l10, l15, l25, l30, l20⟩ := hT.l
  rw [planC_R] at H
  rw [k_38 H, e_38_0, pr_homes H, q_obS, pr_flocks H, q_obS, c_withSpot l20 h1 hr, q_cIS, q_obS]
  dsimp only
  rw [pp_homes H, q_obS, pr_hungers q, q_obS, pr_flocks q, q_obS, c_withLane l25 h1 hg, q_cLS, q_obS]
  dsimp only
  rw [pp_hungers q, q_obS, u_u, pr_stuffs q, q_obS, pr_flocks q, q_obS, c_withLane l30 h1 hs, q_cLS, q_obS]
  dsimp only
  rw [pp_stuffs q, q_obS, u_u, pr_flocks q, q_obS, pp_flocks q, q_obS, u_u, planC_R, nI_add, e1, eo 0 (by omega) (by omega) (by omega) (by decide) (by decide), eo 2 (by omega) (by omega) (by omega) (by decide) (by decide)]
  rw [pkS_congr (f := up (fun i => T (20 + i)) (T 1) r) (g := fun i => flT T r g s (20 + i)) fun i hi => up_at e20 fun e => eo _ (by omega) (by omega) (by omega) (by omega) (by omega),
    pkL_congr (f := up (fun i => T (25 + i)) (T 1) g) (g := fun i => flT T r g s (25 + i)) fun i hi => up_at e25 fun e => eo _ (by omega) (by omega) (by omega) (by omega) (by omega),
    pkL_congr (f := up (fun i => T (30 + i)) (T 1) s) (g := fun i => flT T r g s (30 + i)) fun i hi => up_at e30 fun e => eo _ (by omega) (by omega) (by omega) (by omega) (by omega),
    pkL_congr (f := fun i => T (5 + i)) (g := fun i => flT T r g s (5 + i)) fun i hi => (eo _ (by omega) (by omega) (by omega) (by omega) (by omega)).symm,
    pkL_congr (f := fun i => T (10 + i)) (g := fun i => flT T r g s (10 + i)) fun i hi => (eo _ (by omega) (by omega) (by omega) (by omega) (by omega)).symm,
    pkL_congr (f := fun i => T (15 + i)) (g := fun i => flT T r g s (15 + i)) fun i hi => (eo _ (by omega) (by omega) (by omega) (by omega) (by omega)).symm]
theorem c_tellLamb {σ : qH} {p : Nat} {T : Nat → Nat} {z : Int32} (H : σ.1 p = some (planC T z)) (v : Nat) : q_call 39 [.ref p, .int (nI v)] σ = some (none, q_upd σ p (planC (nfT T v) (nI 1))) := by
  have q : ∀ {e}, (q_upd σ p e).1 p = some e := fun {e} => u_s ..
  have eo : ∀ j, j ≠ 2 → j ≠ 3 → j ≠ 4 → nfT T v j = T j := fun j h1 h2 h3 => by unfold nfT; rw [up_n _ _ h2, up_n _ _ h1, up_n _ _ h3]
  have e2 : nfT T v 2 = v := by unfold nfT; rw [up_n _ _ (by decide), up_s]
  rw [planC_R] at H
  rw [k_39 H, e_39_0, pp_lambAt H, q_obS, pp_told1 q, q_obS, u_u, planC_R, e2, eo 0 (by decide) (by decide) (by decide), eo 1 (by decide) (by decide) (by decide)]
  rw [pkS_congr (f := fun i => T (20 + i)) (g := fun i => nfT T v (20 + i)) fun i hi => (eo _ (by omega) (by omega) (by omega)).symm,
    pkL_congr (f := fun i => T (25 + i)) (g := fun i => nfT T v (25 + i)) fun i hi => (eo _ (by omega) (by omega) (by omega)).symm,
    pkL_congr (f := fun i => T (30 + i)) (g := fun i => nfT T v (30 + i)) fun i hi => (eo _ (by omega) (by omega) (by omega)).symm,
    pkL_congr (f := fun i => T (5 + i)) (g := fun i => nfT T v (5 + i)) fun i hi => (eo _ (by omega) (by omega) (by omega)).symm,
    pkL_congr (f := fun i => T (10 + i)) (g := fun i => nfT T v (10 + i)) fun i hi => (eo _ (by omega) (by omega) (by omega)).symm,
    pkL_congr (f := fun i => T (15 + i)) (g := fun i => nfT T v (15 + i)) fun i hi => (eo _ (by omega) (by omega) (by omega)).symm]
