/-! ===== the class: a plan, an evening; what they reckon ===== -/
def planC (T : Nat → Nat) (z : Int32) : qE := .inl (3, [.int (nI (T 0)), .int (nI (T 1)), .int (nI (T 2)), .int z, .long (lN (pkL (fun i => T (5 + i)))), .long (lN (pkL (fun i => T (10 + i)))), .long (lN (pkL (fun i => T (15 + i)))), .int (nI (pkS (fun i => T (20 + i)))), .long (lN (pkL (fun i => T (25 + i)))), .long (lN (pkL (fun i => T (30 + i))))])
theorem pl_rooms {σ : qH} {p : Nat} {T : Nat → Nat} {z : Int32} (h : σ.1 p = some (planC T z)) : q_getI σ (.ref p) 3 0 = some (nI (T 0)) := g_I h rfl
theorem pl_flocks {σ : qH} {p : Nat} {T : Nat → Nat} {z : Int32} (h : σ.1 p = some (planC T z)) : q_getI σ (.ref p) 3 1 = some (nI (T 1)) := g_I h rfl
theorem pl_lambAt {σ : qH} {p : Nat} {T : Nat → Nat} {z : Int32} (h : σ.1 p = some (planC T z)) : q_getI σ (.ref p) 3 2 = some (nI (T 2)) := g_I h rfl
theorem pl_told {σ : qH} {p : Nat} {T : Nat → Nat} {z : Int32} (h : σ.1 p = some (planC T z)) : q_getI σ (.ref p) 3 3 = some (z) := g_I h rfl
theorem pl_holds {σ : qH} {p : Nat} {T : Nat → Nat} {z : Int32} (h : σ.1 p = some (planC T z)) : q_getL σ (.ref p) 3 4 = some (lN (pkL (fun i => T (5 + i)))) := g_L h rfl
theorem pl_carpets {σ : qH} {p : Nat} {T : Nat → Nat} {z : Int32} (h : σ.1 p = some (planC T z)) : q_getL σ (.ref p) 3 5 = some (lN (pkL (fun i => T (10 + i)))) := g_L h rfl
theorem pl_doors {σ : qH} {p : Nat} {T : Nat → Nat} {z : Int32} (h : σ.1 p = some (planC T z)) : q_getL σ (.ref p) 3 6 = some (lN (pkL (fun i => T (15 + i)))) := g_L h rfl
theorem pl_homes {σ : qH} {p : Nat} {T : Nat → Nat} {z : Int32} (h : σ.1 p = some (planC T z)) : q_getI σ (.ref p) 3 7 = some (nI (pkS (fun i => T (20 + i)))) := g_I h rfl
theorem pl_hungers {σ : qH} {p : Nat} {T : Nat → Nat} {z : Int32} (h : σ.1 p = some (planC T z)) : q_getL σ (.ref p) 3 8 = some (lN (pkL (fun i => T (25 + i)))) := g_L h rfl
theorem pl_stuffs {σ : qH} {p : Nat} {T : Nat → Nat} {z : Int32} (h : σ.1 p = some (planC T z)) : q_getL σ (.ref p) 3 9 = some (lN (pkL (fun i => T (30 + i)))) := g_L h rfl
def evR (a : Int32) (b c d : Int64) (g k : Int32) : qE := .inl (0, [.int a, .long b, .long c, .long d, .int g, .int k])
theorem ev_places {σ : qH} {x : Nat} {a : Int32} {b c d : Int64} {g k : Int32} (h : σ.1 x = some (evR a b c d g k)) : q_getI σ (.ref x) 0 0 = some a := g_I h rfl
theorem evp_places {σ : qH} {x : Nat} {a : Int32} {b c d : Int64} {g k : Int32} (h : σ.1 x = some (evR a b c d g k)) (y : Int32) : q_put σ (.ref x) 0 0 0 (.int y) = some (q_upd σ x (evR y b c d g k)) := p_F h (show 0 < 6 by decide) rfl
theorem ev_carpets {σ : qH} {x : Nat} {a : Int32} {b c d : Int64} {g k : Int32} (h : σ.1 x = some (evR a b c d g k)) : q_getL σ (.ref x) 0 1 = some b := g_L h rfl
theorem evp_carpets {σ : qH} {x : Nat} {a : Int32} {b c d : Int64} {g k : Int32} (h : σ.1 x = some (evR a b c d g k)) (y : Int64) : q_put σ (.ref x) 0 1 1 (.long y) = some (q_upd σ x (evR a y c d g k)) := p_F h (show 1 < 6 by decide) rfl
theorem ev_eaten {σ : qH} {x : Nat} {a : Int32} {b c d : Int64} {g k : Int32} (h : σ.1 x = some (evR a b c d g k)) : q_getL σ (.ref x) 0 2 = some c := g_L h rfl
theorem evp_eaten {σ : qH} {x : Nat} {a : Int32} {b c d : Int64} {g k : Int32} (h : σ.1 x = some (evR a b c d g k)) (y : Int64) : q_put σ (.ref x) 0 2 1 (.long y) = some (q_upd σ x (evR a b y d g k)) := p_F h (show 2 < 6 by decide) rfl
theorem ev_lambs {σ : qH} {x : Nat} {a : Int32} {b c d : Int64} {g k : Int32} (h : σ.1 x = some (evR a b c d g k)) : q_getL σ (.ref x) 0 3 = some d := g_L h rfl
theorem evp_lambs {σ : qH} {x : Nat} {a : Int32} {b c d : Int64} {g k : Int32} (h : σ.1 x = some (evR a b c d g k)) (y : Int64) : q_put σ (.ref x) 0 3 1 (.long y) = some (q_upd σ x (evR a b c y g k)) := p_F h (show 3 < 6 by decide) rfl
theorem ev_dogs {σ : qH} {x : Nat} {a : Int32} {b c d : Int64} {g k : Int32} (h : σ.1 x = some (evR a b c d g k)) : q_getI σ (.ref x) 0 4 = some g := g_I h rfl
theorem evp_dogs {σ : qH} {x : Nat} {a : Int32} {b c d : Int64} {g k : Int32} (h : σ.1 x = some (evR a b c d g k)) (y : Int32) : q_put σ (.ref x) 0 4 0 (.int y) = some (q_upd σ x (evR a b c d y k)) := p_F h (show 4 < 6 by decide) rfl
theorem ev_night {σ : qH} {x : Nat} {a : Int32} {b c d : Int64} {g k : Int32} (h : σ.1 x = some (evR a b c d g k)) : q_getI σ (.ref x) 0 5 = some k := g_I h rfl
theorem evp_night {σ : qH} {x : Nat} {a : Int32} {b c d : Int64} {g k : Int32} (h : σ.1 x = some (evR a b c d g k)) (y : Int32) : q_put σ (.ref x) 0 5 0 (.int y) = some (q_upd σ x (evR a b c d g y)) := p_F h (show 5 < 6 by decide) rfl
def evC (P : Nat → Nat) : qE := evR (nI (pkS P)) (lN (pkL (fun i => P (15 + i)))) (lN (pkL (fun i => P (5 + i)))) (lN (pkL (fun i => P (10 + i)))) (nI (P 20)) (nI (P 21))
theorem WT.l {T : Nat → Nat} (hT : WT T) : (∀ i, i < 5 → T (5 + i) < 256) ∧ (∀ i, i < 5 → T (10 + i) < 256) ∧ (∀ i, i < 5 → T (15 + i) < 256) ∧ (∀ i, i < 5 → T (25 + i) < 256) ∧ (∀ i, i < 5 → T (30 + i) < 256) ∧ (∀ i, i < 5 → T (20 + i) < 8) := by
  obtain ⟨t0, t1, t2, t5, t6, t7, t8, t9⟩ := hT
  refine ⟨fun i hi => ?_, fun i hi => ?_, fun i hi => ?_, fun i hi => ?_, fun i hi => ?_, fun i hi => ?_⟩
  · have := (t5 i hi).1; omega
  · have := (t5 i hi).2.1; omega
  · have := (t5 i hi).2.2.1; have := pow_le5 t0; omega
  · have := (t5 i hi).2.2.2.1; omega
  · have := (t5 i hi).2.2.2.2; omega
  · by_cases h : i < T 1
    · have := (t8 i h).1; omega
    · rw [t9 i (by omega) hi]; decide
theorem WP.l {T P : Nat → Nat} (hP : WP T P) : (∀ i, i < 5 → P (5 + i) < 256) ∧ (∀ i, i < 5 → P (10 + i) < 256) ∧ (∀ i, i < 5 → P (15 + i) < 256) := by
  obtain ⟨p0, p1, p5, p6, p7, p8⟩ := hP
  refine ⟨fun i hi => ?_, fun i hi => ?_, fun i hi => ?_⟩
  · have := (p5 i hi).1; omega
  · have := (p5 i hi).2.1; omega
  · have := (p5 i hi).2.2; omega
theorem WP.act {T P : Nat → Nat} (hT : WT T) (hP : WP T P) {f : Nat} (hf : f < T 1) : WP T (actP T P f) := by
  obtain ⟨t0, t1, t2, t5, t6, t7, t8, t9⟩ := id hT
  obtain ⟨p0, p1, p5, p6, p7, p8⟩ := id hP
  have hr := p0 f hf
  have hr5 : P f < 5 := by omega
  by_cases hm : moves T P f = true
  · rw [show actP T P f = _ from if_pos hm]
    have hv : (bey T P (P f) (!(P 20).testBit (P f))).getD (P f) < T 0 := by
      cases hb : bey T P (P f) (!(P 20).testBit (P f)) with
      | none => exact hr
      | some q => have := (lowF_some hb).2.1; show q < _; omega
    generalize (bey T P (P f) (!(P 20).testBit (P f))).getD (P f) = v at hv
    refine ⟨fun i hi => ?_, fun i h1 h2 => ?_, fun i hi => ?_, fun i h1 h2 => ?_, ?_, ?_⟩
    · by_cases e : i = f
      · rw [e, up_s]; exact hv
      · rw [up_n _ _ e]; exact p0 i hi
    · rw [up_n _ _ (by omega)]; exact p1 i h1 h2
    · rw [up_n _ _ (by omega), up_n _ _ (by omega), up_n _ _ (by omega)]; exact p5 i hi
    · rw [up_n _ _ (by omega)]; exact p6 i h1 h2
    · rw [up_n _ _ (by omega)]; exact p7
    · exact ⟨by rw [up_n _ _ (by omega)]; exact p8.1, fun j hj => by rw [up_n _ _ (by omega)]; exact p8.2 j hj⟩
  · rw [show actP T P f = _ from if_neg hm]
    have hl1 := Nat.mod_lt (P (5 + f) + bite T P f) (show 0 < T 2 by omega)
    generalize (P (5 + f) + bite T P f) % T 2 = v1 at hl1
    have hl2 : (if P (10 + f) + (P (5 + f) + bite T P f) / T 2 ≤ 99 then P (10 + f) + (P (5 + f) + bite T P f) / T 2 else 99) ≤ 99 := by split <;> omega
    generalize (if P (10 + f) + (P (5 + f) + bite T P f) / T 2 ≤ 99 then P (10 + f) + (P (5 + f) + bite T P f) / T 2 else 99) = v2 at hl2
    have hb : P (15 + P f) - bite T P f ≤ P (15 + P f) := Nat.sub_le _ _
    have hz : P (15 + P f) ≤ 60 := (p5 _ hr5).2.2
    refine ⟨fun i hi => ?_, fun i h1 h2 => ?_, fun i hi => ?_, fun i h1 h2 => ?_, ?_, ?_⟩
    · rw [up_n _ _ (by omega), up_n _ _ (by omega), up_n _ _ (by omega)]; exact p0 i hi
    · rw [up_n _ _ (by omega), up_n _ _ (by omega), up_n _ _ (by omega)]; exact p1 i h1 h2
    · have h := p5 i hi
      refine ⟨?_, ?_, ?_⟩
      · rw [up_n _ _ (by omega)]
        by_cases e : i = f
        · rw [e, up_s]; omega
        · rw [up_n _ _ (by omega), up_n _ _ (by omega)]; exact h.1
      · by_cases e : i = f
        · rw [e, up_s]; exact hl2
        · rw [up_n _ _ (by omega), up_n _ _ (by omega), up_n _ _ (by omega)]; exact h.2.1
      · rw [up_n _ _ (by omega), up_n _ _ (by omega)]
        by_cases e : i = P f
        · rw [e, up_s]; omega
        · rw [up_n _ _ (by omega)]; exact h.2.2
    · rw [up_n _ _ (by omega), up_n _ _ (by omega), up_n _ _ (by omega)]; exact p6 i h1 h2
    · rw [up_n _ _ (by omega), up_n _ _ (by omega), up_n _ _ (by omega)]; exact p7
    · exact ⟨by rw [up_n _ _ (by omega), up_n _ _ (by omega), up_n _ _ (by omega)]; exact p8.1, fun j hj => by rw [up_n _ _ (by omega), up_n _ _ (by omega), up_n _ _ (by omega)]; exact p8.2 j hj⟩
theorem WP.step {T P : Nat → Nat} (hT : WT T) (hP : WP T P) : ∀ n, n ≤ T 1 → WP T (stepP T P n)
  | 0, _ => hP
  | n + 1, h => (WP.step hT hP n (by omega)).act hT (by omega)
theorem eat_le {T P : Nat → Nat} (hT : WT T) {f : Nat} (hf : f < 5) : eat T P f ≤ 9 := by
  have := (hT.2.2.2.1 f hf).2.2.2.1
  unfold eat bite
  split
  · omega
  · split <;> omega
theorem sumN_le {g : Nat → Nat} {b : Nat} : ∀ n, (∀ i, i < n → g i ≤ b) → sumN g n ≤ n * b
  | 0, _ => by simp [sumN]
  | n + 1, h => by
    have := sumN_le n fun i hi => h i (by omega)
    have := h n (by omega)
    show sumN g n + g n ≤ _
    rw [Nat.succ_mul]; omega
theorem m_steps {σ : qH} {m : Nat} {tr : Int64} {z : Nat → Int32} {T P : Nat → Nat} (h0 : σ.1 m = some (mC m tr z)) (h2 : σ.1 (m + 2) = some (iA 35 T)) (h4 : σ.1 (m + 4) = some (iA 22 P)) (hT : WT T) (hP : WP T P) :
    q_call 67 [.ref m] σ = some (some (.int (nI (stepE T P (T 1)))), q_upd σ (m + 4) (iA 22 (stepP T P (T 1)))) := by
  rw [k_67 h0, e_67_0]
  have h := q_for (fun i => q_run 67 4 [(0, .ref m), (1, .int (nI (stepE T P i))), (2, .int (nI i))] [] (q_upd σ (m + 4) (iA 22 (stepP T P i)))) (T 1) (fun i hi => ?_)
  · try dsimp only at h
    rw [show stepP T P 0 = P from rfl, u_self h4, show stepE T P 0 = 0 from rfl] at h
    rw [h, e_67_4]
    have h0a : (q_upd σ (m + 4) (iA 22 (stepP T P (T 1)))).1 m = some (mC m tr z) := (u_n _ _ (by omega)).trans h0
    have h2a : (q_upd σ (m + 4) (iA 22 (stepP T P (T 1)))).1 (m + 2) = some (iA 35 T) := (u_n _ _ (by omega)).trans h2
    have := hT.2.1
    rw [m_told h0a, q_obS, a_rd h2a (by decide) (by decide), q_obS, if_pos (nI_le (Nat.le_refl _) (by omega))]
  · try dsimp only
    have h0a : (q_upd σ (m + 4) (iA 22 (stepP T P i))).1 m = some (mC m tr z) := (u_n _ _ (by omega)).trans h0
    have h2a : (q_upd σ (m + 4) (iA 22 (stepP T P i))).1 (m + 2) = some (iA 35 T) := (u_n _ _ (by omega)).trans h2
    rw [m_act h0a h2a (u_s _ _ _) hT (hP.step hT i (by omega)) hi, u_u]
    rfl
