/-! ===== the class's reader: tokens taken ===== -/
def rH (σ : qH) (x ρ n it nm o1 o2 o3 : Nat) (T : Nat → Nat) : qH := q_upd (q_upd σ (ρ + 1) (planC T (nI (T 4)))) ρ (rdC x ρ n it nm o1 o2 o3 (T 3))
section RH
variable {σ : qH} {x ρ n it nm o1 o2 o3 : Nat} {T : Nat → Nat}
theorem rH_r : (rH σ x ρ n it nm o1 o2 o3 T).1 ρ = some (rdC x ρ n it nm o1 o2 o3 (T 3)) := u_s ..
theorem rH_p : (rH σ x ρ n it nm o1 o2 o3 T).1 (ρ + 1) = some (planC T (nI (T 4))) := (u_n _ _ (by omega)).trans (u_s ..)
theorem rH_o {a : Nat} (h1 : a ≠ ρ) (h2 : a ≠ ρ + 1) : (rH σ x ρ n it nm o1 o2 o3 T).1 a = σ.1 a := (u_n _ _ h1).trans (u_n _ _ h2)
theorem rH_u (it2 nm2 p1 p2 p3 : Nat) : q_upd (rH σ x ρ n it nm o1 o2 o3 T) ρ (rdC x ρ n it2 nm2 p1 p2 p3 (T 3)) = rH σ x ρ n it2 nm2 p1 p2 p3 T := u_u ..
theorem rH_e {T2 : Nat → Nat} {z2 : Int32} (h4 : z2 = nI (T2 4)) (h3 : T2 3 = T 3 + 1) : q_upd (q_upd (rH σ x ρ n it nm o1 o2 o3 T) (ρ + 1) (planC T2 z2)) ρ (rdC x ρ n 32 nm o1 o2 o3 (T 3 + 1)) = rH σ x ρ n 32 nm o1 o2 o3 T2 := by
  unfold rH
  rw [u_c _ _ _ (show ρ ≠ ρ + 1 by omega), u_u, u_u, h4, h3]
end RH
def no1 (nm v o : Nat) : Nat := if nm = 0 then v else o
def no2 (nm v o : Nat) : Nat := if nm = 0 then o else if nm = 1 then v else o
def no3 (nm v o : Nat) : Nat := if nm = 0 then o else if nm = 1 then o else v
def nof (it : Nat) : Nat := if it = 102 then 3 else if it = 110 then 1 else 2
def letB (T : Nat → Nat) (v : Nat) : Bool := if v = 100 then true else if v = 102 then decide (T 1 < 5) else if v = 110 then decide (T 4 = 0) else if v = 114 then decide (T 0 < 5) else false
section RT
variable {σ : qH} {x ρ n it nm o1 o2 o3 : Nat} {T : Nat → Nat} {tx : Nat → Nat}
theorem ct_num (hT : WX T) (hit : it < 256) (hnm : nm ≤ 3) (ho : o1 < 100) {v : Nat} (hv : v < 100) : q_call 31 [.ref ρ, .int (nI v)] (rH σ x ρ n it nm o1 o2 o3 T) = if mbB it nm o1 T v = true then some (some (.int (nI 1)), rH σ x ρ n it (nm + 1) (no1 nm v o1) (no2 nm v o2) (no3 nm v o3) T) else some (some (.int (nI 0)), rH σ x ρ n it nm o1 o2 o3 T) := by
  rw [k_31 rH_r, e_31_0, if_neg (show ¬ nI v < nI 0 from nI_pos (by omega)), cl_mayBe rH_r rH_p hT.1.1 hit hnm ho hv, q_cIS, q_obS]
  dsimp only
  cases mbB it nm o1 T v with
  | false => rw [if_pos (show nI (false.toNat) = nI 0 from rfl), e_31_12, if_neg (by decide)]
  | true =>
    rw [if_neg (show ¬ nI (true.toNat) = nI 0 by decide), rd_num rH_r, q_obS, if_pos rfl]
    unfold no1 no2 no3
    by_cases g0 : nm = 0
    · rw [if_pos (by rw [g0]), rp_one rH_r, q_obS, rH_u, e_31_50, rd_num rH_r, q_obS, nI_add, rp_num rH_r, q_obS, rH_u, if_pos g0, if_pos g0, if_pos g0]
    · rw [if_neg (fun w => g0 ((nI_eq (by omega) (by decide)).mp w)), q_obS, if_neg g0, if_neg g0, if_neg g0]
      by_cases g1 : nm = 1
      · rw [if_pos (by rw [g1]), rp_two rH_r, q_obS, rH_u, e_31_50, rd_num rH_r, q_obS, nI_add, rp_num rH_r, q_obS, rH_u, if_pos g1, if_pos g1]
      · rw [if_neg (fun w => g1 ((nI_eq (by omega) (by decide)).mp w)), rp_three rH_r, q_obS, rH_u, e_31_50, rd_num rH_r, q_obS, nI_add, rp_num rH_r, q_obS, rH_u, if_neg g1, if_neg g1]
theorem ct_numM : q_call 31 [.ref ρ, .int (-1)] (rH σ x ρ n it nm o1 o2 o3 T) = some (some (.int (nI 0)), rH σ x ρ n it nm o1 o2 o3 T) := by
  rw [k_31 rH_r, e_31_0, if_pos (show (-1 : Int32) < nI 0 by decide), e_31_12]
theorem ct_nof (σ : qH) (hit : it < 256) : q_call 32 [.int (nI it)] σ = some (some (.int (nI (nof it))), σ) := by
  rw [k_32, e_32_0]
  unfold nof
  by_cases g1 : it = 102
  · rw [if_pos (by rw [g1]), if_pos g1]
  · rw [if_neg (fun w => g1 ((nI_eq (by omega) (by decide)).mp w)), if_neg g1]
    by_cases g2 : it = 110
    · rw [if_pos (by rw [g2]), if_pos g2]
    · rw [if_neg (fun w => g2 ((nI_eq (by omega) (by decide)).mp w)), if_neg g2]
theorem nof_le (it : Nat) : nof it ≤ 3 := by
  unfold nof
  split
  · omega
  · split <;> omega
theorem ct_endN (hit : it < 256) (hnm : nm ≤ 3) (h : it = 32 ∨ nm ≠ nof it) : q_call 40 [.ref ρ] (rH σ x ρ n it nm o1 o2 o3 T) = some (some (.int (nI 0)), rH σ x ρ n it nm o1 o2 o3 T) := by
  rw [k_40 rH_r, e_40_0, rd_item rH_r, q_obS]
  by_cases g : it = 32
  · rw [if_pos (by rw [g]), e_40_23]
  · have := nof_le it
    rw [if_neg (fun w => g ((nI_eq (by omega) (by decide)).mp w)), rd_num rH_r, q_obS, q_obS, ct_nof _ hit, q_cIS, q_obS]
    dsimp only
    rw [if_neg (fun w => (h.resolve_left g) ((nI_eq (by omega) (by omega)).mp w)), e_40_23]
theorem ct_end133 {T2 : Nat → Nat} {z2 : Int32} (h4 : z2 = nI (T2 4)) (h3 : T2 3 = T 3 + 1) : q_run 40 133 [(0, .ref ρ)] [] (q_upd (rH σ x ρ n it nm o1 o2 o3 T) (ρ + 1) (planC T2 z2)) = some (some (.int (nI 1)), rH σ x ρ n 32 nm o1 o2 o3 T2) := by
  have k1 : (q_upd (rH σ x ρ n it nm o1 o2 o3 T) (ρ + 1) (planC T2 z2)).1 ρ = some (rdC x ρ n it nm o1 o2 o3 (T 3)) := (u_n _ _ (by omega)).trans rH_r
  have k2 : ∀ {e}, (q_upd (q_upd (rH σ x ρ n it nm o1 o2 o3 T) (ρ + 1) (planC T2 z2)) ρ e).1 ρ = some e := fun {e} => u_s ..
  rw [e_40_133, rd_items k1, q_obS, nI_add, rp_items k1, q_obS, rp_item k2 (by decide), q_obS, u_u, rH_e h4 h3]
theorem ct_endR (hT : WX T) (h0 : T 0 < 5) (ho1 : o1 < 100) (ho2 : o2 < 100) : q_call 40 [.ref ρ] (rH σ x ρ n 114 2 o1 o2 o3 T) = some (some (.int (nI 1)), rH σ x ρ n 32 2 o1 o2 o3 (rmT T o1 o2)) := by
  rw [k_40 rH_r, e_40_0, rd_item rH_r, q_obS, if_neg (show ¬ nI 114 = nI 32 by decide), rd_num rH_r, q_obS, q_obS, ct_nof _ (by decide), q_cIS, q_obS]
  dsimp only
  rw [if_pos (show nI 2 = nI (nof 114) from rfl), rd_item rH_r, q_obS, if_neg (show ¬ nI 114 = nI 100 by decide), if_neg (show ¬ nI 114 = nI 102 by decide), if_pos rfl, rd_plan rH_r, q_obS, rd_one rH_r, q_obS, rd_two rH_r, q_obS, c_addRoom rH_p hT.1 h0 (by omega) (by omega), q_cVS, q_obS]
  exact ct_end133 (by unfold rmT; rw [up_n _ _ (by decide), up_n _ _ (by decide), up_n _ _ (by omega), up_n _ _ (by omega)]) (up_s _ _ _)
theorem ct_endD (hT : WX T) (ho1 : o1 < 5) (ho2 : o2 < 5) (hne : o1 ≠ o2) : q_call 40 [.ref ρ] (rH σ x ρ n 100 2 o1 o2 o3 T) = some (some (.int (nI 1)), rH σ x ρ n 32 2 o1 o2 o3 (drT T o1 o2)) := by
  rw [k_40 rH_r, e_40_0, rd_item rH_r, q_obS, if_neg (show ¬ nI 100 = nI 32 by decide), rd_num rH_r, q_obS, q_obS, ct_nof _ (by decide), q_cIS, q_obS]
  dsimp only
  rw [if_pos (show nI 2 = nI (nof 100) from rfl), rd_item rH_r, q_obS, if_pos rfl, rd_plan rH_r, q_obS, rd_one rH_r, q_obS, rd_two rH_r, q_obS, c_addDoor rH_p hT.1 ho1 ho2 hne, q_cVS, q_obS]
  exact ct_end133 (by rw [drT_o T ho1 ho2 (by omega) (by decide)]) (up_s _ _ _)
theorem ct_endF (hT : WX T) (h1 : T 1 < 5) (ho1 : o1 < 8) (ho2 : o2 < 100) (ho3 : o3 < 100) : q_call 40 [.ref ρ] (rH σ x ρ n 102 3 o1 o2 o3 T) = some (some (.int (nI 1)), rH σ x ρ n 32 3 o1 o2 o3 (flT T o1 o2 o3)) := by
  rw [k_40 rH_r, e_40_0, rd_item rH_r, q_obS, if_neg (show ¬ nI 102 = nI 32 by decide), rd_num rH_r, q_obS, q_obS, ct_nof _ (by decide), q_cIS, q_obS]
  dsimp only
  rw [if_pos (show nI 3 = nI (nof 102) from rfl), rd_item rH_r, q_obS, if_neg (show ¬ nI 102 = nI 100 by decide), if_pos rfl, rd_plan rH_r, q_obS, rd_one rH_r, q_obS, rd_two rH_r, q_obS, rd_three rH_r, q_obS, c_addFlock rH_p hT.1 h1 ho1 (by omega) (by omega), q_cVS, q_obS]
  exact ct_end133 (by unfold flT; rw [up_n _ _ (by decide), up_n _ _ (by decide), up_n _ _ (by omega), up_n _ _ (by omega), up_n _ _ (by omega)]) (up_s _ _ _)
theorem ct_endL : q_call 40 [.ref ρ] (rH σ x ρ n 110 1 o1 o2 o3 T) = some (some (.int (nI 1)), rH σ x ρ n 32 1 o1 o2 o3 (nfT T o1)) := by
  rw [k_40 rH_r, e_40_0, rd_item rH_r, q_obS, if_neg (show ¬ nI 110 = nI 32 by decide), rd_num rH_r, q_obS, q_obS, ct_nof _ (by decide), q_cIS, q_obS]
  dsimp only
  rw [if_pos (show nI 1 = nI (nof 110) from rfl), rd_item rH_r, q_obS, if_neg (show ¬ nI 110 = nI 100 by decide), if_neg (show ¬ nI 110 = nI 102 by decide), if_neg (show ¬ nI 110 = nI 114 by decide), rd_plan rH_r, q_obS, rd_one rH_r, q_obS, c_tellLamb rH_p, q_cVS, q_obS]
  exact ct_end133 (by unfold nfT; rw [up_n _ _ (by decide), up_n _ _ (by decide), up_s]) (up_s _ _ _)
theorem ct_letN (hit : it < 256) (h : it ≠ 32) (v : Int32) : q_call 41 [.ref ρ, .int v] (rH σ x ρ n it nm o1 o2 o3 T) = some (some (.int (nI 0)), rH σ x ρ n it nm o1 o2 o3 T) := by
  rw [k_41 rH_r, e_41_0, rd_item rH_r, q_obS, if_neg (fun w => h ((nI_eq (by omega) (by decide)).mp w))]
theorem pl_z {σ : qH} {p : Nat} {T : Nat → Nat} {z : Int32} (H : σ.1 p = some (planC T z)) : q_getI σ (.ref p) 3 3 = some z := pl_told H
theorem ct_let (hT : WX T) {v : Nat} (hv : v < 256) : q_call 41 [.ref ρ, .int (nI v)] (rH σ x ρ n 32 nm o1 o2 o3 T) = some (some (.int (nI (letB T v).toNat)), rH σ x ρ n v 0 o1 o2 o3 T) := by
  have t0 := hT.1.1
  have t1 := hT.1.2.1
  have t4 := hT.2
  have hne : ∀ {b : Nat}, b < 256 → v ≠ b → ¬ nI v = nI b := fun hb q w => q ((nI_eq (by omega) (by omega)).mp w)
  rw [k_41 rH_r, e_41_0, rd_item rH_r, q_obS, if_pos rfl, rp_item rH_r hv, q_obS, rH_u, rp_num rH_r, q_obS, rH_u]
  unfold letB
  by_cases g1 : v = 100
  · rw [if_pos (by rw [g1]), if_pos g1]; rfl
  · rw [if_neg (hne (by decide) g1), if_neg g1]
    by_cases g2 : v = 102
    · rw [if_pos (by rw [g2]), if_pos g2, rd_plan rH_r, q_obS, pl_flocks rH_p, q_obS]
      by_cases g : T 1 < 5
      · rw [if_neg (nI_ge g (by decide)), decide_eq_true g]; rfl
      · rw [if_pos (nI_le (by omega) (by omega)), decide_eq_false g]; rfl
    · rw [if_neg (hne (by decide) g2), if_neg g2]
      by_cases g3 : v = 110
      · rw [if_pos (by rw [g3]), if_pos g3, rd_plan rH_r, q_obS, pl_told rH_p, q_obS]
        by_cases g : T 4 = 0
        · rw [if_pos (by rw [g]), decide_eq_true g]; rfl
        · rw [if_neg (fun w => g ((nI_eq (by omega) (by decide)).mp w)), decide_eq_false g]; rfl
      · rw [if_neg (hne (by decide) g3), if_neg g3]
        by_cases g4 : v = 114
        · rw [if_pos (by rw [g4]), if_pos g4, rd_plan rH_r, q_obS, pl_rooms rH_p, q_obS]
          by_cases g : T 0 < 5
          · rw [if_neg (nI_ge g (by decide)), decide_eq_true g]; rfl
          · rw [if_pos (nI_le (by omega) (by omega)), decide_eq_false g]; rfl
        · rw [if_neg (hne (by decide) g4), if_neg g4]; rfl
end RT
/-! ===== the class's reader: the next token ===== -/
theorem md_nx {tx : Nat → Nat} {n a : Nat} (ha : a ≤ n) (hm : mdB tx n a = false) : mdB tx n (nx tx n a) = false := by
  obtain ⟨h1, h2, h3, h4⟩ := nx_spec tx ha
  by_cases e : nx tx n a = a
  · rw [e]; exact hm
  · have h5 := h3 (nx tx n a - 1) (by omega) (by omega)
    unfold mdB
    rw [show dgB tx n (nx tx n a - 1) = false from decide_eq_false (by rw [h5]; omega), Bool.false_and, Bool.and_false]
theorem md_de {tx : Nat → Nat} {n a : Nat} (ha : a ≤ n) : mdB tx n (de tx n a) = false := by
  unfold mdB
  rw [(de_spec tx ha).2.2.2, Bool.and_false, Bool.and_false]
theorem md_s {tx : Nat → Nat} {n s : Nat} (h : dgB tx n s = false) : mdB tx n (s + 1) = false := by
  unfold mdB
  rw [Nat.add_sub_cancel, h, Bool.false_and, Bool.and_false]
section RN
variable {σ : qH} {x ρ n it nm o1 o2 o3 : Nat} {T : Nat → Nat} {tx : Nat → Nat}
noncomputable def rQ (ρ a : Nat) (h : qH) : Option qR := q_run 43 2 [(0, .ref ρ), (1, .int (nI a))] [] h
/-- what the reader leans on -/
def rOk (σ : qH) (x ρ n : Nat) (tx : Nat → Nat) : Prop := σ.1 (x + 1) = some (.inr (0, (120, .inl (fun j => nI (tx j))))) ∧ n ≤ 120 ∧ (∀ j, tx j < 256) ∧ x + 36 ≤ ρ
theorem rOk.t (h : rOk σ x ρ n tx) : (rH σ x ρ n it nm o1 o2 o3 T).1 (x + 1) = some (.inr (0, (120, .inl (fun j => nI (tx j))))) := (rH_o (by have := h.2.2.2; omega) (by have := h.2.2.2; omega)).trans h.1
theorem rq_skip (h : rOk σ x ρ n tx) {a : Nat} (ha : a < n) (hs : (!(tx a == 32) && !mdB tx n a) = false) : rQ ρ a (rH σ x ρ n it nm o1 o2 o3 T) = rQ ρ (a + 1) (rH σ x ρ n it nm o1 o2 o3 T) := by
  have hn := h.2.1
  unfold rQ
  rw [e_43_2, rd_len rH_r, q_obS, if_neg (nI_ge ha (by omega)), cl_start rH_r h.t hn h.2.2.1 ha, q_cIS, q_obS, hs]
  dsimp only
  rw [if_pos (show nI (false.toNat) = nI 0 from rfl), e_43_28, nI_add]
theorem rq_skips (h : rOk σ x ρ n tx) : ∀ d a, (∀ k, a ≤ k → k < a + d → k < n ∧ (!(tx k == 32) && !mdB tx n k) = false) → rQ ρ a (rH σ x ρ n it nm o1 o2 o3 T) = rQ ρ (a + d) (rH σ x ρ n it nm o1 o2 o3 T)
  | 0, a, _ => rfl
  | d + 1, a, hk => by
    obtain ⟨k1, k2⟩ := hk a (Nat.le_refl _) (by omega)
    rw [rq_skip h k1 k2, rq_skips h d (a + 1) (fun k g1 g2 => hk k (by omega) (by omega)), show a + 1 + d = a + (d + 1) by omega]
theorem rq_nx (h : rOk σ x ρ n tx) {a : Nat} (ha : a ≤ n) : rQ ρ a (rH σ x ρ n it nm o1 o2 o3 T) = rQ ρ (nx tx n a) (rH σ x ρ n it nm o1 o2 o3 T) := by
  obtain ⟨h1, h2, h3, h4⟩ := nx_spec tx ha
  have := rq_skips (it := it) (nm := nm) (o1 := o1) (o2 := o2) (o3 := o3) (T := T) h (nx tx n a - a) a (fun k g1 g2 => ⟨by omega, by rw [h3 k g1 (by omega)]; rfl⟩)
  rw [this, show a + (nx tx n a - a) = nx tx n a by omega]
theorem rq_de (h : rOk σ x ρ n tx) {s : Nat} (hs : dgB tx n s = true) : rQ ρ (s + 1) (rH σ x ρ n it nm o1 o2 o3 T) = rQ ρ (de tx n (s + 1)) (rH σ x ρ n it nm o1 o2 o3 T) := by
  have hsn := (dgB_t hs).1
  obtain ⟨h1, h2, h3, h4⟩ := de_spec tx (show s + 1 ≤ n by omega)
  have := rq_skips (it := it) (nm := nm) (o1 := o1) (o2 := o2) (o3 := o3) (T := T) h (de tx n (s + 1) - (s + 1)) (s + 1) (fun k g1 g2 => by
    have k1 := h3 k g1 (by omega)
    have k2 : dgB tx n (k - 1) = true := by
      by_cases e : k = s + 1
      · rw [e, Nat.add_sub_cancel]; exact hs
      · exact h3 (k - 1) (by omega) (by omega)
    refine ⟨(dgB_t k1).1, ?_⟩
    unfold mdB
    rw [k1, k2, decide_eq_true (by omega)]
    simp)
  rw [this, show s + 1 + (de tx n (s + 1) - (s + 1)) = de tx n (s + 1) by omega]
theorem rq_end (h : rOk σ x ρ n tx) {a : Nat} (ha : a ≤ n) (he : nx tx n a = n) (hit : it < 256) : rQ ρ a (rH σ x ρ n it nm o1 o2 o3 T) = some (some (.int (if it = 32 then -1 else nI (nx tx n a))), rH σ x ρ n it nm o1 o2 o3 T) := by
  have hn := h.2.1
  rw [rq_nx h ha, he]
  unfold rQ
  rw [e_43_2, rd_len rH_r, q_obS, if_pos (nI_le (Nat.le_refl _) (by omega)), rd_item rH_r, q_obS]
  by_cases g : it = 32
  · rw [if_pos (by rw [g]), if_pos g]
  · rw [if_neg (fun w => g ((nI_eq (by omega) (by decide)).mp w)), if_neg g, q_obS]
theorem rq_at (h : rOk σ x ρ n tx) {a : Nat} (ha : a ≤ n) (hm : mdB tx n a = false) (hs : nx tx n a < n) {b : Bool} {h2 : qH} (hc : q_call 42 [.ref ρ, .int (nI (nx tx n a))] (rH σ x ρ n it nm o1 o2 o3 T) = some (some (.int (nI b.toNat)), h2)) : rQ ρ a (rH σ x ρ n it nm o1 o2 o3 T) = if b = true then rQ ρ (nx tx n a + 1) h2 else some (some (.int (nI (nx tx n a))), h2) := by
  have hn := h.2.1
  obtain ⟨g1, g2, g3, g4⟩ := nx_spec tx ha
  have hst : (!(tx (nx tx n a) == 32) && !mdB tx n (nx tx n a)) = true := by
    rw [md_nx ha hm]
    have : (tx (nx tx n a) == 32) = false := by simpa using g4 hs
    rw [this]; rfl
  rw [rq_nx h ha]
  unfold rQ
  rw [e_43_2, rd_len rH_r, q_obS, if_neg (nI_ge hs (by omega)), cl_start rH_r h.t hn h.2.2.1 hs, q_cIS, q_obS, hst]
  dsimp only
  rw [if_neg (show ¬ nI (true.toNat) = nI 0 by decide), hc, q_cIS, q_obS]
  dsimp only
  cases b with
  | false => rw [if_pos (show nI (false.toNat) = nI 0 from rfl), if_neg (by decide)]
  | true => rw [if_neg (show ¬ nI (true.toNat) = nI 0 by decide), if_pos rfl, e_43_28, nI_add]
theorem ct_bt (b : Bool) (h : qH) : q_bt (q_okv 4 (.int (nI b.toNat))) (some (some (.int (nI b.toNat)), h)) none = (some (some (.int (nI b.toNat)), h) : Option qR) := by rw [okv4]; rfl
/-- a number is looked for -/
theorem rq_num (h : rOk σ x ρ n tx) (hT : WX T) {a : Nat} (ha : a ≤ n) (hm : mdB tx n a = false) (hit : it < 256) (hi32 : it ≠ 32) (hnm : nm ≠ nof it) (hn3 : nm ≤ 3) (ho : o1 < 100) {ok : Nat → Bool} (hok : ∀ v, v < 100 → mbB it nm o1 T v = ok v) :
    rQ ρ a (rH σ x ρ n it nm o1 o2 o3 T) = if dgB tx n (nx tx n a) = true ∧ tkV tx n (nx tx n a) < 100 ∧ ok (tkV tx n (nx tx n a)) = true then rQ ρ (de tx n (nx tx n a + 1)) (rH σ x ρ n it (nm + 1) (no1 nm (tkV tx n (nx tx n a)) o1) (no2 nm (tkV tx n (nx tx n a)) o2) (no3 nm (tkV tx n (nx tx n a)) o3) T) else some (some (.int (nI (nx tx n a))), rH σ x ρ n it nm o1 o2 o3 T) := by
  have hn := h.2.1
  obtain ⟨g1, g2, g3, g4⟩ := nx_spec tx ha
  by_cases hs : nx tx n a < n
  · have h8 := h.2.2.1 (nx tx n a)
    cases hd : dgB tx n (nx tx n a) with
    | true =>
      have e42 : q_call 42 [.ref ρ, .int (nI (nx tx n a))] (rH σ x ρ n it nm o1 o2 o3 T) = q_ob (q_cI (q_call 31 [.ref ρ, .int (if tkV tx n (nx tx n a) < 100 then nI (tkV tx n (nx tx n a)) else -1)] (rH σ x ρ n it nm o1 o2 o3 T))) none fun p7 => q_bt (q_okv 4 (.int p7.1)) (some (some (.int p7.1), p7.2)) none := by
        rw [k_42 rH_r, e_42_0, cl_digit rH_r h.t hn h.2.2.1 (by omega), q_cIS, q_obS, hd]
        dsimp only
        rw [if_neg (show ¬ nI (true.toNat) = nI 0 by decide), cl_num rH_r h.t hn h.2.2.1 hd, q_cIS, q_obS]
      by_cases hv : tkV tx n (nx tx n a) < 100
      · rw [if_pos hv, ct_num hT hit hn3 ho hv, hok _ hv] at e42
        cases hk : ok (tkV tx n (nx tx n a)) with
        | true =>
          rw [hk, if_pos rfl, q_cIS, q_obS] at e42
          dsimp only at e42
          rw [rq_at h ha hm hs (b := true) (e42.trans (ct_bt true _)), if_pos rfl, if_pos ⟨rfl, hv, rfl⟩, rq_de h hd]
        | false =>
          rw [hk, if_neg (by decide), q_cIS, q_obS] at e42
          dsimp only at e42
          rw [rq_at h ha hm hs (b := false) (e42.trans (ct_bt false _)), if_neg (by decide), if_neg (fun w => by cases w.2.2)]
      · rw [if_neg hv, ct_numM, q_cIS, q_obS] at e42
        dsimp only at e42
        rw [rq_at h ha hm hs (b := false) (e42.trans (ct_bt false _)), if_neg (by decide), if_neg (fun w => hv w.2.1)]
    | false =>
      have e42 : q_call 42 [.ref ρ, .int (nI (nx tx n a))] (rH σ x ρ n it nm o1 o2 o3 T) = some (some (.int (nI (false.toNat))), rH σ x ρ n it nm o1 o2 o3 T) := by
        have el : ltN tx n (nx tx n a) = tx (nx tx n a) := if_pos hs
        rw [k_42 rH_r, e_42_0, cl_digit rH_r h.t hn h.2.2.1 (by omega), q_cIS, q_obS, hd]
        dsimp only
        rw [if_pos (show nI (false.toNat) = nI 0 from rfl), cl_letter rH_r h.t hn h.2.2.1 (by omega), q_cIS, q_obS, el]
        dsimp only
        by_cases g : tx (nx tx n a) = 59
        · rw [if_pos (by rw [g]), ct_endN hit hn3 (Or.inr hnm), q_cIS, q_obS]
          exact ct_bt false _
        · rw [if_neg (fun w => g ((nI_eq (by omega) (by decide)).mp w)), cl_letter rH_r h.t hn h.2.2.1 (by omega), q_cIS, q_obS]
          dsimp only
          rw [ct_letN hit hi32, q_cIS, q_obS]
          exact ct_bt false _
      rw [rq_at h ha hm hs e42, if_neg (by decide), if_neg (fun w => by cases w.1)]
  · have he : nx tx n a = n := by omega
    have hd : dgB tx n (nx tx n a) = false := decide_eq_false (by omega)
    rw [rq_end h ha he hit, if_neg hi32, if_neg (fun w => by rw [hd] at w; cases w.1)]
/-- the item's end is looked for -/
theorem rq_semi (h : rOk σ x ρ n tx) (hT : WX T) {a : Nat} (ha : a ≤ n) (hm : mdB tx n a = false) (hit : it < 256) (hi32 : it ≠ 32) (hn3 : nm ≤ 3) (ho : o1 < 100) (hno : ∀ v, v < 100 → mbB it nm o1 T v = false) {h2 : qH} (hc : q_call 40 [.ref ρ] (rH σ x ρ n it nm o1 o2 o3 T) = some (some (.int (nI 1)), h2)) :
    rQ ρ a (rH σ x ρ n it nm o1 o2 o3 T) = if nx tx n a < n ∧ tx (nx tx n a) = 59 then rQ ρ (nx tx n a + 1) h2 else some (some (.int (nI (nx tx n a))), rH σ x ρ n it nm o1 o2 o3 T) := by
  have hn := h.2.1
  obtain ⟨g1, g2, g3, g4⟩ := nx_spec tx ha
  by_cases hs : nx tx n a < n
  · have h8 := h.2.2.1 (nx tx n a)
    have el : ltN tx n (nx tx n a) = tx (nx tx n a) := if_pos hs
    cases hd : dgB tx n (nx tx n a) with
    | true =>
      have e42 : q_call 42 [.ref ρ, .int (nI (nx tx n a))] (rH σ x ρ n it nm o1 o2 o3 T) = some (some (.int (nI (false.toNat))), rH σ x ρ n it nm o1 o2 o3 T) := by
        rw [k_42 rH_r, e_42_0, cl_digit rH_r h.t hn h.2.2.1 (by omega), q_cIS, q_obS, hd]
        dsimp only
        rw [if_neg (show ¬ nI (true.toNat) = nI 0 by decide), cl_num rH_r h.t hn h.2.2.1 hd, q_cIS, q_obS]
        dsimp only
        by_cases hv : tkV tx n (nx tx n a) < 100
        · rw [if_pos hv, ct_num hT hit hn3 ho hv, hno _ hv, if_neg (by decide), q_cIS, q_obS]
          exact ct_bt false _
        · rw [if_neg hv, ct_numM, q_cIS, q_obS]
          exact ct_bt false _
      have := (dgB_t hd).2
      rw [rq_at h ha hm hs e42, if_neg (by decide), if_neg (fun w => by omega)]
    | false =>
      by_cases g : tx (nx tx n a) = 59
      · have e42 : q_call 42 [.ref ρ, .int (nI (nx tx n a))] (rH σ x ρ n it nm o1 o2 o3 T) = some (some (.int (nI (true.toNat))), h2) := by
          rw [k_42 rH_r, e_42_0, cl_digit rH_r h.t hn h.2.2.1 (by omega), q_cIS, q_obS, hd]
          dsimp only
          rw [if_pos (show nI (false.toNat) = nI 0 from rfl), cl_letter rH_r h.t hn h.2.2.1 (by omega), q_cIS, q_obS, el]
          dsimp only
          rw [if_pos (by rw [g]), hc, q_cIS, q_obS]
          exact ct_bt true _
        rw [rq_at h ha hm hs e42, if_pos rfl, if_pos ⟨hs, g⟩]
      · have e42 : q_call 42 [.ref ρ, .int (nI (nx tx n a))] (rH σ x ρ n it nm o1 o2 o3 T) = some (some (.int (nI (false.toNat))), rH σ x ρ n it nm o1 o2 o3 T) := by
          rw [k_42 rH_r, e_42_0, cl_digit rH_r h.t hn h.2.2.1 (by omega), q_cIS, q_obS, hd]
          dsimp only
          rw [if_pos (show nI (false.toNat) = nI 0 from rfl), cl_letter rH_r h.t hn h.2.2.1 (by omega), q_cIS, q_obS, el]
          dsimp only
          rw [if_neg (fun w => g ((nI_eq (by omega) (by decide)).mp w)), cl_letter rH_r h.t hn h.2.2.1 (by omega), q_cIS, q_obS]
          dsimp only
          rw [ct_letN hit hi32, q_cIS, q_obS]
          exact ct_bt false _
        rw [rq_at h ha hm hs e42, if_neg (by decide), if_neg (fun w => g w.2)]
  · have he : nx tx n a = n := by omega
    rw [rq_end h ha he hit, if_neg hi32, if_neg (fun w => hs w.1)]
/-- an item is looked for: a letter -/
theorem rq_let (h : rOk σ x ρ n tx) (hT : WX T) {a : Nat} (ha : a ≤ n) (hm : mdB tx n a = false) (hs : nx tx n a < n) (hn3 : nm ≤ 3) (ho : o1 < 100) :
    (letB T (tx (nx tx n a)) = true → rQ ρ a (rH σ x ρ n 32 nm o1 o2 o3 T) = rQ ρ (nx tx n a + 1) (rH σ x ρ n (tx (nx tx n a)) 0 o1 o2 o3 T)) ∧
    (letB T (tx (nx tx n a)) = false → ∃ it2 nm2, rQ ρ a (rH σ x ρ n 32 nm o1 o2 o3 T) = some (some (.int (nI (nx tx n a))), rH σ x ρ n it2 nm2 o1 o2 o3 T)) := by
  have hn := h.2.1
  obtain ⟨g1, g2, g3, g4⟩ := nx_spec tx ha
  have h8 := h.2.2.1 (nx tx n a)
  have el : ltN tx n (nx tx n a) = tx (nx tx n a) := if_pos hs
  cases hd : dgB tx n (nx tx n a) with
  | true =>
    have hl : letB T (tx (nx tx n a)) = false := by
      have := (dgB_t hd).2
      unfold letB
      rw [if_neg (by omega), if_neg (by omega), if_neg (by omega), if_neg (by omega)]
    refine ⟨fun w => (by rw [hl] at w; cases w), fun _ => ⟨32, nm, ?_⟩⟩
    have e42 : q_call 42 [.ref ρ, .int (nI (nx tx n a))] (rH σ x ρ n 32 nm o1 o2 o3 T) = some (some (.int (nI (false.toNat))), rH σ x ρ n 32 nm o1 o2 o3 T) := by
      rw [k_42 rH_r, e_42_0, cl_digit rH_r h.t hn h.2.2.1 (by omega), q_cIS, q_obS, hd]
      dsimp only
      rw [if_neg (show ¬ nI (true.toNat) = nI 0 by decide), cl_num rH_r h.t hn h.2.2.1 hd, q_cIS, q_obS]
      dsimp only
      by_cases hv : tkV tx n (nx tx n a) < 100
      · rw [if_pos hv, ct_num hT (by decide) hn3 ho hv, show mbB 32 nm o1 T (tkV tx n (nx tx n a)) = false from rfl, if_neg (by decide), q_cIS, q_obS]
        exact ct_bt false _
      · rw [if_neg hv, ct_numM, q_cIS, q_obS]
        exact ct_bt false _
    rw [rq_at h ha hm hs e42, if_neg (by decide)]
  | false =>
    by_cases g : tx (nx tx n a) = 59
    · have hl : letB T (tx (nx tx n a)) = false := by rw [g]; rfl
      refine ⟨fun w => (by rw [hl] at w; cases w), fun _ => ⟨32, nm, ?_⟩⟩
      have e42 : q_call 42 [.ref ρ, .int (nI (nx tx n a))] (rH σ x ρ n 32 nm o1 o2 o3 T) = some (some (.int (nI (false.toNat))), rH σ x ρ n 32 nm o1 o2 o3 T) := by
        rw [k_42 rH_r, e_42_0, cl_digit rH_r h.t hn h.2.2.1 (by omega), q_cIS, q_obS, hd]
        dsimp only
        rw [if_pos (show nI (false.toNat) = nI 0 from rfl), cl_letter rH_r h.t hn h.2.2.1 (by omega), q_cIS, q_obS, el]
        dsimp only
        rw [if_pos (by rw [g]), ct_endN (by decide) hn3 (Or.inl rfl), q_cIS, q_obS]
        exact ct_bt false _
      rw [rq_at h ha hm hs e42, if_neg (by decide)]
    · have e42 : q_call 42 [.ref ρ, .int (nI (nx tx n a))] (rH σ x ρ n 32 nm o1 o2 o3 T) = some (some (.int (nI (letB T (tx (nx tx n a))).toNat)), rH σ x ρ n (tx (nx tx n a)) 0 o1 o2 o3 T) := by
        rw [k_42 rH_r, e_42_0, cl_digit rH_r h.t hn h.2.2.1 (by omega), q_cIS, q_obS, hd]
        dsimp only
        rw [if_pos (show nI (false.toNat) = nI 0 from rfl), cl_letter rH_r h.t hn h.2.2.1 (by omega), q_cIS, q_obS, el]
        dsimp only
        rw [if_neg (fun w => g ((nI_eq (by omega) (by decide)).mp w)), cl_letter rH_r h.t hn h.2.2.1 (by omega), q_cIS, q_obS, el]
        dsimp only
        rw [ct_let hT h8, q_cIS, q_obS]
        exact ct_bt _ _
      have := rq_at h ha hm hs e42
      exact ⟨fun w => by rw [this, if_pos w], fun w => ⟨tx (nx tx n a), 0, by rw [this, w]; rfl⟩⟩
end RN
