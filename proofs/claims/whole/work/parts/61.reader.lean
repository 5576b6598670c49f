/-! ===== the class's reader: letters, digits, numbers ===== -/
def rdC (x ρ n it nm o1 o2 o3 ct : Nat) : qE := .inl (4, [.ref (x + 1), .int (nI n), .int (nI it), .int (nI nm), .int (nI o1), .int (nI o2), .int (nI o3), .int (nI ct), .ref (ρ + 1)])
theorem okv3 : ∀ i : Fin 256, q_okv 3 (.int (nI i.val)) = true := by decide +kernel
theorem okv3' {i : Nat} (h : i < 256) : q_okv 3 (.int (nI i)) = true := okv3 ⟨i, h⟩
section RD
variable {σ : qH} {x ρ n it nm o1 o2 o3 ct : Nat}
theorem rd_text (h : σ.1 ρ = some (rdC x ρ n it nm o1 o2 o3 ct)) : q_getR σ (.ref ρ) 4 0 = some (x + 1) := g_R h rfl
theorem rd_len (h : σ.1 ρ = some (rdC x ρ n it nm o1 o2 o3 ct)) : q_getI σ (.ref ρ) 4 1 = some (nI n) := g_I h rfl
theorem rd_item (h : σ.1 ρ = some (rdC x ρ n it nm o1 o2 o3 ct)) : q_getI σ (.ref ρ) 4 2 = some (nI it) := g_I h rfl
theorem rd_num (h : σ.1 ρ = some (rdC x ρ n it nm o1 o2 o3 ct)) : q_getI σ (.ref ρ) 4 3 = some (nI nm) := g_I h rfl
theorem rd_one (h : σ.1 ρ = some (rdC x ρ n it nm o1 o2 o3 ct)) : q_getI σ (.ref ρ) 4 4 = some (nI o1) := g_I h rfl
theorem rd_two (h : σ.1 ρ = some (rdC x ρ n it nm o1 o2 o3 ct)) : q_getI σ (.ref ρ) 4 5 = some (nI o2) := g_I h rfl
theorem rd_three (h : σ.1 ρ = some (rdC x ρ n it nm o1 o2 o3 ct)) : q_getI σ (.ref ρ) 4 6 = some (nI o3) := g_I h rfl
theorem rd_items (h : σ.1 ρ = some (rdC x ρ n it nm o1 o2 o3 ct)) : q_getI σ (.ref ρ) 4 7 = some (nI ct) := g_I h rfl
theorem rd_plan (h : σ.1 ρ = some (rdC x ρ n it nm o1 o2 o3 ct)) : q_getR σ (.ref ρ) 4 8 = some (ρ + 1) := g_R h rfl
theorem rp_item (h : σ.1 ρ = some (rdC x ρ n it nm o1 o2 o3 ct)) {y : Nat} (hy : y < 256) : q_put σ (.ref ρ) 4 2 3 (.int (nI y)) = some (q_upd σ ρ (rdC x ρ n y nm o1 o2 o3 ct)) := p_F h (show 2 < 9 by decide) (okv3' hy)
theorem rp_num (h : σ.1 ρ = some (rdC x ρ n it nm o1 o2 o3 ct)) (y : Nat) : q_put σ (.ref ρ) 4 3 0 (.int (nI y)) = some (q_upd σ ρ (rdC x ρ n it y o1 o2 o3 ct)) := p_F h (show 3 < 9 by decide) rfl
theorem rp_one (h : σ.1 ρ = some (rdC x ρ n it nm o1 o2 o3 ct)) (y : Nat) : q_put σ (.ref ρ) 4 4 0 (.int (nI y)) = some (q_upd σ ρ (rdC x ρ n it nm y o2 o3 ct)) := p_F h (show 4 < 9 by decide) rfl
theorem rp_two (h : σ.1 ρ = some (rdC x ρ n it nm o1 o2 o3 ct)) (y : Nat) : q_put σ (.ref ρ) 4 5 0 (.int (nI y)) = some (q_upd σ ρ (rdC x ρ n it nm o1 y o3 ct)) := p_F h (show 5 < 9 by decide) rfl
theorem rp_three (h : σ.1 ρ = some (rdC x ρ n it nm o1 o2 o3 ct)) (y : Nat) : q_put σ (.ref ρ) 4 6 0 (.int (nI y)) = some (q_upd σ ρ (rdC x ρ n it nm o1 o2 y ct)) := p_F h (show 6 < 9 by decide) rfl
theorem rp_items (h : σ.1 ρ = some (rdC x ρ n it nm o1 o2 o3 ct)) (y : Nat) : q_put σ (.ref ρ) 4 7 0 (.int (nI y)) = some (q_upd σ ρ (rdC x ρ n it nm o1 o2 o3 y)) := p_F h (show 7 < 9 by decide) rfl
end RD
def ltN (tx : Nat → Nat) (n k : Nat) : Nat := if k < n then tx k else 32
/-- a digit ahead of a -/
def mdB (tx : Nat → Nat) (n a : Nat) : Bool := decide (0 < a) && (dgB tx n (a - 1) && dgB tx n a)
section RL
variable {σ : qH} {x ρ n it nm o1 o2 o3 ct : Nat} {tx : Nat → Nat}
theorem cl_letter (h : σ.1 ρ = some (rdC x ρ n it nm o1 o2 o3 ct)) (ht : σ.1 (x + 1) = some (.inr (0, (120, .inl (fun j => nI (tx j)))))) (hn : n ≤ 120) (h8 : ∀ j, tx j < 256) {k : Nat} (hk : k < 2 ^ 31) : q_call 23 [.ref ρ, .int (nI k)] σ = some (some (.int (nI (ltN tx n k))), σ) := by
  have e21 : q_run 23 21 [] [] σ = some (some (.int (nI 32)), σ) := by rw [e_23_21, okv3' (by decide)]; rfl
  unfold ltN
  rw [k_23 h, e_23_0, if_neg (show ¬ nI k < nI 0 from nI_pos hk), rd_len h, q_obS]
  by_cases g : k < n
  · rw [if_neg (nI_ge g (by omega)), rd_text h, q_obS, l_kind ht, q_obS, if_pos (nI_lt (by omega) (by decide)), q_obS, r_kind ht (by omega) (by decide), q_obS, okv3' (h8 k), if_pos g]
    rfl
  · rw [if_pos (nI_le (by omega) hk), e21, if_neg g]
theorem cl_letterM (h : σ.1 ρ = some (rdC x ρ n it nm o1 o2 o3 ct)) : q_call 23 [.ref ρ, .int (nI 0 - nI 1)] σ = some (some (.int (nI 32)), σ) := by
  rw [k_23 h, e_23_0, if_pos n1, e_23_21, okv3' (by decide)]
  rfl
theorem ltN_lt (h8 : ∀ j, tx j < 256) (k : Nat) : ltN tx n k < 256 := by unfold ltN; split
                                                                         · exact h8 k
                                                                         · decide
theorem dg_ltN (k : Nat) : dgB tx n k = decide (48 ≤ ltN tx n k ∧ ltN tx n k ≤ 57) := by
  unfold dgB ltN
  by_cases g : k < n
  · rw [if_pos g]; exact dec_and _ _ (by omega)
  · rw [if_neg g]; exact dec_and _ _ (by omega)
theorem cl_digit (h : σ.1 ρ = some (rdC x ρ n it nm o1 o2 o3 ct)) (ht : σ.1 (x + 1) = some (.inr (0, (120, .inl (fun j => nI (tx j)))))) (hn : n ≤ 120) (h8 : ∀ j, tx j < 256) {k : Nat} (hk : k < 2 ^ 31) : q_call 24 [.ref ρ, .int (nI k)] σ = some (some (.int (nI (dgB tx n k).toNat)), σ) := by
  have hl := ltN_lt (n := n) h8 k
  rw [k_24 h, e_24_0, cl_letter h ht hn h8 hk, q_cIS, q_obS, dg_ltN]
  dsimp only
  by_cases g1 : ltN tx n k < 48
  · rw [if_pos (nI_lt g1 (by decide)), e_24_22, decide_eq_false (by omega)]; rfl
  · rw [if_neg (fun w => g1 ((nI_ltI (by omega) (by decide)).mp w))]
    by_cases g2 : 57 < ltN tx n k
    · rw [if_pos (nI_lt g2 (by omega)), e_24_22, decide_eq_false (by omega)]; rfl
    · rw [if_neg (fun w => g2 ((nI_ltI (by decide) (by omega)).mp w)), decide_eq_true (by omega)]; rfl
theorem cl_digitM (h : σ.1 ρ = some (rdC x ρ n it nm o1 o2 o3 ct)) : q_call 24 [.ref ρ, .int (nI 0 - nI 1)] σ = some (some (.int (nI 0)), σ) := by
  rw [k_24 h, e_24_0, cl_letterM h, q_cIS, q_obS]
  dsimp only
  rw [if_pos (show nI 32 < nI 48 by decide), e_24_22]
theorem cl_start (h : σ.1 ρ = some (rdC x ρ n it nm o1 o2 o3 ct)) (ht : σ.1 (x + 1) = some (.inr (0, (120, .inl (fun j => nI (tx j)))))) (hn : n ≤ 120) (h8 : ∀ j, tx j < 256) {a : Nat} (ha : a < n) : q_call 25 [.ref ρ, .int (nI a)] σ = some (some (.int (nI (!(tx a == 32) && !mdB tx n a).toNat)), σ) := by
  have e : ltN tx n a = tx a := if_pos ha
  have l8 := h8 a
  rw [k_25 h, e_25_0, cl_letter h ht hn h8 (by omega), q_cIS, q_obS, e]
  dsimp only
  by_cases g : tx a = 32
  · rw [if_pos (by rw [g]), e_25_32, g]; rfl
  · have g' : (tx a == 32) = false := by simpa using g
    rw [if_neg (fun w => g ((nI_eq (by omega) (by decide)).mp w)), cl_digit h ht hn h8 (by omega), q_cIS, q_obS, g']
    dsimp only
    cases hd : dgB tx n a with
    | false =>
      rw [if_pos (show nI (false.toNat) = nI 0 from rfl), e_25_28]
      unfold mdB
      rw [hd, Bool.and_false, Bool.and_false]; rfl
    | true =>
      rw [if_neg (show ¬ nI (true.toNat) = nI 0 by decide)]
      by_cases g0 : a = 0
      · subst g0
        rw [cl_digitM h, q_cIS, q_obS]
        dsimp only
        rw [if_pos rfl, e_25_28]; rfl
      · rw [pk_sub (by omega), cl_digit h ht hn h8 (by omega), q_cIS, q_obS]
        dsimp only
        unfold mdB
        rw [hd, decide_eq_true (by omega)]
        cases hd2 : dgB tx n (a - 1) with
        | false => rw [if_pos (show nI (false.toNat) = nI 0 from rfl), e_25_28]; rfl
        | true => rw [if_neg (show ¬ nI (true.toNat) = nI 0 by decide), e_25_32]; rfl
theorem cl_num (h : σ.1 ρ = some (rdC x ρ n it nm o1 o2 o3 ct)) (ht : σ.1 (x + 1) = some (.inr (0, (120, .inl (fun j => nI (tx j)))))) (hn : n ≤ 120) (h8 : ∀ j, tx j < 256) {s : Nat} (hs : dgB tx n s = true) : q_call 26 [.ref ρ, .int (nI s)] σ = some (some (.int (if tkV tx n s < 100 then nI (tkV tx n s) else -1)), σ) := by
  obtain ⟨d1, d2, d3⟩ := dgB_t hs
  have e : ltN tx n s = tx s := if_pos d1
  rw [k_26 h, e_26_0, cl_letter h ht hn h8 (by omega), q_cIS, q_obS, nI_add, cl_digit h ht hn h8 (by omega), q_cIS, q_obS, e]
  dsimp only
  unfold tkV
  cases g1 : dgB tx n (s + 1) with
  | false =>
    rw [if_pos (show nI (false.toNat) = nI 0 from rfl), pk_sub d2, if_neg (show ¬ (false = true) by decide), if_pos (by omega)]
  | true =>
    obtain ⟨f1, f2, f3⟩ := dgB_t g1
    rw [if_neg (show ¬ nI (true.toNat) = nI 0 by decide), pk_sub d2, if_pos rfl]
    by_cases g0 : tx s = 48
    · rw [if_pos (by rw [g0]), e_26_35, if_pos (Or.inl g0), if_neg (by decide)]
    · rw [if_neg (fun w => g0 (by have := (nI_eq (by omega) (by decide)).mp w; omega)), nI_add, cl_digit h ht hn h8 (by omega), q_cIS, q_obS]
      dsimp only
      cases g2 : dgB tx n (s + 2) with
      | true => rw [if_neg (show ¬ nI (true.toNat) = nI 0 by decide), e_26_35, if_pos (Or.inr rfl), if_neg (by decide)]
      | false =>
        rw [if_pos (show nI (false.toNat) = nI 0 from rfl), cl_letter h ht hn h8 (by omega), q_cIS, q_obS, show ltN tx n (s + 1) = tx (s + 1) from if_pos f1]
        dsimp only
        rw [pk_mul, nI_add, pk_sub (by omega), if_neg (show ¬ (tx s = 48 ∨ false = true) from fun w => w.elim g0 (fun w => by cases w)), show 10 * (tx s - 48) + tx (s + 1) - 48 = 10 * (tx s - 48) + (tx (s + 1) - 48) by omega, if_pos (by omega)]
/-- whether a number may stand here -/
def mbB (it nm o1 : Nat) (T : Nat → Nat) (v : Nat) : Bool :=
  if it = 100 then decide (nm < 2) && (okI 0 (T 0) v && !(decide (nm = 1) && (v == o1)))
  else if it = 102 then (if nm = 0 then okI 0 (T 0) v else if nm = 1 then okI 1 10 v else if nm = 2 then okI 0 3 v else false)
  else if it = 110 then decide (nm = 0) && decide (1 ≤ v)
  else if it = 114 then (if nm = 0 then okI 1 6 v else if nm = 1 then okI 0 61 v else false)
  else false
theorem okI_0 (N v : Nat) : okI 0 N v = decide (v < N) := dec_and _ _ (by omega)
theorem cl_hasRoom {T : Nat → Nat} {z : Int32} (hp : σ.1 (ρ + 1) = some (planC T z)) (t0 : T 0 ≤ 5) {v : Nat} (hv : v < 100) : q_call 28 [.ref (ρ + 1), .int (nI v)] σ = some (some (.int (nI (okI 0 (T 0) v).toNat)), σ) := by
  rw [c_hasRoom hp, okI_0]
  rw [dec_and (0 ≤ nI v ∧ nI v < nI (T 0)) (v < T 0) ⟨fun w => (nI_ltI (by omega) (by omega)).mp w.2, fun w => ⟨nI_pos' (by omega), nI_lt w (by omega)⟩⟩]
theorem cl_mayBe {T : Nat → Nat} {z : Int32} (h : σ.1 ρ = some (rdC x ρ n it nm o1 o2 o3 ct)) (hp : σ.1 (ρ + 1) = some (planC T z)) (t0 : T 0 ≤ 5) (hit : it < 256) (hnm : nm ≤ 3) (ho : o1 < 100) {v : Nat} (hv : v < 100) : q_call 30 [.ref ρ, .int (nI v)] σ = some (some (.int (nI (mbB it nm o1 T v).toNat)), σ) := by
  have hb : ∀ (b : Bool) (σ : qH), q_bt (q_okv 4 (.int (nI b.toNat))) (some (some (.int (nI b.toNat)), σ)) none = (some (some (.int (nI b.toNat)), σ) : Option qR) := fun b σ => by rw [okv4]; rfl
  have hne : ∀ {a b : Nat}, a < 256 → b < 256 → a ≠ b → ¬ nI a = nI b := fun ha hb q w => q ((nI_eq (by omega) (by omega)).mp w)
  rw [k_30 h, e_30_0, rd_item h, q_obS]
  unfold mbB
  by_cases g1 : it = 100
  · rw [if_pos (by rw [g1]), if_pos g1, rd_num h, q_obS]
    by_cases g2 : 2 ≤ nm
    · rw [if_pos (nI_le g2 (by omega)), e_30_93, decide_eq_false (by omega)]; rfl
    · rw [if_neg (nI_ge (by omega) (by decide)), rd_plan h, q_obS, cl_hasRoom hp t0 hv, q_cIS, q_obS, decide_eq_true (by omega), Bool.true_and]
      dsimp only
      cases hr : okI 0 (T 0) v with
      | false => rw [if_pos (show nI (false.toNat) = nI 0 from rfl), e_30_93]; rfl
      | true =>
        rw [if_neg (show ¬ nI (true.toNat) = nI 0 by decide), rd_num h, q_obS]
        by_cases g3 : nm = 1
        · rw [if_pos (by rw [g3]), rd_one h, q_obS, decide_eq_true g3]
          by_cases g4 : v = o1
          · rw [if_pos (by rw [g4]), e_30_93, g4]; simp
          · have g4' : (v == o1) = false := by simpa using g4
            rw [if_neg (hne (by omega) (by omega) g4), e_30_89, g4']; rfl
        · rw [if_neg (hne (by omega) (by decide) g3), e_30_89, decide_eq_false g3]; rfl
  · rw [if_neg (hne hit (by decide) g1), if_neg g1]
    by_cases g2 : it = 102
    · rw [if_pos (by rw [g2]), if_pos g2]
      have key : q_call 29 [.ref ρ, .int (nI v)] σ = some (some (.int (nI (if nm = 0 then okI 0 (T 0) v else if nm = 1 then okI 1 10 v else if nm = 2 then okI 0 3 v else false).toNat)), σ) := by
        rw [k_29 h, e_29_0, rd_num h, q_obS]
        by_cases n0 : nm = 0
        · rw [if_pos (by rw [n0]), if_pos n0, rd_plan h, q_obS, cl_hasRoom hp t0 hv, q_cIS, q_obS, hb]
        · rw [if_neg (hne (by omega) (by decide) n0), if_neg n0]
          by_cases n1' : nm = 1
          · rw [if_pos (by rw [n1']), if_pos n1']
            unfold okI
            by_cases v1 : v < 1
            · rw [if_pos (nI_lt v1 (by decide)), e_29_56, decide_eq_false (by omega)]; rfl
            · rw [if_neg (fun w => v1 ((nI_ltI (by omega) (by decide)).mp w))]
              by_cases v2 : 9 < v
              · rw [if_pos (nI_lt v2 (by omega)), e_29_56, decide_eq_false (by omega)]; rfl
              · rw [if_neg (fun w => v2 ((nI_ltI (by decide) (by omega)).mp w)), decide_eq_true (by omega)]; rfl
          · rw [if_neg (hne (by omega) (by decide) n1'), if_neg n1']
            by_cases n2' : nm = 2
            · rw [if_pos (by rw [n2']), if_pos n2']
              unfold okI
              by_cases v2 : 2 < v
              · rw [if_pos (nI_lt v2 (by omega)), decide_eq_false (by omega)]; rfl
              · rw [if_neg (fun w => v2 ((nI_ltI (by decide) (by omega)).mp w)), decide_eq_true (by omega)]; rfl
            · rw [if_neg (hne (by omega) (by decide) n2'), if_neg n2']; rfl
      rw [key, q_cIS, q_obS, hb]
    · rw [if_neg (hne hit (by decide) g2), if_neg g2]
      by_cases g3 : it = 110
      · rw [if_pos (by rw [g3]), if_pos g3, rd_num h, q_obS]
        by_cases n0 : nm = 0
        · rw [if_pos (by rw [n0]), decide_eq_true n0, Bool.true_and]
          by_cases v1 : v < 1
          · rw [if_pos (nI_lt v1 (by decide)), e_30_117, decide_eq_false (by omega)]; rfl
          · rw [if_neg (fun w => v1 ((nI_ltI (by omega) (by decide)).mp w)), decide_eq_true (by omega)]; rfl
        · rw [if_neg (hne (by omega) (by decide) n0), e_30_117, decide_eq_false n0]; rfl
      · rw [if_neg (hne hit (by decide) g3), if_neg g3]
        by_cases g4 : it = 114
        · rw [if_pos (by rw [g4]), if_pos g4]
          have key : q_call 27 [.ref ρ, .int (nI v)] σ = some (some (.int (nI (if nm = 0 then okI 1 6 v else if nm = 1 then okI 0 61 v else false).toNat)), σ) := by
            rw [k_27 h, e_27_0, rd_num h, q_obS]
            by_cases n0 : nm = 0
            · rw [if_pos (by rw [n0]), if_pos n0]
              unfold okI
              by_cases v1 : v < 1
              · rw [if_pos (nI_lt v1 (by decide)), e_27_46, decide_eq_false (by omega)]; rfl
              · rw [if_neg (fun w => v1 ((nI_ltI (by omega) (by decide)).mp w))]
                by_cases v2 : 5 < v
                · rw [if_pos (nI_lt v2 (by omega)), e_27_46, decide_eq_false (by omega)]; rfl
                · rw [if_neg (fun w => v2 ((nI_ltI (by decide) (by omega)).mp w)), decide_eq_true (by omega)]; rfl
            · rw [if_neg (hne (by omega) (by decide) n0), if_neg n0]
              by_cases n1' : nm = 1
              · rw [if_pos (by rw [n1']), if_pos n1']
                unfold okI
                by_cases v2 : 60 < v
                · rw [if_pos (nI_lt v2 (by omega)), decide_eq_false (by omega)]; rfl
                · rw [if_neg (fun w => v2 ((nI_ltI (by decide) (by omega)).mp w)), decide_eq_true (by omega)]; rfl
              · rw [if_neg (hne (by omega) (by decide) n1'), if_neg n1']; rfl
          rw [key, q_cIS, q_obS, hb]
        · rw [if_neg (hne hit (by decide) g4), if_neg g4]; rfl
end RL
