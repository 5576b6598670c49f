/-! ===== the way back: the class's answer ===== -/
/-- what the search leaves: fewest and first -/
def backR (T P : Nat → Nat) (fw fi : Int32) : Prop := (fw = nI 0 ∧ fi = -9 ∧ hmB T P = true) ∨ (fw = -9 ∧ fi = -9 ∧ ResN T P) ∨ (∃ n a, fw = nI (n + 1) ∧ fi = nI a ∧ n < 3125 ∧ ResF T P n a)
section SM
variable {σ : qH} {x p : Nat} {g : Nat → Int64} {T P : Nat → Nat} {zz : Int32}
theorem c_lay {n h le : Nat} {l0 : Nat → Nat × (Nat → Nat)} {fw x4 : Int32} (hp : σ.1 p = some (planC T zz)) (hpo : p = x + 2 ∨ x + 36 ≤ p) (he : σ.1 (x + 3) = some (evC P)) (hT : WT T) (hB : bB T P n h le l0) :
    ∀ d c (b : bK) q, c + d = le → h ≤ c → bI T P n h le l0 c 0 0 b → bRel q b → ∃ b' q' c', ((b'.2.2.2 = none ∧ c' = le ∧ bI T P n h le l0 le 0 0 b') ∨ ∃ a, b'.2.2.2 = some a ∧ ResF T P n a) ∧ bRel q' b' ∧ q_run 103 89 [(0, .ref (x + 19)), (1, .ref p), (2, .ref (x + 3)), (3, .int (nI c)), (4, .int x4), (5, .int (nI le))] [] (bH σ x g q b fw) = q_run 103 120 [(0, .ref (x + 19)), (1, .ref p), (2, .ref (x + 3)), (3, .int (nI c')), (4, .int x4)] [] (bH σ x g q' b' fw) := by
  intro d
  induction d with
  | zero =>
    intro c b q hcd hc hI hq
    have e : c = le := by omega
    subst e
    have hle := hI.1.le hT
    have h2 := hI.2.1
    refine ⟨b, q, c, ?_, hq, ?_⟩
    · cases hn : b.2.2.2 with
      | none => exact Or.inl ⟨rfl, rfl, hI⟩
      | some a => exact Or.inr ⟨a, rfl, hI.2.2.2.1 a hn⟩
    · rw [e_103_89, if_pos (nI_le (Nat.le_refl _) (by omega))]
  | succ d ih =>
    intro c b q hcd hc hI hq
    have hle := hI.1.le hT
    have h2 := hI.2.1
    have hw : (bH σ x g q b fw).1 (x + 19) = some (wbC x (nI b.2.2.1) fw (optI b.2.2.2)) := bk_w
    have hev : (bH σ x g q b fw).1 (x + 3) = some (evR (nI (pkS P)) (lN (pkL (fun i => P (15 + i)))) (lN (pkL (fun i => P (5 + i)))) (lN (pkL (fun i => P (10 + i)))) (nI (P 20)) (nI (P 21))) := (bk_o (by omega)).trans he
    rw [e_103_89, if_neg (nI_ge (by omega) (by omega)), wb_first hw, q_obS]
    cases hn : b.2.2.2 with
    | none =>
      obtain ⟨b1, q1, m1, m2, m3⟩ := c_spread (σ := σ) (x := x) (p := p) (fw := fw) (g := g) hp hpo hT hB hc (by omega) hI hq
      obtain ⟨b2, q2, c2, n1, n2, n3⟩ := ih (c + 1) b1 q1 (by omega) (by omega) m1 m2
      refine ⟨b2, q2, c2, n1, n2, ?_⟩
      rw [if_pos (show optI none = (-9 : Int32) from rfl), ev_dogs hev, q_obS, m3, q_cVS, q_obS, nI_add]
      exact n3
    | some a =>
      have hR := hI.2.2.2.1 a hn
      refine ⟨b, q, c, Or.inr ⟨a, hn, hR⟩, hq, ?_⟩
      rw [if_neg (show ¬ optI (some a) = (-9 : Int32) from n_m9 (by have := hR.lt hT; omega))]
theorem bH_fw {q : Nat → Int32} {b : bK} {fw : Int32} (y : Int32) : q_put (bH σ x g q b fw) (.ref (x + 19)) 5 3 0 (.int y) = some (bH σ x g q b y) := by
  unfold bH
  rw [wbp_fewest bk_w, bk_uw]
theorem c_main (hp : σ.1 p = some (planC T zz)) (hpo : p = x + 2 ∨ x + 36 ≤ p) (he : σ.1 (x + 3) = some (evC P)) (hT : WT T) :
    ∀ m n h (b : bK) q, 3125 ≤ h + m → n ≤ h → bB T P n h b.2.2.1 b.1 → wfB T P b → b.2.2.2 = none → bRel q b → ∃ b' q' fw', ((b'.2.2.2 = none ∧ fw' = -9 ∧ ResN T P) ∨ ∃ n a, b'.2.2.2 = some a ∧ fw' = nI (n + 1) ∧ n < 3125 ∧ ResF T P n a) ∧ q_run 103 58 [(0, .ref (x + 19)), (1, .ref p), (2, .ref (x + 3)), (3, .int (nI h)), (4, .int (nI (n + 1)))] [] (bH σ x g q b (-9)) = some (none, bH σ x g q' b' fw') := by
  intro m
  induction m with
  | zero =>
    intro n h b q h1 h2 hB hw hn hq
    have hle := hw.le hT
    have hh := hB.1
    have e : h = b.2.2.1 := by omega
    have hcw : (bH σ x g q b (-9)).1 (x + 19) = some (wbC x (nI b.2.2.1) (-9) (optI b.2.2.2)) := bk_w
    refine ⟨b, q, -9, Or.inl ⟨hn, rfl, ?_⟩, ?_⟩
    · rw [e] at hB; exact hB.none
    · rw [e_103_58]
      split
      · rfl
      · rw [wb_end hcw, q_obS, if_pos (nI_le (by omega) (by omega))]
  | succ m ih =>
    intro n h b q h1 h2 hB hw hn hq
    have hle := hw.le hT
    have hh := hB.1
    have hcw : (bH σ x g q b (-9)).1 (x + 19) = some (wbC x (nI b.2.2.1) (-9) (optI b.2.2.2)) := bk_w
    by_cases e : h = b.2.2.1
    · refine ⟨b, q, -9, Or.inl ⟨hn, rfl, ?_⟩, ?_⟩
      · rw [e] at hB; exact hB.none
      · rw [e_103_58]
        split
        · rfl
        · rw [wb_end hcw, q_obS, if_pos (nI_le (by omega) (by omega))]
    · obtain ⟨b1, q1, c1, m1, m2, m3⟩ := c_lay (σ := σ) (x := x) (p := p) (g := g) (fw := -9) (x4 := nI (n + 1)) hp hpo he hT hB (b.2.2.1 - h) h b q (by omega) (Nat.le_refl _) (bI.start hB hw hn) hq
      have hcw1 : (bH σ x g q1 b1 (-9)).1 (x + 19) = some (wbC x (nI b1.2.2.1) (-9) (optI b1.2.2.2)) := bk_w
      have e0 : q_run 103 58 [(0, .ref (x + 19)), (1, .ref p), (2, .ref (x + 3)), (3, .int (nI h)), (4, .int (nI (n + 1)))] [] (bH σ x g q b (-9)) = q_run 103 120 [(0, .ref (x + 19)), (1, .ref p), (2, .ref (x + 3)), (3, .int (nI c1)), (4, .int (nI (n + 1)))] [] (bH σ x g q1 b1 (-9)) := by
        rw [e_103_58, if_neg (show ¬ nI 3125 < nI (n + 1) from fun w => by have := (nI_ltI (by decide) (by omega)).mp w; omega), wb_end hcw, q_obS, if_neg (nI_ge (by omega) (by omega)), wb_first hcw, q_obS, hn, if_pos (show optI none = (-9 : Int32) from rfl), q_obS]
        exact m3
      rw [e0, e_103_120, wb_first hcw1, q_obS]
      rcases m1 with ⟨k1, rfl, k3⟩ | ⟨a, k1, k2⟩
      · rw [k1, if_pos (show optI none = (-9 : Int32) from rfl), e_103_137, bH_fw, q_obS, nI_add]
        have hB2 := k3.done hT hB k1
        exact ih (n + 1) b.2.2.1 b1 q1 (by omega) (by omega) hB2 k3.1 k1 m2
      · have hne : ¬ optI (some a) = (-9 : Int32) := n_m9 (by have := k2.lt hT; omega)
        refine ⟨b1, q1, nI (n + 1), Or.inr ⟨n, a, k1, rfl, by omega, k2⟩, ?_⟩
        rw [k1, if_neg hne, e_103_137, bH_fw, q_obS, nI_add, e_103_58]
        have hcw2 : (bH σ x g q1 b1 (nI (n + 1))).1 (x + 19) = some (wbC x (nI b1.2.2.1) (nI (n + 1)) (optI b1.2.2.2)) := bk_w
        split
        · rfl
        · rw [wb_end hcw2, q_obS]
          split
          · rfl
          · rw [wb_first hcw2, q_obS, k1, if_neg hne]
theorem wdS_0 (w : Nat) : wdS (fun _ => false) w = 0 := tb_zero fun i => by
  unfold wdS
  rw [bits_tb, Bool.and_false]
theorem c_fill {a : Nat} {f : Nat → Int64} (h : σ.1 a = some (lF 512 f)) : q_call 99 [.ref a, .long (lN 0)] σ = some (none, q_upd σ a (lF 512 (sG 512 f (fun _ => false)))) := by
  have hl := q_for (fun j => q_run 99 6 [(0, .ref a), (1, .long (lN 0)), (3, .int (nI j)), (4, .int (nI 512))] [] (q_upd σ a (lF 512 (fun w => if w < j then lN 0 else f w)))) 512 (fun j hj => by
    try dsimp only
    have q0 : ∀ {e}, (q_upd σ a e).1 a = some e := fun {e} => u_s ..
    rw [e_99_6, if_neg (nI_ge hj (by decide)), L_wr q0 hj (by decide), q_obS, u_u, nI_add]
    congr 4
    funext w
    unfold upJ
    by_cases e : w = j
    · rw [if_pos e, if_pos (by omega)]
    · rw [if_neg e]
      dsimp only
      by_cases e2 : w < j
      · rw [if_pos e2, if_pos (by omega)]
      · rw [if_neg e2, if_neg (by omega)])
  try dsimp only at hl
  have e0 : (fun w => if w < 0 then lN 0 else f w) = f := by
    funext w; rw [if_neg (by omega)]
  rw [e0, u_self h] at hl
  have e1 : (fun w => if w < 512 then lN 0 else f w) = sG 512 f (fun _ => false) := by
    funext w
    unfold sG
    rw [wdS_0]
  rw [k_99, e_99_0, L_len h, q_obS, hl, e_99_6, if_pos (nI_le (Nat.le_refl _) (by decide)), e1]
theorem c_search {e0 f0 g0 : Int32} {q : Nat → Int32} (h19 : σ.1 (x + 19) = some (wbC x e0 f0 g0)) (h20 : σ.1 (x + 20) = some (iF 3125 q)) (h21 : σ.1 (x + 21) = some (lF 512 g)) (hp : σ.1 p = some (planC T zz)) (hpo : p = x + 2 ∨ x + 36 ≤ p) (he : σ.1 (x + 3) = some (evC P)) (hT : WT T) (hP : WP T P) :
    ∃ e w l fw fi, q_call 103 [.ref (x + 19), .ref p, .ref (x + 3)] σ = some (none, q_upd (q_upd (q_upd σ (x + 21) (lF 512 w)) (x + 20) (iF 3125 l)) (x + 19) (wbC x e fw fi)) ∧ backR T P fw fi := by
  obtain ⟨e0, -, rfl⟩ := wb_of32 e0
  have l1 := pkS_lt (hP.p8 hT)
  have l2 := pkS_lt hT.l.2.2.2.2.2
  have q19 : ∀ {e}, (q_upd σ (x + 19) e).1 (x + 19) = some e := fun {e} => u_s ..
  have q21 : ∀ {e}, (q_upd σ (x + 19) e).1 (x + 21) = some (lF 512 g) := fun {e} => (u_n _ _ (by omega)).trans h21
  have qp : ∀ {e}, (q_upd σ (x + 19) e).1 p = some (planC T zz) := fun {e} => (u_n _ _ (by omega)).trans hp
  have qe : ∀ {e}, (q_upd σ (x + 19) e).1 (x + 3) = some (evR (nI (pkS P)) (lN (pkL (fun i => P (15 + i)))) (lN (pkL (fun i => P (5 + i)))) (lN (pkL (fun i => P (10 + i)))) (nI (P 20)) (nI (P 21))) := fun {e} => (u_n _ _ (by omega)).trans he
  rw [k_103 h19, e_103_0, wbp_fewest h19, q_obS, wbp_first q19, q_obS, u_u, ev_places qe, q_obS, pl_homes qp, q_obS]
  by_cases hh : hmB T P = true
  · refine ⟨nI e0, g, q, nI 0, -9, ?_, Or.inl ⟨rfl, rfl, hh⟩⟩
    rw [if_pos (by rw [of_decide_eq_true hh]), wbp_fewest q19, q_obS, u_u, u_self h21, u_self h20]
  · have hh' : hmB T P = false := by simpa using hh
    rw [if_neg (fun w => hh (decide_eq_true ((nI_eq (by omega) (by omega)).mp w))), wb_seen q19, q_obS, c_fill q21, q_cVS, q_obS]
    have k19 : (q_upd (q_upd σ (x + 19) (wbC x (nI e0) (-9) (-9))) (x + 21) (lF 512 (sG 512 g (fun _ => false)))).1 (x + 19) = some (wbC x (nI e0) (-9) (-9)) := (u_n _ _ (by omega)).trans q19
    have hb : q_upd (q_upd (q_upd σ (x + 19) (wbC x (nI e0) (-9) (-9))) (x + 21) (lF 512 (sG 512 g (fun _ => false)))) (x + 19) (wbC x (nI 0) (-9) (-9)) = bkH σ x g q (fun _ => false) 0 (-9) (-9) := by
      unfold bkH
      rw [u_c _ _ _ (show x + 19 ≠ x + 21 by omega), u_u, u_self (show (q_upd σ (x + 21) (lF 512 (sG 512 g (fun _ => false)))).1 (x + 20) = some (iF 3125 q) from (u_n _ _ (by omega)).trans h20)]
    have ke : (bkH σ x g q (fun _ => false) 0 (-9) (-9)).1 (x + 3) = some (evR (nI (pkS P)) (lN (pkL (fun i => P (15 + i)))) (lN (pkL (fun i => P (5 + i)))) (lN (pkL (fun i => P (10 + i)))) (nI (P 20)) (nI (P 21))) := (bk_o (by omega)).trans he
    rw [wbp_end k19, q_obS, hb, ev_places ke, q_obS, c_reach (by omega) (by decide) (by decide), if_neg (by decide), q_cIS, q_obS]
    dsimp only
    have hQ : QB T P P := ⟨hP, fun _ _ => rfl⟩
    have hw : wfB T P ((fun _ => (63, P)), upB (fun _ => false) (pkS P), 1, none) := by
      refine ⟨fun j hj => ⟨hQ, Nat.le_refl _, if_pos rfl⟩, fun Q hQ2 hs => ⟨0, Nat.one_pos, ?_⟩, fun i j hi hj _ => ?_⟩
      · have hs2 : upB (fun _ => false) (pkS P) (pkS Q) = true := hs
        unfold upB at hs2
        by_cases e : pkS Q = pkS P
        · exact hQ.eq hT hQ2 e.symm
        · rw [if_neg e] at hs2; cases hs2
      · have hi2 : i < 1 := hi
        have hj2 : j < 1 := hj
        omega
    have hrel : bRel (upI q 0 (nI (63 * 2 ^ 15 + pkS P))) ((fun _ => (63, P)), upB (fun _ => false) (pkS P), 1, none) := by
      intro j hj
      have hj2 : j < 1 := hj
      rw [show j = 0 by omega]; exact if_pos rfl
    obtain ⟨b', q', fw', k1, k2⟩ := c_main (σ := σ) (x := x) (p := p) (g := g) hp hpo he hT 3125 0 0 _ _ (by omega) (Nat.le_refl _) (bB.first (b := ((fun _ => (63, P)), upB (fun _ => false) (pkS P), 1, none)) hQ hh' rfl rfl) hw rfl hrel
    refine ⟨nI b'.2.2.1, sG 512 g b'.2.1, q', fw', optI b'.2.2.2, k2, ?_⟩
    rcases k1 with ⟨m1, m2, m3⟩ | ⟨n, a, m1, m2, m3, m4⟩
    · rw [m1]; exact Or.inr (Or.inl ⟨m2, rfl, m3⟩)
    · rw [m1]; exact Or.inr (Or.inr ⟨n, a, m2, rfl, m3, m4⟩)
theorem c_back {e0 f0 g0 : Int32} {q : Nat → Int32} {nn kp : Nat} {tr : Int64} (h0 : σ.1 x = some (xC x p nn kp tr)) (h19 : σ.1 (x + 19) = some (wbC x e0 f0 g0)) (h20 : σ.1 (x + 20) = some (iF 3125 q)) (h21 : σ.1 (x + 21) = some (lF 512 g)) (hp : σ.1 p = some (planC T zz)) (hpo : p = x + 2 ∨ x + 36 ≤ p) (he : σ.1 (x + 3) = some (evC P)) (hT : WT T) (hP : WP T P) {v : Int32} (hv : v = nI 0 ∨ v = nI 1) :
    ∃ e w l fw fi, q_call 104 [.ref x, .int v] σ = some (some (.int (if v = nI 0 then fw else fi)), q_upd (q_upd (q_upd σ (x + 21) (lF 512 w)) (x + 20) (iF 3125 l)) (x + 19) (wbC x e fw fi)) ∧ backR T P fw fi := by
  obtain ⟨e, w, l, fw, fi, k1, k2⟩ := c_search h19 h20 h21 hp hpo he hT hP
  refine ⟨e, w, l, fw, fi, ?_, k2⟩
  obtain ⟨e, -, rfl⟩ := wb_of32 e
  have q0 : (q_upd (q_upd (q_upd σ (x + 21) (lF 512 w)) (x + 20) (iF 3125 l)) (x + 19) (wbC x (nI e) fw fi)).1 x = some (xC x p nn kp tr) := (u_n _ _ (by omega)).trans ((u_n _ _ (by omega)).trans ((u_n _ _ (by omega)).trans h0))
  have q19 : (q_upd (q_upd (q_upd σ (x + 21) (lF 512 w)) (x + 20) (iF 3125 l)) (x + 19) (wbC x (nI e) fw fi)).1 (x + 19) = some (wbC x (nI e) fw fi) := u_s ..
  have key : q_run 104 11 [(0, .ref x), (1, .int v)] [] σ = some (some (.int (if v = nI 0 then fw else fi)), q_upd (q_upd (q_upd σ (x + 21) (lF 512 w)) (x + 20) (iF 3125 l)) (x + 19) (wbC x (nI e) fw fi)) := by
    rw [e_104_11, x_wayBack h0, q_obS, x_plan h0, q_obS, x_evening h0, q_obS, k1, q_cVS, q_obS]
    by_cases h : v = nI 0
    · rw [if_pos h, if_pos h, x_wayBack q0, q_obS, wb_fewest q19, q_obS]
    · rw [if_neg h, if_neg h, x_wayBack q0, q_obS, wb_first q19, q_obS]
  rw [k_104 h0, e_104_0]
  by_cases h : v = nI 0
  · rw [if_pos h, key]
  · rw [if_neg h, if_pos (hv.resolve_left h), key]
end SM
