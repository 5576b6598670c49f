/-! ===== the way back: the class's search ===== -/
def bH (σ : qH) (x : Nat) (g : Nat → Int64) (q : Nat → Int32) (b : bK) (fw : Int32) : qH := bkH σ x g q b.2.1 b.2.2.1 fw (optI b.2.2.2)
def bRel (q : Nat → Int32) (b : bK) : Prop := ∀ j, j < b.2.2.1 → q j = nI ((b.1 j).1 * 2 ^ 15 + pkS (b.1 j).2)
theorem bRel.put {q : Nat → Int32} {b : bK} (h : bRel q b) (a : Nat) (Q : Nat → Nat) (s : Nat → Bool) (fi : Option Nat) : bRel (upI q b.2.2.1 (nI (a * 2 ^ 15 + pkS Q))) (upl b.1 b.2.2.1 (a, Q), s, b.2.2.1 + 1, fi) := by
  intro j hj
  have hj' : j < b.2.2.1 + 1 := hj
  show upI q b.2.2.1 _ j = nI ((upl b.1 b.2.2.1 (a, Q) j).1 * 2 ^ 15 + pkS (upl b.1 b.2.2.1 (a, Q) j).2)
  by_cases e : j = b.2.2.1
  · rw [e, upl_s]; exact if_pos rfl
  · rw [upl_n _ _ e, ← h j (by omega)]; exact if_neg e
theorem n_m9o {o : Option Nat} (h : ∀ a, o = some a → a < 64) : (optI o = (-9 : Int32)) ↔ o = none := by
  cases o with
  | none => exact ⟨fun _ => rfl, fun _ => rfl⟩
  | some a => exact ⟨fun q => absurd q (n_m9 (by have := h a rfl; omega)), fun q => by cases q⟩
section SR
variable {σ : qH} {x e : Nat} {fw fi : Int32} {q : Nat → Int32} {s : Nat → Bool} {g : Nat → Int64}
theorem c_reach2 {W d : Nat} (hW : W < 2 ^ 15) (hd : d < 64) (he : e ≤ 3125) (hs : s W = false → e < 3125) :
    q_call 100 [.ref (x + 19), .int (nI W), .int (nI d)] (bkH σ x g q s e fw fi) = if s W = true then some (some (.int (nI 0)), bkH σ x g q s e fw fi) else some (some (.int (nI 1)), bkH σ x g (upI q e (nI (d * 2 ^ 15 + W))) (upB s W) (e + 1) fw fi) := by
  by_cases h : e < 3125
  · exact c_reach hW hd h
  · have h2 : s W = true := by
      cases hx : s W with
      | true => rfl
      | false => exact absurd (hs hx) h
    have hq : W / 64 < 512 := by omega
    rw [if_pos h2, k_100 bk_w, e_100_0, n_shr (by decide) (by omega), show (2 : Nat) ^ 6 = 64 from rfl, if_neg (show ¬ nI (W / 64) < nI 0 from nI_pos (by omega)), wb_seen bk_w, q_obS, L_len bk_s, q_obS, if_neg (nI_ge hq (by omega)), wb_end bk_w, q_obS, if_neg (show ¬ nI e < nI 0 from nI_pos (by omega)), q_obS, wb_queue bk_w, q_obS, I_len bk_q, q_obS, if_neg (show ¬ nI e < nI 3125 from fun w => h ((nI_ltI (by omega) (by decide)).mp w)), e_100_37]
end SR
theorem ResF.lt {T P : Nat → Nat} (hT : WT T) {n a : Nat} (h : ResF T P n a) : a < 50 := by
  obtain ⟨H, h1, -⟩ := h.1
  exact lr_lab hT h1
section SP
variable {σ : qH} {x p : Nat} {fw : Int32} {g : Nat → Int64} {T P : Nat → Nat} {zz : Int32}
theorem c_arrive {b : bK} {q : Nat → Int32} {a : Nat} {Q : Nat → Nat} (hT : WT T) (hw : wfB T P b) (hQ : QB T P Q) (ha : a < 64) (hr : bRel q b) (hf : ∀ a', b.2.2.2 = some a' → a' < 64) :
    ∃ q', bRel q' (bA T b a Q) ∧ q_call 101 [.ref (x + 19), .int (nI (pkS Q)), .int (nI a), .int (nI (pkS (fun i => T (20 + i))))] (bH σ x g q b fw) = some (none, bH σ x g q' (bA T b a Q) fw) := by
  have l1 := pkS_lt (hQ.1.p8 hT)
  have l2 := pkS_lt hT.l.2.2.2.2.2
  unfold bH
  rw [k_101 bk_w, e_101_0, c_reach2 (by omega) ha (hw.le hT) (fun h => hw.lt hT hQ h)]
  cases hs : b.2.1 (pkS Q) with
  | true =>
    rw [if_pos rfl, q_cIS, q_obS, bA_t T hs]
    exact ⟨q, hr, rfl⟩
  | false =>
    rw [if_neg (by decide), q_cIS, q_obS, bA_f T hs]
    refine ⟨_, hr.put a Q _ _, ?_⟩
    dsimp only
    rw [if_neg (show ¬ nI 1 = nI 0 by decide)]
    by_cases hh : hmB T Q = true
    · have e : pkS Q = pkS (fun i => T (20 + i)) := of_decide_eq_true hh
      rw [if_pos (by rw [e]), wb_first bk_w, q_obS]
      by_cases hn : b.2.2.2 = none
      · rw [if_pos ((n_m9o hf).mpr hn), wbp_first bk_w, q_obS, bk_uw, if_pos ⟨hh, hn⟩]
        rfl
      · rw [if_neg (fun w => hn ((n_m9o hf).mp w)), if_neg (fun w => hn w.2)]
    · rw [if_neg (fun w => hh (decide_eq_true ((nI_eq (by omega) (by omega)).mp w))), if_neg (fun w => hh w.1)]
theorem bI.skips {n h le : Nat} {l0 : Nat → Nat × (Nat → Nat)} {c f : Nat} {b : bK} : ∀ d r, bI T P n h le l0 c f r b → (∀ r', r ≤ r' → r' < r + d → mvB T (l0 c).2 f r' = false) → bI T P n h le l0 c f (r + d) b
  | 0, r, hI, _ => hI
  | d + 1, r, hI, hm => by
    have := bI.skips d (r + 1) (hI.skip (hm r (Nat.le_refl _) (by omega))) (fun r' h1 h2 => hm r' (by omega) (by omega))
    rw [show r + (d + 1) = r + 1 + d by omega]; exact this
theorem bI.lab {n h le : Nat} {l0 : Nat → Nat × (Nat → Nat)} {c f r : Nat} {b : bK} (hT : WT T) (hI : bI T P n h le l0 c f r b) : ∀ a', b.2.2.2 = some a' → a' < 64 := fun a' ha => by have := (hI.2.2.2.1 a' ha).lt hT; omega
theorem c_sp80 {n h le c f : Nat} {l0 : Nat → Nat × (Nat → Nat)} (hp : σ.1 p = some (planC T zz)) (hpo : p = x + 2 ∨ x + 36 ≤ p) (hT : WT T) (hB : bB T P n h le l0) (hc : h ≤ c) (hc2 : c < le) (hl : (l0 c).1 ≤ 63) (hf : f < T 1) :
    ∀ d r (b : bK) q, r + d = T 0 → bI T P n h le l0 c f r b → bRel q b → ∃ b' q', bI T P n h le l0 c f (T 0) b' ∧ bRel q' b' ∧ q_run 102 80 [(0, .ref (x + 19)), (1, .ref p), (4, .int (nI (pkS (l0 c).2))), (5, .int (nI (l0 c).1)), (6, .int (nI (bits (opn T (l0 c).2) (T 0)))), (7, .int (nI f)), (8, .int (nI (T (15 + (l0 c).2 f) &&& bits (opn T (l0 c).2) (T 0)))), (9, .int (nI r))] [] (bH σ x g q b fw) = q_run 102 154 [(0, .ref (x + 19)), (1, .ref p), (4, .int (nI (pkS (l0 c).2))), (5, .int (nI (l0 c).1)), (6, .int (nI (bits (opn T (l0 c).2) (T 0)))), (7, .int (nI f))] [] (bH σ x g q' b' fw) := by
  have t0 := hT.1
  have t1 := hT.2.1
  have hQ : QB T P (l0 c).2 := (hB.2.1 c hc2).1
  have hq5 := hQ.p5 hT
  have hpb : ∀ {q b}, (bH σ x g q b fw).1 p = some (planC T zz) := fun {q b} => (bk_o (by omega)).trans hp
  have hD : T (15 + (l0 c).2 f) &&& bits (opn T (l0 c).2) (T 0) < 2 ^ T 0 := and_lt (hT.2.2.2.1 _ (hq5 f (by omega))).2.2.1
  have hw := pow_le5 t0
  have hbit : ∀ r, r < T 0 → (T (15 + (l0 c).2 f) &&& bits (opn T (l0 c).2) (T 0)).testBit r = mvB T (l0 c).2 f r := fun r hr => by
    rw [Nat.testBit_and, bits_tb, decide_eq_true hr, Bool.true_and]; rfl
  intro d
  induction d with
  | zero =>
    intro r b q hr hI hq
    have e : r = T 0 := by omega
    subst e
    refine ⟨b, q, hI, hq, ?_⟩
    rw [e_102_80, pl_rooms hpb, q_obS, if_pos (nI_le (Nat.le_refl _) (by omega))]
  | succ d ih =>
    intro r b q hr hI hq
    have hr0 : r < T 0 := by omega
    rw [e_102_80, pl_rooms hpb, q_obS, if_neg (nI_ge hr0 (by omega)), n_shr (by omega) (by omega)]
    by_cases hz : (T (15 + (l0 c).2 f) &&& bits (opn T (l0 c).2) (T 0)) / 2 ^ r = 0
    · rw [if_pos (by rw [hz])]
      refine ⟨b, q, ?_, hq, rfl⟩
      have hlt : T (15 + (l0 c).2 f) &&& bits (opn T (l0 c).2) (T 0) < 2 ^ r := by
        rcases Nat.div_eq_zero_iff.mp hz with w | w
        · exact absurd w (Nat.ne_of_gt (Nat.two_pow_pos r))
        · exact w
      have := bI.skips (d + 1) r hI (fun r' h1 h2 => by rw [← hbit r' (by omega)]; exact tb_ge hlt h1)
      rw [hr] at this; exact this
    · have hdl : (T (15 + (l0 c).2 f) &&& bits (opn T (l0 c).2) (T 0)) / 2 ^ r ≤ T (15 + (l0 c).2 f) &&& bits (opn T (l0 c).2) (T 0) := Nat.div_le_self _ _
      rw [if_neg (fun w => hz ((nI_eq (by omega) (by decide)).mp w)), c_has (by omega) (by omega), q_cIS, q_obS, hbit r hr0]
      dsimp only
      cases hm : mvB T (l0 c).2 f r with
      | false =>
        rw [if_pos (show nI (false.toNat) = nI 0 from rfl), e_102_148, nI_add]
        exact ih (r + 1) b q (by omega) (hI.skip hm) hq
      | true =>
        have hmv : mv T (l0 c).2 f r := ⟨hf, hr0, hm⟩
        have key : ∃ q', bRel q' (bA T b (nl (l0 c).1 f r) (up (l0 c).2 f r)) ∧ q_run 102 127 [(0, .ref (x + 19)), (1, .ref p), (4, .int (nI (pkS (l0 c).2))), (5, .int (nI (l0 c).1)), (6, .int (nI (bits (opn T (l0 c).2) (T 0)))), (7, .int (nI f)), (8, .int (nI (T (15 + (l0 c).2 f) &&& bits (opn T (l0 c).2) (T 0)))), (9, .int (nI r))] [.int (nI (nl (l0 c).1 f r))] (bH σ x g q b fw) = q_run 102 80 [(0, .ref (x + 19)), (1, .ref p), (4, .int (nI (pkS (l0 c).2))), (5, .int (nI (l0 c).1)), (6, .int (nI (bits (opn T (l0 c).2) (T 0)))), (7, .int (nI f)), (8, .int (nI (T (15 + (l0 c).2 f) &&& bits (opn T (l0 c).2) (T 0)))), (9, .int (nI (r + 1)))] [] (bH σ x g q' (bA T b (nl (l0 c).1 f r) (up (l0 c).2 f r)) fw) := by
          obtain ⟨q', k1, k2⟩ := c_arrive (σ := σ) (x := x) (fw := fw) (g := g) hT hI.1 (hQ.mv hT hf hr0) (a := nl (l0 c).1 f r) (by have := nl_le hl (f := f) (r := r) (by omega); omega) hq (hI.lab hT)
          refine ⟨q', k1, ?_⟩
          rw [e_102_127, c_withSpot (hQ.1.p8 hT) (by omega) (by omega), q_cIS, q_obS, pl_homes hpb, q_obS]
          dsimp only
          rw [k2, q_cVS, q_obS, e_102_148, nI_add]
        obtain ⟨q', k1, k2⟩ := key
        obtain ⟨b2, q2, m1, m2, m3⟩ := ih (r + 1) _ q' (by omega) (hI.step hT hB hc hc2 hmv) k1
        refine ⟨b2, q2, m1, m2, ?_⟩
        rw [if_neg (show ¬ nI (true.toNat) = nI 0 by decide)]
        by_cases h63 : (l0 c).1 = 63
        · rw [if_pos (by rw [h63]), pk_mul, nI_add, show 10 * f + r = nl (l0 c).1 f r by unfold nl; rw [if_pos h63]]
          exact k2.trans m3
        · have e : nl (l0 c).1 f r = (l0 c).1 := by unfold nl; rw [if_neg h63]
          rw [e] at k2
          rw [if_neg (fun w => h63 ((nI_eq (by omega) (by decide)).mp w))]
          rw [e] at m3
          exact k2.trans m3
theorem c_spread {n h le c : Nat} {l0 : Nat → Nat × (Nat → Nat)} (hp : σ.1 p = some (planC T zz)) (hpo : p = x + 2 ∨ x + 36 ≤ p) (hT : WT T) (hB : bB T P n h le l0) (hc : h ≤ c) (hc2 : c < le) {b : bK} {q : Nat → Int32} (hI : bI T P n h le l0 c 0 0 b) (hq : bRel q b) :
    ∃ b' q', bI T P n h le l0 (c + 1) 0 0 b' ∧ bRel q' b' ∧ q_call 102 [.ref (x + 19), .ref p, .int (nI (P 20)), .int (nI c)] (bH σ x g q b fw) = some (none, bH σ x g q' b' fw) := by
  have t0 := hT.1
  have t1 := hT.2.1
  have hQ : QB T P (l0 c).2 := (hB.2.1 c hc2).1
  have hq5 := hQ.p5 hT
  have hpb : ∀ {q b}, (bH σ x g q b fw).1 p = some (planC T zz) := fun {q b} => (bk_o (by omega)).trans hp
  have he := hI.1.le hT
  have hle := hI.2.1
  have hcl : b.1 c = l0 c := hI.2.2.1 c hc2
  have hl : (l0 c).1 ≤ 63 := by rw [← hcl]; exact (hI.1.1 c (by omega)).2.1
  have hW := pkS_lt (hQ.1.p8 hT)
  have hqc : q c = nI ((l0 c).1 * 2 ^ 15 + pkS (l0 c).2) := by rw [← hcl]; exact hq c (by omega)
  have hlam : (l0 c).1 * 2 ^ 15 + pkS (l0 c).2 < 2 ^ 31 := by omega
  have e1 : ((l0 c).1 * 2 ^ 15 + pkS (l0 c).2) % 2 ^ 15 = pkS (l0 c).2 := by omega
  have e2 : ((l0 c).1 * 2 ^ 15 + pkS (l0 c).2) / 2 ^ 15 = (l0 c).1 := by omega
  have out : ∀ d f (b : bK) q, f + d = T 1 → bI T P n h le l0 c f 0 b → bRel q b → ∃ b' q', bI T P n h le l0 (c + 1) 0 0 b' ∧ bRel q' b' ∧ q_run 102 49 [(0, .ref (x + 19)), (1, .ref p), (4, .int (nI (pkS (l0 c).2))), (5, .int (nI (l0 c).1)), (6, .int (nI (bits (opn T (l0 c).2) (T 0)))), (7, .int (nI f))] [] (bH σ x g q b fw) = some (none, bH σ x g q' b' fw) := by
    intro d
    induction d with
    | zero =>
      intro f b q hf hI hq
      refine ⟨b, q, hI.next fun i g' q' h1 h2 h3 => ?_, hq, ?_⟩
      · have := h3.1
        unfold pre; omega
      · rw [e_102_49, pl_flocks hpb, q_obS, if_pos (nI_le (by omega) (by omega))]
    | succ d ih =>
      intro f b q hf hI hq
      have hf0 : f < T 1 := by omega
      obtain ⟨b1, q1, m1, m2, m3⟩ := c_sp80 (σ := σ) (x := x) (p := p) (fw := fw) (g := g) hp hpo hT hB hc hc2 hl hf0 (T 0) 0 b q (by omega) hI hq
      obtain ⟨b2, q2, n1, n2, n3⟩ := ih (f + 1) b1 q1 (by omega) (m1.next fun i g' q' h1 h2 h3 => by
        have := h3.2.1
        unfold pre; omega) m2
      refine ⟨b2, q2, n1, n2, ?_⟩
      rw [e_102_49, pl_flocks hpb, q_obS, if_neg (nI_ge hf0 (by omega)), pl_doors hpb, q_obS, c_spot (hQ.1.p8 hT) (by omega), q_cIS, q_obS]
      dsimp only
      rw [c_lane hT.l.2.2.1 (hq5 f (by omega)), q_cIS, q_obS]
      dsimp only
      rw [nx_and, m3, e_102_154, nI_add]
      exact n3
  obtain ⟨b', q', m1, m2, m3⟩ := out (T 1) 0 b q (by omega) hI hq
  refine ⟨b', q', m1, m2, ?_⟩
  have hop := c_openRooms (σ := bH σ x g q b fw) hpb hT hQ.1
  rw [hQ.2 20 (by decide)] at hop
  rw [k_102 (show (bH σ x g q b fw).1 (x + 19) = some (wbC x (nI b.2.2.1) fw (optI b.2.2.2)) from bk_w), e_102_0, if_neg (show ¬ nI c < nI 0 from nI_pos (by omega)), wb_queue (show (bH σ x g q b fw).1 (x + 19) = some (wbC x (nI b.2.2.1) fw (optI b.2.2.2)) from bk_w), q_obS, I_len (show (bH σ x g q b fw).1 (x + 20) = some (iF 3125 q) from bk_q), q_obS, if_pos (nI_lt (by omega) (by decide)), q_obS, f_rd (show (bH σ x g q b fw).1 (x + 20) = some (iF 3125 q) from bk_q) (by omega) (by decide), q_obS, q_obS, f_rd (show (bH σ x g q b fw).1 (x + 20) = some (iF 3125 q) from bk_q) (by omega) (by decide), q_obS, hqc, nx_and, show (32767 : Nat) = 2 ^ 15 - 1 from rfl, Nat.and_two_pow_sub_one_eq_mod, e1, n_shr (by decide) hlam, e2, hop, q_cIS, q_obS]
  exact m3
end SP
