/-! ===== the way back: what is seen, the queue ===== -/
/-- a word of the set seen -/
def wdS (s : Nat → Bool) (w : Nat) : Nat := bits (fun i => s (64 * w + i)) 64
def sL (s : Nat → Bool) : Nat → Int64 := fun w => lN (wdS s w)
def upB (s : Nat → Bool) (k : Nat) : Nat → Bool := fun j => if j = k then true else s j
theorem wdS_lt (s : Nat → Bool) (w : Nat) : wdS s w < 2 ^ 64 := bits_lt _ 64
theorem wdS_tb (s : Nat → Bool) (w : Nat) {i : Nat} (hi : i < 64) : (wdS s w).testBit i = s (64 * w + i) := by
  unfold wdS; rw [bits_tb, decide_eq_true hi, Bool.true_and]
theorem wdS_up (s : Nat → Bool) {w i : Nat} (hi : i < 64) : wdS s w ||| 2 ^ i = wdS (upB s (64 * w + i)) w := by
  apply Nat.eq_of_testBit_eq
  intro j
  by_cases hj : j < 64
  · rw [Nat.testBit_or, wdS_tb s w hj, wdS_tb _ w hj, Nat.testBit_two_pow]
    unfold upB
    by_cases e : i = j
    · subst e; rw [if_pos rfl]; simp
    · rw [if_neg (by omega), decide_eq_false e, Bool.or_false]
  · rw [Nat.testBit_or, tb_ge (wdS_lt s w) (by omega), tb_ge (wdS_lt (upB s (64 * w + i)) w) (by omega), Nat.testBit_two_pow, decide_eq_false (by omega)]; rfl
theorem wdS_o (s : Nat → Bool) {w w' i : Nat} (hi : i < 64) (h : w' ≠ w) : wdS (upB s (64 * w + i)) w' = wdS s w' := by
  unfold wdS
  refine bits_congr fun j hj => ?_
  unfold upB
  rw [if_neg (by omega)]
theorem l_sbit {n k : Nat} (hk : k < 64) : (lN n >>> ((nI k).toInt64 &&& 63)) &&& lN 1 = lN (n.testBit k).toNat := by
  rw [wb_c k hk]
  apply Int64.toBitVec_inj.1
  show (BitVec.ofNat 64 n).sshiftRight' ((BitVec.ofNat 64 k).smod 64) &&& BitVec.ofNat 64 1 = BitVec.ofNat 64 (n.testBit k).toNat
  rw [wb_sm k hk]
  show (BitVec.ofNat 64 n).sshiftRight (BitVec.ofNat 64 k).toNat &&& BitVec.ofNat 64 1 = _
  rw [BitVec.toNat_ofNat, Nat.mod_eq_of_lt (show k < 2 ^ 64 by omega)]
  apply BitVec.eq_of_getLsbD_eq
  intro i hi
  rw [BitVec.getLsbD_and, BitVec.getLsbD_sshiftRight, BitVec.getLsbD_ofNat, BitVec.getLsbD_ofNat, BitVec.getLsbD_ofNat]
  by_cases h0 : i = 0
  · subst h0
    simp [hk]
    cases n.testBit k <;> simp
  · have e1 : (1 : Nat).testBit i = false := by rw [show (1 : Nat) = 2 ^ 0 from rfl, Nat.testBit_two_pow]; simpa using fun q => h0 q.symm
    have e2 : (n.testBit k).toNat.testBit i = false := by
      cases n.testBit k
      · simp
      · show (1 : Nat).testBit i = false; exact e1
    rw [e1, e2]; simp
/-- the search's memory: queue, set, end, fewest, first -/
def qL2 (l : Nat → Nat × (Nat → Nat)) : Nat → Int32 := fun j => nI ((l j).1 * 2 ^ 15 + pkS (l j).2)
theorem L_rd {σ : qH} {a n : Nat} {f : Nat → Int64} (h : σ.1 a = some (lF n f)) {j : Nat} (hj : j < n) (hn : n < 2 ^ 31) : q_aldL σ (.ref a) (nI j) = some (f j) := by
  unfold q_aldL q_arr
  simp only [h, lF, if_true]
  rw [if_neg (nI_in hj hn), nI_clamp (by omega)]
def upJ (f : Nat → Int64) (i : Nat) (v : Int64) : Nat → Int64 := fun j => if j = i then v else f j
theorem L_wr {σ : qH} {a n : Nat} {f : Nat → Int64} (h : σ.1 a = some (lF n f)) {j : Nat} (hj : j < n) (hn : n < 2 ^ 31) (v : Int64) : q_astL σ (.ref a) (nI j) v = some (q_upd σ a (lF n (upJ f j v))) := by
  unfold q_astL q_arr
  simp only [h, lF, if_true]
  rw [if_neg (nI_in hj hn), nI_clamp (by omega)]
  rfl
theorem L_len {σ : qH} {a n : Nat} {f : Nat → Int64} (h : σ.1 a = some (lF n f)) : q_alen σ (.ref a) 2 = some (nI n) := by
  unfold q_alen q_arr
  simp only [h, lF, if_true]
  rfl
theorem I_len {σ : qH} {a n : Nat} {f : Nat → Int32} (h : σ.1 a = some (iF n f)) : q_alen σ (.ref a) 1 = some (nI n) := by
  unfold q_alen q_arr
  simp only [h, iF, if_true]
  rfl
theorem sL_up (s : Nat → Bool) (k : Nat) : upJ (sL s) (k / 64) (lN (wdS s (k / 64) ||| 2 ^ (k % 64))) = sL (upB s k) := by
  have hk : k = 64 * (k / 64) + k % 64 := (Nat.div_add_mod k 64).symm
  have hm := Nat.mod_lt k (show 0 < 64 by decide)
  funext w
  unfold upJ sL
  by_cases e : w = k / 64
  · rw [if_pos e, wdS_up s hm, ← hk, e]
  · rw [if_neg e]
    have := wdS_o s (w := k / 64) (w' := w) hm e
    rw [← hk] at this
    rw [this]
/-- a row of words that holds a set, and what lies behind its end -/
def sG (n : Nat) (g : Nat → Int64) (s : Nat → Bool) : Nat → Int64 := fun w => if w < n then lN (wdS s w) else g w
theorem sG_i {n : Nat} {g : Nat → Int64} {s : Nat → Bool} {w : Nat} (h : w < n) : sG n g s w = lN (wdS s w) := if_pos h
theorem sG_up {n : Nat} (g : Nat → Int64) (s : Nat → Bool) {k : Nat} (h : k / 64 < n) : upJ (sG n g s) (k / 64) (lN (wdS s (k / 64) ||| 2 ^ (k % 64))) = sG n g (upB s k) := by
  have e := sL_up s k
  funext w
  have e1 := congrFun e w
  unfold upJ sL at e1
  unfold upJ sG
  by_cases h1 : w = k / 64
  · rw [if_pos h1] at e1 ⊢
    rw [if_pos (by omega), e1]
  · rw [if_neg h1] at e1 ⊢
    rw [e1]
theorem n_and63 (a : Nat) : nI a &&& nI 63 = nI (a % 64) := by
  rw [nx_and]
  congr 1
  exact Nat.and_two_pow_sub_one_eq_mod a 6
theorem lg_bit (b : Bool) : (lg_cmp (lN b.toNat) (lN 1) = nI 0) ↔ b = true := by
  rw [show (nI 0 : Int32) = 0 from rfl, lg_cmp_eq]
  cases b <;> decide
section RC
variable {σ : qH} {x e : Nat} {fw fi : Int32} {q : Nat → Int32} {s : Nat → Bool} {g : Nat → Int64}
theorem wb_queue (h : σ.1 (x + 19) = some (wbC x (nI e) fw fi)) : q_getR σ (.ref (x + 19)) 5 0 = some (x + 20) := g_R h rfl
theorem wb_seen (h : σ.1 (x + 19) = some (wbC x (nI e) fw fi)) : q_getR σ (.ref (x + 19)) 5 1 = some (x + 21) := g_R h rfl
theorem wb_end (h : σ.1 (x + 19) = some (wbC x (nI e) fw fi)) : q_getI σ (.ref (x + 19)) 5 2 = some (nI e) := g_I h rfl
theorem wb_fewest (h : σ.1 (x + 19) = some (wbC x (nI e) fw fi)) : q_getI σ (.ref (x + 19)) 5 3 = some fw := g_I h rfl
theorem wb_first (h : σ.1 (x + 19) = some (wbC x (nI e) fw fi)) : q_getI σ (.ref (x + 19)) 5 4 = some fi := g_I h rfl
theorem wbp_end (h : σ.1 (x + 19) = some (wbC x (nI e) fw fi)) (y : Nat) : q_put σ (.ref (x + 19)) 5 2 0 (.int (nI y)) = some (q_upd σ (x + 19) (wbC x (nI y) fw fi)) := p_F h (show 2 < 5 by decide) rfl
theorem wbp_fewest (h : σ.1 (x + 19) = some (wbC x (nI e) fw fi)) (y : Int32) : q_put σ (.ref (x + 19)) 5 3 0 (.int y) = some (q_upd σ (x + 19) (wbC x (nI e) y fi)) := p_F h (show 3 < 5 by decide) rfl
theorem wbp_first (h : σ.1 (x + 19) = some (wbC x (nI e) fw fi)) (y : Int32) : q_put σ (.ref (x + 19)) 5 4 0 (.int y) = some (q_upd σ (x + 19) (wbC x (nI e) fw y)) := p_F h (show 4 < 5 by decide) rfl
/-- the heap with the search's three cells -/
def bkH (σ : qH) (x : Nat) (g : Nat → Int64) (q : Nat → Int32) (s : Nat → Bool) (e : Nat) (fw fi : Int32) : qH := q_upd (q_upd (q_upd σ (x + 21) (lF 512 (sG 512 g s))) (x + 20) (iF 3125 q)) (x + 19) (wbC x (nI e) fw fi)
theorem bk_w {σ : qH} : (bkH σ x g q s e fw fi).1 (x + 19) = some (wbC x (nI e) fw fi) := u_s ..
theorem bk_q {σ : qH} : (bkH σ x g q s e fw fi).1 (x + 20) = some (iF 3125 q) := (u_n _ _ (by omega)).trans (u_s ..)
theorem bk_s {σ : qH} : (bkH σ x g q s e fw fi).1 (x + 21) = some (lF 512 (sG 512 g s)) := (u_n _ _ (by omega)).trans ((u_n _ _ (by omega)).trans (u_s ..))
theorem bk_o {σ : qH} {a : Nat} (h : a < x + 19 ∨ x + 21 < a) : (bkH σ x g q s e fw fi).1 a = σ.1 a := (u_n _ _ (by omega)).trans ((u_n _ _ (by omega)).trans (u_n _ _ (by omega)))
theorem bk_us (s2 : Nat → Bool) : q_upd (bkH σ x g q s e fw fi) (x + 21) (lF 512 (sG 512 g s2)) = bkH σ x g q s2 e fw fi := by
  unfold bkH
  rw [u_c _ _ _ (show x + 19 ≠ x + 21 by omega), u_c _ _ _ (show x + 20 ≠ x + 21 by omega), u_u]
theorem bk_uq (q2 : Nat → Int32) : q_upd (bkH σ x g q s e fw fi) (x + 20) (iF 3125 q2) = bkH σ x g q2 s e fw fi := by
  unfold bkH
  rw [u_c _ _ _ (show x + 19 ≠ x + 20 by omega), u_u]
theorem bk_uw (e2 : Nat) (fw2 fi2 : Int32) : q_upd (bkH σ x g q s e fw fi) (x + 19) (wbC x (nI e2) fw2 fi2) = bkH σ x g q s e2 fw2 fi2 := by
  unfold bkH
  rw [u_u]
theorem c_reach {W d : Nat} (hW : W < 2 ^ 15) (hd : d < 64) (he : e < 3125) :
    q_call 100 [.ref (x + 19), .int (nI W), .int (nI d)] (bkH σ x g q s e fw fi) = if s W = true then some (some (.int (nI 0)), bkH σ x g q s e fw fi) else some (some (.int (nI 1)), bkH σ x g (upI q e (nI (d * 2 ^ 15 + W))) (upB s W) (e + 1) fw fi) := by
  have hm := Nat.mod_lt W (show 0 < 64 by decide)
  have hk : W = 64 * (W / 64) + W % 64 := (Nat.div_add_mod W 64).symm
  have hq : W / 64 < 512 := by omega
  rw [k_100 bk_w, e_100_0, n_shr (by decide) (by omega), show (2 : Nat) ^ 6 = 64 from rfl, if_neg (show ¬ nI (W / 64) < nI 0 from nI_pos (by omega)), wb_seen bk_w, q_obS, L_len bk_s, q_obS, if_neg (nI_ge hq (by omega)), wb_end bk_w, q_obS, if_neg (show ¬ nI e < nI 0 from nI_pos (by omega)), q_obS, wb_queue bk_w, q_obS, I_len bk_q, q_obS, if_pos (nI_lt he (by decide)), q_obS, L_rd bk_s hq (by decide), q_obS, n_and63]
  rw [sG_i hq]
  show (if lg_cmp (lN (wdS s (W / 64)) >>> ((nI (W % 64)).toInt64 &&& 63) &&& lN 1) (lN 1) = nI 0 then _ else _) = _
  rw [l_sbit hm, wdS_tb s _ hm, ← hk]
  cases hs : s W with
  | true => rw [if_pos ((lg_bit true).mpr rfl), if_pos rfl]
  | false =>
    rw [if_neg (fun g => absurd ((lg_bit false).mp g) (by decide)), if_neg (by decide), q_obS, L_rd bk_s hq (by decide), q_obS]
    show q_ob (q_astL _ _ _ (sG 512 g s (W / 64) ||| (lN 1 <<< ((nI (W % 64)).toInt64 &&& 63)))) _ _ = _
    rw [sG_i hq, wb_shl 1 hm, Nat.one_mul, l_or, L_wr bk_s hq (by decide), q_obS, sG_up g s hq, bk_us, wb_queue bk_w, q_obS, wb_end bk_w, q_obS, n_shl (by decide) (by omega), n_or, price_or hW, f_wr bk_q he (by decide), q_obS, bk_uq, wb_end bk_w, q_obS, nI_add, wbp_end bk_w, q_obS, bk_uw]
end RC
