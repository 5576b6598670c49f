/-! ===== the way back: what is seen, the queue ===== -/
/-- a word of the set seen -/
def wdS (s : Nat → Bool) (w : Nat) : Nat := bits (fun i => s (64 * w + i)) 64
def sL (s : Nat → Bool) : Nat → Int64 := fun w => lN (wdS s w)
def upB (s : Nat → Bool) (k : Nat) : Nat → Bool := fun j => if j = k then true else s j
theorem wdS_lt (s : Nat → Bool) (w : Nat) : wdS s w < 2 ^ 64 := bits_lt _ 64
theorem wdS_tb (s : Nat → Bool) (w : Nat) {i : Nat} (hi : i < 64) : (wdS s w).testBit i = s (64 * w + i) := by
  unfold wdS; rw [bits_tb, decide_eq_true hi, Bool.true_and]
theorem wdS_up (s : Nat → Bool) {w i : Nat} (hi : i < 64) : wdS s w ||| 2 ^ i = wdS (upB s (64 * w + i)) w := by
  apply Nat.eq_of_testBit_eq
  intro j
  by_cases hj : j < 64
  · rw [Nat.testBit_or, wdS_tb s w hj, wdS_tb _ w hj, Nat.testBit_two_pow]
    unfold upB
    by_cases e : i = j
    · subst e; rw [if_pos rfl]; simp
    · rw [if_neg (by omega), decide_eq_false e, Bool.or_false]
  · rw [Nat.testBit_or, tb_ge (wdS_lt s w) (by omega), tb_ge (wdS_lt (upB s (64 * w + i)) w) (by omega), Nat.testBit_two_pow, decide_eq_false (by omega)]; rfl
theorem wdS_o (s : Nat → Bool) {w w' i : Nat} (hi : i < 64) (h : w' ≠ w) : wdS (upB s (64 * w + i)) w' = wdS s w' := by
  unfold wdS
  refine bits_congr fun j hj => ?_
  unfold upB
  rw [if_neg (by omega)]
theorem l_sbit {n k : Nat} (hk : k < 64) : (lN n >>> ((nI k).toInt64 &&& 63)) &&& lN 1 = lN (n.testBit k).toNat := by
  rw [wb_c k hk]
  apply Int64.toBitVec_inj.1
  show (BitVec.ofNat 64 n).sshiftRight' ((BitVec.ofNat 64 k).smod 64) &&& BitVec.ofNat 64 1 = BitVec.ofNat 64 (n.testBit k).toNat
  rw [wb_sm k hk]
  show (BitVec.ofNat 64 n).sshiftRight (BitVec.ofNat 64 k).toNat &&& BitVec.ofNat 64 1 = _
  rw [BitVec.toNat_ofNat, Nat.mod_eq_of_lt (show k < 2 ^ 64 by omega)]
  apply BitVec.eq_of_getLsbD_eq
  intro i hi
  rw [BitVec.getLsbD_and, BitVec.getLsbD_sshiftRight, BitVec.getLsbD_ofNat, BitVec.getLsbD_ofNat, BitVec.getLsbD_ofNat]
  by_cases h0 : i = 0
  · subst h0
    simp [hk]
    cases n.testBit k <;> simp
  · have e1 : (1 : Nat).testBit i = false := by rw [show (1 : Nat) = 2 ^ 0 from rfl, Nat.testBit_two_pow]; simpa using fun q => h0 q.symm
    have e2 : (n.testBit k).toNat.testBit i = false := by
      cases n.testBit k
      · simp
      · show (1 : Nat).testBit i = false; exact e1
    rw [e1, e2]; simp
/-- the search's memory: queue, set, end, fewest, first -/
def qL2 (l : Nat → Nat × (Nat → Nat)) : Nat → Int32 := fun j => nI ((l j).1 * 2 ^ 15 + pkS (l j).2)
theorem L_rd {σ : qH} {a n : Nat} {f : Nat → Int64} (h : σ.1 a = some (lF n f)) {j : Nat} (hj : j < n) (hn : n < 2 ^ 31) : q_aldL σ (.ref a) (nI j) = some (f j) := by
  unfold q_aldL q_arr
  simp only [h, lF, if_true]
  rw [if_neg (nI_in hj hn), nI_clamp (by omega)]
def upJ (f : Nat → Int64) (i : Nat) (v : Int64) : Nat → Int64 := fun j => if j = i then v else f j
theorem L_wr {σ : qH} {a n : Nat} {f : Nat → Int64} (h : σ.1 a = some (lF n f)) {j : Nat} (hj : j < n) (hn : n < 2 ^ 31) (v : Int64) : q_astL σ (.ref a) (nI j) v = some (q_upd σ a (lF n (upJ f j v))) := by
  unfold q_astL q_arr
  simp only [h, lF, if_true]
  rw [if_neg (nI_in hj hn), nI_clamp (by omega)]
  rfl
theorem L_len {σ : qH} {a n : Nat} {f : Nat → Int64} (h : σ.1 a = some (lF n f)) : q_alen σ (.ref a) 2 = some (nI n) := by
  unfold q_alen q_arr
  simp only [h, lF, if_true]
  rfl
theorem I_len {σ : qH} {a n : Nat} {f : Nat → Int32} (h : σ.1 a = some (iF n f)) : q_alen σ (.ref a) 1 = some (nI n) := by
  unfold q_alen q_arr
  simp only [h, iF, if_true]
  rfl
theorem sL_up (s : Nat → Bool) (k : Nat) : upJ (sL s) (k / 64) (lN (wdS s (k / 64) ||| 2 ^ (k % 64))) = sL (upB s k) := by
  have hk : k = 64 * (k / 64) + k % 64 := (Nat.div_add_mod k 64).symm
  have hm := Nat.mod_lt k (show 0 < 64 by decide)
  funext w
  unfold upJ sL
  by_cases e : w = k / 64
  · rw [if_pos e, wdS_up s hm, ← hk, e]
  · rw [if_neg e]
    have := wdS_o s (w := k / 64) (w' := w) hm e
    rw [← hk] at this
    rw [this]
