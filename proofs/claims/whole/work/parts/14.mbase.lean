/-! ===== the reference's object ===== -/
def iA (n : Nat) (P : Nat → Nat) : qE := .inr (1, (n, .inl (fun j => nI (P j))))
def mC (m : Nat) (tr : Int64) (z : Nat → Int32) : qE := .inl (7, [.long tr, .ref (m + 1), .int (z 0), .ref (m + 2), .ref (m + 3), .ref (m + 4), .ref (m + 5), .int (z 1), .ref (m + 6), .ref (m + 7), .ref (m + 8), .int (z 2), .int (z 3), .int (z 4), .int (z 5), .int (z 6), .ref (m + 9), .ref (m + 10), .ref (m + 11)])
def upI (f : Nat → Int32) (i : Nat) (v : Int32) : Nat → Int32 := fun j => if j = i then v else f j
theorem u_s (σ : qH) (a : Nat) (e : qE) : (q_upd σ a e).1 a = some e := if_pos rfl
theorem u_n (σ : qH) {a b : Nat} (e : qE) (h : b ≠ a) : (q_upd σ a e).1 b = σ.1 b := if_neg h
theorem u_2 (σ : qH) (a : Nat) (e : qE) : (q_upd σ a e).2 = σ.2 := rfl
theorem u_u (σ : qH) (a : Nat) (e e' : qE) : q_upd (q_upd σ a e) a e' = q_upd σ a e' := by
  unfold q_upd
  congr 1
  funext b
  by_cases h : b = a <;> simp [h]
theorem u_c (σ : qH) {a b : Nat} (e e' : qE) (h : a ≠ b) : q_upd (q_upd σ a e) b e' = q_upd (q_upd σ b e') a e := by
  unfold q_upd
  congr 1
  funext x
  by_cases h1 : x = a <;> by_cases h2 : x = b <;> simp [h1, h2]
  · exact absurd (h1.symm.trans h2) h
  · exact fun q => absurd q h
  · exact fun q => absurd q.symm h
theorem u_self {σ : qH} {a : Nat} {e : qE} (h : σ.1 a = some e) : q_upd σ a e = σ := by
  obtain ⟨f, y⟩ := σ
  unfold q_upd
  congr 1
  funext x
  by_cases h1 : x = a
  · rw [if_pos h1, h1]; exact h.symm
  · rw [if_neg h1]
theorem a_rd {σ : qH} {a n : Nat} {P : Nat → Nat} (h : σ.1 a = some (iA n P)) {j : Nat} (hj : j < n) (hn : n < 2 ^ 31) : q_aldI σ (.ref a) 1 (nI j) = some (nI (P j)) := by
  unfold q_aldI q_arr
  simp only [h, iA, if_true]
  rw [if_neg (nI_in hj hn), nI_clamp (by omega)]
theorem upd_nI (P : Nat → Nat) {j : Nat} (hj : j < 2 ^ 31) (v : Nat) : upd (fun j => nI (P j)) (nI j).toNatClampNeg (nI v) = fun i => nI (up P j v i) := by
  rw [nI_clamp hj]
  funext i
  unfold upd up
  by_cases h : i = j <;> simp [h]
theorem a_wr {σ : qH} {a n : Nat} {P : Nat → Nat} (h : σ.1 a = some (iA n P)) {j : Nat} (hj : j < n) (hn : n < 2 ^ 31) (v : Nat) : q_astI σ (.ref a) 1 (nI j) (nI v) = some (q_upd σ a (iA n (up P j v))) := by
  unfold q_astI q_arr
  simp only [h, iA, if_true]
  rw [if_neg (nI_in hj hn), upd_nI P (by omega) v]
theorem q_obS {β α : Type} (x : β) (d : α) (f : β → α) : q_ob (some x) d f = f x := rfl
theorem q_cIS (x : Int32) (σ : qH) : q_cI (some (some (.int x), σ)) = some (x, σ) := rfl
theorem q_cLS (x : Int64) (σ : qH) : q_cL (some (some (.long x), σ)) = some (x, σ) := rfl
theorem q_cVS (σ : qH) : q_cV (some (none, σ)) = some σ := rfl
theorem g_I {σ : qH} {a ci j : Nat} {fs : List Value} {x : Int32} (h : σ.1 a = some (.inl (ci, fs))) (hj : fs[j]? = some (.int x)) : q_getI σ (.ref a) ci j = some x := by
  unfold q_getI q_fld q_obj
  simp only [h, if_true, hj, q_int]
theorem g_L {σ : qH} {a ci j : Nat} {fs : List Value} {x : Int64} (h : σ.1 a = some (.inl (ci, fs))) (hj : fs[j]? = some (.long x)) : q_getL σ (.ref a) ci j = some x := by
  unfold q_getL q_fld q_obj
  simp only [h, if_true, hj, q_long]
theorem g_R {σ : qH} {a ci j x : Nat} {fs : List Value} (h : σ.1 a = some (.inl (ci, fs))) (hj : fs[j]? = some (.ref x)) : q_getR σ (.ref a) ci j = some x := by
  unfold q_getR q_fld q_obj
  simp only [h, if_true, hj, q_ref]
theorem p_F {σ : qH} {a ci j t : Nat} {fs : List Value} {x : Value} (h : σ.1 a = some (.inl (ci, fs))) (hj : j < fs.length) (ho : q_okv t x = true) : q_put σ (.ref a) ci j t x = some (q_upd σ a (.inl (ci, fs.set j x))) := by
  unfold q_put
  simp only [h]
  rw [if_pos ⟨trivial, hj, ho⟩]
theorem m_trace {σ : qH} {m : Nat} {tr : Int64} {z : Nat → Int32} (h : σ.1 m = some (mC m tr z)) : q_getL σ (.ref m) 7 0 = some tr := g_L h rfl
theorem mp_trace {σ : qH} {m : Nat} {tr : Int64} {z : Nat → Int32} (h : σ.1 m = some (mC m tr z)) (x : Int64) : q_put σ (.ref m) 7 0 1 (.long x) = some (q_upd σ m (mC m x z)) := p_F h (show 0 < 19 by decide) rfl
theorem m_text {σ : qH} {m : Nat} {tr : Int64} {z : Nat → Int32} (h : σ.1 m = some (mC m tr z)) : q_getR σ (.ref m) 7 1 = some (m + 1) := g_R h rfl
theorem m_typed {σ : qH} {m : Nat} {tr : Int64} {z : Nat → Int32} (h : σ.1 m = some (mC m tr z)) : q_getI σ (.ref m) 7 2 = some (z 0) := g_I h rfl
theorem mp_typed {σ : qH} {m : Nat} {tr : Int64} {z : Nat → Int32} (h : σ.1 m = some (mC m tr z)) (x : Int32) : q_put σ (.ref m) 7 2 0 (.int x) = some (q_upd σ m (mC m tr (upI z 0 x))) := p_F h (show 2 < 19 by decide) rfl
theorem m_told {σ : qH} {m : Nat} {tr : Int64} {z : Nat → Int32} (h : σ.1 m = some (mC m tr z)) : q_getR σ (.ref m) 7 3 = some (m + 2) := g_R h rfl
theorem m_draft {σ : qH} {m : Nat} {tr : Int64} {z : Nat → Int32} (h : σ.1 m = some (mC m tr z)) : q_getR σ (.ref m) 7 4 = some (m + 3) := g_R h rfl
theorem m_s {σ : qH} {m : Nat} {tr : Int64} {z : Nat → Int32} (h : σ.1 m = some (mC m tr z)) : q_getR σ (.ref m) 7 5 = some (m + 4) := g_R h rfl
theorem m_past {σ : qH} {m : Nat} {tr : Int64} {z : Nat → Int32} (h : σ.1 m = some (mC m tr z)) : q_getR σ (.ref m) 7 6 = some (m + 5) := g_R h rfl
theorem m_known {σ : qH} {m : Nat} {tr : Int64} {z : Nat → Int32} (h : σ.1 m = some (mC m tr z)) : q_getI σ (.ref m) 7 7 = some (z 1) := g_I h rfl
theorem mp_known {σ : qH} {m : Nat} {tr : Int64} {z : Nat → Int32} (h : σ.1 m = some (mC m tr z)) (x : Int32) : q_put σ (.ref m) 7 7 0 (.int x) = some (q_upd σ m (mC m tr (upI z 1 x))) := p_F h (show 7 < 19 by decide) rfl
theorem m_images {σ : qH} {m : Nat} {tr : Int64} {z : Nat → Int32} (h : σ.1 m = some (mC m tr z)) : q_getR σ (.ref m) 7 8 = some (m + 6) := g_R h rfl
theorem m_kept {σ : qH} {m : Nat} {tr : Int64} {z : Nat → Int32} (h : σ.1 m = some (mC m tr z)) : q_getR σ (.ref m) 7 9 = some (m + 7) := g_R h rfl
theorem m_notes {σ : qH} {m : Nat} {tr : Int64} {z : Nat → Int32} (h : σ.1 m = some (mC m tr z)) : q_getR σ (.ref m) 7 10 = some (m + 8) := g_R h rfl
theorem m_noted {σ : qH} {m : Nat} {tr : Int64} {z : Nat → Int32} (h : σ.1 m = some (mC m tr z)) : q_getI σ (.ref m) 7 11 = some (z 2) := g_I h rfl
theorem mp_noted {σ : qH} {m : Nat} {tr : Int64} {z : Nat → Int32} (h : σ.1 m = some (mC m tr z)) (x : Int32) : q_put σ (.ref m) 7 11 0 (.int x) = some (q_upd σ m (mC m tr (upI z 2 x))) := p_F h (show 11 < 19 by decide) rfl
theorem m_at {σ : qH} {m : Nat} {tr : Int64} {z : Nat → Int32} (h : σ.1 m = some (mC m tr z)) : q_getI σ (.ref m) 7 12 = some (z 3) := g_I h rfl
theorem mp_at {σ : qH} {m : Nat} {tr : Int64} {z : Nat → Int32} (h : σ.1 m = some (mC m tr z)) (x : Int32) : q_put σ (.ref m) 7 12 0 (.int x) = some (q_upd σ m (mC m tr (upI z 3 x))) := p_F h (show 12 < 19 by decide) rfl
theorem m_sort {σ : qH} {m : Nat} {tr : Int64} {z : Nat → Int32} (h : σ.1 m = some (mC m tr z)) : q_getI σ (.ref m) 7 13 = some (z 4) := g_I h rfl
theorem mp_sort {σ : qH} {m : Nat} {tr : Int64} {z : Nat → Int32} (h : σ.1 m = some (mC m tr z)) (x : Int32) : q_put σ (.ref m) 7 13 0 (.int x) = some (q_upd σ m (mC m tr (upI z 4 x))) := p_F h (show 13 < 19 by decide) rfl
theorem m_start {σ : qH} {m : Nat} {tr : Int64} {z : Nat → Int32} (h : σ.1 m = some (mC m tr z)) : q_getI σ (.ref m) 7 14 = some (z 5) := g_I h rfl
theorem mp_start {σ : qH} {m : Nat} {tr : Int64} {z : Nat → Int32} (h : σ.1 m = some (mC m tr z)) (x : Int32) : q_put σ (.ref m) 7 14 0 (.int x) = some (q_upd σ m (mC m tr (upI z 5 x))) := p_F h (show 14 < 19 by decide) rfl
theorem m_value {σ : qH} {m : Nat} {tr : Int64} {z : Nat → Int32} (h : σ.1 m = some (mC m tr z)) : q_getI σ (.ref m) 7 15 = some (z 6) := g_I h rfl
theorem mp_value {σ : qH} {m : Nat} {tr : Int64} {z : Nat → Int32} (h : σ.1 m = some (mC m tr z)) (x : Int32) : q_put σ (.ref m) 7 15 0 (.int x) = some (q_upd σ m (mC m tr (upI z 6 x))) := p_F h (show 15 < 19 by decide) rfl
theorem m_aside {σ : qH} {m : Nat} {tr : Int64} {z : Nat → Int32} (h : σ.1 m = some (mC m tr z)) : q_getR σ (.ref m) 7 16 = some (m + 9) := g_R h rfl
theorem m_near {σ : qH} {m : Nat} {tr : Int64} {z : Nat → Int32} (h : σ.1 m = some (mC m tr z)) : q_getR σ (.ref m) 7 17 = some (m + 10) := g_R h rfl
theorem m_nearer {σ : qH} {m : Nat} {tr : Int64} {z : Nat → Int32} (h : σ.1 m = some (mC m tr z)) : q_getR σ (.ref m) 7 18 = some (m + 11) := g_R h rfl
