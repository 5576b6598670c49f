/-! ===== what the pure machine does, the machine does ===== -/
theorem q_and {a b : Bool} (h : (a && b) = true) : a = true ∧ b = true := (Bool.and_eq_true _ _).mp h
theorem q_dec {b : ByteArray} {pc nx n : Nat} {ins : Instr} (h : decode b pc = .ok (ins, nx - pc)) (hn : Nat.beq nx (pc + n) = true) : decode b pc = .ok (ins, n) ∧ nx = pc + n := by
  have e := Nat.eq_of_beq_eq_true hn
  subst e
  rw [Nat.add_sub_cancel_left] at h
  exact ⟨h, rfl⟩
theorem q_lookup_mem {β : Type} : ∀ {l : List (Nat × β)} {i : Nat} {v : β}, l.lookup i = some v → (i, v) ∈ l := by
  intro l
  induction l with
  | nil => intro i v h; cases h
  | cons q r ih =>
    intro i v h
    obtain ⟨j, w⟩ := q
    rw [List.lookup_cons] at h
    split at h
    · next e =>
      have e := eq_of_beq e
      cases h
      subst e
      exact List.mem_cons_self
    · exact List.mem_cons_of_mem _ (ih h)
theorem q_ob_some {β α : Type} {o : Option β} {f : β → Option α} {r : α} (h : q_ob o none f = some r) : ∃ x, o = some x ∧ f x = some r := by
  cases o with
  | none => cases h
  | some x => exact ⟨x, rfl, h⟩
theorem q_bt_some {α : Type} {b : Bool} {x : Option α} {r : α} (h : q_bt b x none = some r) : b = true ∧ x = some r := by
  cases b with
  | false => cases h
  | true => exact ⟨rfl, h⟩
theorem q_rd_has {ls : Array Slot} {n : Nat} {L : qL} {i : Nat} {v : Value} (hl : lv_has ls n L) (h : L.lookup i = some v) : ls[i]? = some (.val v) := hl.2.2 (i, v) (q_lookup_mem h)
theorem q_int_some {v : Value} {x : Int32} (h : q_int v = some x) : v = .int x := by
  cases v <;> cases h
  rfl
theorem q_long_some {v : Value} {x : Int64} (h : q_long v = some x) : v = .long x := by
  cases v <;> cases h
  rfl
theorem q_ref_some {v : Value} {x : Nat} (h : q_ref v = some x) : v = .ref x := by
  cases v <;> cases h
  rfl
theorem q_rdI_has {ls : Array Slot} {n : Nat} {L : qL} {i : Nat} {x : Int32} (hl : lv_has ls n L) (h : q_rdI L i = some x) : ∃ k : Nat, L[k]? = some (i, Value.int x) ∧ ls[i]? = some (.val (.int x)) := by
  unfold q_rdI at h
  split at h
  · next v hv =>
    have e := q_int_some h
    subst e
    obtain ⟨k, hk⟩ := List.getElem?_of_mem (q_lookup_mem hv)
    exact ⟨k, hk, q_rd_has hl hv⟩
  · cases h
theorem q_rdL_has {ls : Array Slot} {n : Nat} {L : qL} {i : Nat} {x : Int64} (hl : lv_has ls n L) (h : q_rdL L i = some x) : ls[i]? = some (.val (.long x)) := by
  unfold q_rdL at h
  split at h
  · next v hv =>
    have e := q_long_some h
    subst e
    exact q_rd_has hl hv
  · cases h
theorem q_rdA_has {ls : Array Slot} {n : Nat} {L : qL} {i : Nat} {v : Value} (hl : lv_has ls n L) (h : q_rdA L i = some v) : ((∃ x, v = .ref x) ∨ v = .null) ∧ ls[i]? = some (.val v) := by
  unfold q_rdA at h
  split at h
  · next w hw =>
    cases w <;> cases h
    · exact ⟨Or.inr rfl, q_rd_has hl hw⟩
    · exact ⟨Or.inl ⟨_, rfl⟩, q_rd_has hl hw⟩
  · cases h
theorem q_pick_has {ls : Array Slot} {n : Nat} {L : qL} (hl : lv_has ls n L) : ∀ ks, lv_has ls n (q_pick L ks) := by
  intro ks
  refine ⟨hl.1, hl.2.1, ?_⟩
  induction ks with
  | nil => intro q h; cases h
  | cons i r ih =>
    unfold q_pick
    split
    · next v hv =>
      intro q h
      rcases List.mem_cons.mp h with h | h
      · rw [h]; exact q_rd_has hl hv
      · exact ih q h
    · exact ih
theorem q_keep_has {ls : Array Slot} {n : Nat} {L : qL} (hl : lv_has ls n L) (o : Option (List Nat)) : lv_has ls n (q_keep o L) := by
  cases o with
  | none => exact hl
  | some ks => exact q_pick_has hl ks
theorem q_obj_some {σ : qH} {v : Value} {ci : Nat} {fs : List Value} (h : q_obj σ v ci = some fs) : ∃ a, v = .ref a ∧ σ.1 a = some (.inl (ci, fs)) := by
  unfold q_obj at h
  split at h
  · next a =>
    split at h
    · next c fs' he =>
      split at h
      · next hc => cases h; subst hc; exact ⟨a, rfl, he⟩
      · cases h
    · cases h
  · cases h
theorem q_fld_some {σ : qH} {v w : Value} {ci j : Nat} (h : q_fld σ v ci j = some w) : ∃ a fs, v = .ref a ∧ σ.1 a = some (.inl (ci, fs)) ∧ fs[j]? = some w := by
  unfold q_fld at h
  split at h
  · next fs hf =>
    obtain ⟨a, h1, h2⟩ := q_obj_some hf
    exact ⟨a, fs, h1, h2, h⟩
  · cases h
theorem q_getI_some {σ : qH} {v : Value} {ci j : Nat} {x : Int32} (h : q_getI σ v ci j = some x) : ∃ a fs, v = .ref a ∧ σ.1 a = some (.inl (ci, fs)) ∧ fs[j]? = some (.int x) := by
  unfold q_getI at h
  split at h
  · next w hw => rw [q_int_some h] at hw; exact q_fld_some hw
  · cases h
theorem q_getL_some {σ : qH} {v : Value} {ci j : Nat} {x : Int64} (h : q_getL σ v ci j = some x) : ∃ a fs, v = .ref a ∧ σ.1 a = some (.inl (ci, fs)) ∧ fs[j]? = some (.long x) := by
  unfold q_getL at h
  split at h
  · next w hw => rw [q_long_some h] at hw; exact q_fld_some hw
  · cases h
theorem q_getR_some {σ : qH} {v : Value} {ci j : Nat} {x : Nat} (h : q_getR σ v ci j = some x) : ∃ a fs, v = .ref a ∧ σ.1 a = some (.inl (ci, fs)) ∧ fs[j]? = some (.ref x) := by
  unfold q_getR at h
  split at h
  · next w hw => rw [q_ref_some h] at hw; exact q_fld_some hw
  · cases h
theorem q_put_some {σ σ' : qH} {v x : Value} {ci j t : Nat} (h : q_put σ v ci j t x = some σ') : ∃ a fs, v = .ref a ∧ σ.1 a = some (.inl (ci, fs)) ∧ j < fs.length ∧ q_okv t x = true ∧ σ' = q_upd σ a (.inl (ci, fs.set j x)) := by
  unfold q_put at h
  split at h
  · next a =>
    split at h
    · next c fs he =>
      split at h
      · next hc => obtain ⟨h1, h2, h3⟩ := hc; subst h1; cases h; exact ⟨a, fs, rfl, he, h2, h3, rfl⟩
      · cases h
    · cases h
  · cases h
theorem q_arr_some {σ : qH} {v : Value} {k : Nat} {x : vp_A} (h : q_arr σ v k = some x) : ∃ a, v = .ref a ∧ σ.1 a = some (.inr (k, x)) := by
  unfold q_arr at h
  split at h
  · next a =>
    split at h
    · next c x' he =>
      split at h
      · next hc => subst hc; cases h; exact ⟨a, rfl, he⟩
      · cases h
    · cases h
  · cases h
theorem q_aldI_some {σ : qH} {v : Value} {k : Nat} {i x : Int32} (h : q_aldI σ v k i = some x) : ∃ a n f, v = .ref a ∧ σ.1 a = some (.inr (k, (n, .inl f))) ∧ ¬ (i < 0 ∨ n ≤ i.toNatClampNeg) ∧ x = f i.toNatClampNeg := by
  unfold q_aldI at h
  split at h
  · next n f hf =>
    obtain ⟨a, h1, h2⟩ := q_arr_some hf
    split at h
    · cases h
    · next hi => cases h; exact ⟨a, n, f, h1, h2, hi, rfl⟩
  · cases h
theorem q_aldL_some {σ : qH} {v : Value} {i : Int32} {x : Int64} (h : q_aldL σ v i = some x) : ∃ a n f, v = .ref a ∧ σ.1 a = some (.inr (2, (n, .inr (.inl f)))) ∧ ¬ (i < 0 ∨ n ≤ i.toNatClampNeg) ∧ x = f i.toNatClampNeg := by
  unfold q_aldL at h
  split at h
  · next n f hf =>
    obtain ⟨a, h1, h2⟩ := q_arr_some hf
    split at h
    · cases h
    · next hi => cases h; exact ⟨a, n, f, h1, h2, hi, rfl⟩
  · cases h
theorem q_aldR_some {σ : qH} {v : Value} {i : Int32} {x : Nat} (h : q_aldR σ v i = some x) : ∃ a n f, v = .ref a ∧ σ.1 a = some (.inr (4, (n, .inr (.inr (.inr (.inr f)))))) ∧ ¬ (i < 0 ∨ n ≤ i.toNatClampNeg) ∧ f i.toNatClampNeg = some x := by
  unfold q_aldR at h
  split at h
  · next n f hf =>
    obtain ⟨a, h1, h2⟩ := q_arr_some hf
    split at h
    · cases h
    · next hi => exact ⟨a, n, f, h1, h2, hi, h⟩
  · cases h
theorem q_astI_some {σ σ' : qH} {v : Value} {k : Nat} {i x : Int32} (h : q_astI σ v k i x = some σ') : ∃ a n f, v = .ref a ∧ σ.1 a = some (.inr (k, (n, .inl f))) ∧ ¬ (i < 0 ∨ n ≤ i.toNatClampNeg) ∧ σ' = q_upd σ a (.inr (k, (n, .inl (upd f i.toNatClampNeg x)))) := by
  unfold q_astI at h
  split at h
  · next a0 =>
    split at h
    · next n f hf =>
      obtain ⟨a, h1, h2⟩ := q_arr_some hf
      cases h1
      split at h
      · cases h
      · next hi => cases h; exact ⟨a0, n, f, rfl, h2, hi, rfl⟩
    · cases h
  · cases h
theorem q_astL_some {σ σ' : qH} {v : Value} {i : Int32} {x : Int64} (h : q_astL σ v i x = some σ') : ∃ a n f, v = .ref a ∧ σ.1 a = some (.inr (2, (n, .inr (.inl f)))) ∧ ¬ (i < 0 ∨ n ≤ i.toNatClampNeg) ∧ σ' = q_upd σ a (.inr (2, (n, .inr (.inl (vp_updL f i.toNatClampNeg x))))) := by
  unfold q_astL at h
  split at h
  · next a0 =>
    split at h
    · next n f hf =>
      obtain ⟨a, h1, h2⟩ := q_arr_some hf
      cases h1
      split at h
      · cases h
      · next hi => cases h; exact ⟨a0, n, f, rfl, h2, hi, rfl⟩
    · cases h
  · cases h
theorem q_astR_some {σ σ' : qH} {v : Value} {i : Int32} {x : Nat} (h : q_astR σ v i x = some σ') : ∃ a n f vs, v = .ref a ∧ σ.1 a = some (.inr (4, (n, .inr (.inr (.inr (.inr f)))))) ∧ ¬ (i < 0 ∨ n ≤ i.toNatClampNeg) ∧ σ.1 x = some (.inl (0, vs)) ∧ σ' = q_upd σ a (.inr (4, (n, .inr (.inr (.inr (.inr (va_up f i.toNatClampNeg (some x)))))))) := by
  unfold q_astR at h
  split at h
  · next a0 =>
    split at h
    · next n f hf =>
      obtain ⟨a, h1, h2⟩ := q_arr_some hf
      cases h1
      split at h
      · cases h
      · next hi =>
        cases h
        obtain ⟨hi1, hi2⟩ := not_or.mp hi
        cases ho : q_obj σ (.ref x) 0 with
        | none => exact absurd ho hi2
        | some vs =>
          obtain ⟨b, hb1, hb2⟩ := q_obj_some ho
          cases hb1
          exact ⟨a0, n, f, vs, rfl, h2, hi1, hb2, rfl⟩
    · cases h
  · cases h
theorem q_alen_some {σ : qH} {v : Value} {k : Nat} {x : Int32} (h : q_alen σ v k = some x) : ∃ a y, v = .ref a ∧ σ.1 a = some (.inr (k, y)) ∧ x = Int32.ofNat y.1 := by
  unfold q_alen at h
  split at h
  · next y hy =>
    obtain ⟨a, h1, h2⟩ := q_arr_some hy
    cases h
    exact ⟨a, y, h1, h2, rfl⟩
  · cases h
theorem q_newa_some {σ σ' : qH} {k : Nat} {n : Int32} (h : q_newa σ k n = some σ') : ¬ n < 0 ∧ ¬ 60000 < n.toNatClampNeg ∧ σ' = q_new σ (.inr (k, q_zero k n.toNatClampNeg)) n.toNatClampNeg := by
  unfold q_newa at h
  split at h
  · cases h
  · next hi => cases h; exact ⟨(not_or.mp hi).1, (not_or.mp hi).2, rfl⟩
theorem q_ft_in : (List.range 8).all (fun ci => (List.range (q_cls ci).2.2).all fun j => Nat.blt (q_tc (q_fty ci j)) 5) = true := by decide +kernel
theorem q_okv_fit {t : FieldType} {v : Value} (ht : q_tc t < 5) (h : q_okv (q_tc t) v = true) : narrow t v = v ∧ fits t v = true := by
  cases t with
  | int => cases v <;> first | (cases h; done) | exact ⟨rfl, rfl⟩
  | long => cases v <;> first | (cases h; done) | exact ⟨rfl, rfl⟩
  | object n => cases v <;> first | (cases h; done) | exact ⟨rfl, rfl⟩
  | array n => cases v <;> first | (cases h; done) | exact ⟨rfl, rfl⟩
  | char => exact ⟨of_decide_eq_true (q_and h).1, (q_and h).2⟩
  | boolean => exact ⟨of_decide_eq_true (q_and h).1, (q_and h).2⟩
  | byte => exact absurd ht (by decide)
  | short => exact absurd ht (by decide)
  | float => exact absurd ht (by decide)
  | double => exact absurd ht (by decide)
def q_swt (x : Int32) (d : Nat) : List (Int32 × Nat) → Nat
  | [] => d
  | p :: r => if x = p.1 then p.2 else q_swt x d r
theorem q_sw_eq {α : Type} (K : Nat → α) (x : Int32) (d : Nat) (sw : List (Int32 × Nat)) : q_sw K x d sw = K (q_swt x d sw) := by
  induction sw with
  | nil => rfl
  | cons p r ih =>
    unfold q_sw q_swt
    split
    · rfl
    · exact ih
theorem q_oksw_spec {pc d : Nat} {x : Int32} : ∀ (os : List Int) (sw : List (Int32 × Nat)) (lo : Int), q_oksw pc lo os sw = true →
    (∃ (i : Nat) (o : Int), os[i]? = some o ∧ x.toInt = lo + i ∧ (pc : Int) + o = (q_swt x d sw : Nat)) ∨ ((x.toInt < lo ∨ lo + (os.length : Int) ≤ x.toInt) ∧ q_swt x d sw = d) := by
  intro os
  induction os with
  | nil =>
    intro sw lo h
    cases sw with
    | nil => exact Or.inr ⟨by have : (([] : List Int).length : Int) = 0 := rfl; omega, rfl⟩
    | cons p r => cases h
  | cons o os ih =>
    intro sw lo h
    cases sw with
    | nil => cases h
    | cons p r =>
      obtain ⟨h1, h3⟩ := q_and h
      obtain ⟨h1, h2⟩ := q_and h1
      have h1 := of_decide_eq_true h1
      have h2 := of_decide_eq_true h2
      by_cases hx : x = p.1
      · refine Or.inl ⟨0, o, rfl, by rw [hx, h1]; simp, ?_⟩
        unfold q_swt
        rw [if_pos hx]
        exact h2
      · have hs : q_swt x d (p :: r) = q_swt x d r := by
          show (if x = p.1 then p.2 else q_swt x d r) = _
          rw [if_neg hx]
        rw [hs]
        have hne : x.toInt ≠ lo := fun e => hx (Int32.toInt_inj.mp (e.trans h1.symm))
        have hlen : ((o :: os).length : Int) = (os.length : Int) + 1 := by simp
        rcases ih r (lo + 1) h3 with ⟨i, o', g1, g2, g3⟩ | ⟨g1, g2⟩
        · exact Or.inl ⟨i + 1, o', by simpa using g1, by rw [g2]; push_cast; omega, g3⟩
        · exact Or.inr ⟨by omega, g2⟩
theorem q_okls_spec {pc d : Nat} {x : Int32} {dd : Int} (hd : (pc : Int) + dd = (d : Nat)) : ∀ (os : List (Int × Int)) (sw : List (Int32 × Nat)), q_okls pc os sw = true →
    (pc : Int) + Op.lookupswitch.offset os dd x.toInt = (q_swt x d sw : Nat) := by
  intro os
  induction os with
  | nil =>
    intro sw h
    cases sw with
    | nil => rw [Op.lookupswitch.offset_nil]; exact hd
    | cons p r => cases h
  | cons o os ih =>
    intro sw h
    cases sw with
    | nil => cases h
    | cons p r =>
      obtain ⟨h1, h3⟩ := q_and h
      obtain ⟨h1, h2⟩ := q_and h1
      have h1 := of_decide_eq_true h1
      have h2 := of_decide_eq_true h2
      obtain ⟨a, b⟩ := o
      by_cases hx : x = p.1
      · show (pc : Int) + Op.lookupswitch.offset ((a, b) :: os) dd x.toInt = ((if x = p.1 then p.2 else q_swt x d r : Nat) : Int)
        rw [if_pos hx, Op.lookupswitch.offset_cons, if_pos (by rw [hx, h1])]
        exact h2
      · show (pc : Int) + Op.lookupswitch.offset ((a, b) :: os) dd x.toInt = ((if x = p.1 then p.2 else q_swt x d r : Nat) : Int)
        rw [if_neg hx, lv_osw hx h1]
        exact ih r h3
def q_rm (k mc ms : Nat) : Room := { frames := k + 1, cells := mc, slots := ms, locals := 40 * (k + 1) }
def q_Cx (p : Program) (R : Room) (s : State) (m : MethodId) (args : Array Value) (meth : Method) (c : Code) (k : Nat) (M : qM) (D : va_G) (cy : Nat → ClassId) (lo : Nat) : Prop :=
  p.tables.exec = Jvm.exec ∧ c.code = M.1.2.1 ∧ c.maxLocals = M.1.2.2.1 ∧ s.vm.findClass M.2.1.1 = some m.cls ∧ (∀ w ∈ q_WS, w.before args s = true) ∧ q_KK D cy s ∧ lo ≤ s.heap.size ∧ (M.1.1.name = "<init>" → meth.name = "<init>") ∧ k + 1 ≤ R.frames ∧ 40 * (k + 1) ≤ R.locals
def q_Mt (l : Launch) (D : va_G) (cy : Nat → ClassId) (lo j : Nat) (As : List Value) (σ : qH) (v : Option Value) (σ1 : qH) : Prop :=
  Met l (q_ms j).1.1 (Cond.code (q_ms j).1.1 (q_ms j).1.2.1 (q_ms j).1.2.2.1 (q_ms j).1.2.2.2 :: q_WS) (q_rm j (σ1.2.1 - σ.2.1) (σ1.2.2 - σ.2.2)) (va_Pc As (fun U => q_W D cy lo σ U U.heap ∧ q_KK D cy U)) (fun _ st oc t => oc = .returned v ∧ q_W D cy lo σ1 t t.heap ∧ va_F (fun q => lo ≤ q) st t) (σ1.2.1 - σ.2.1) (σ1.2.2 - σ.2.2) (fun q => lo ≤ q)
def q_le (σ σ' : qH) : Prop := σ.2.1 ≤ σ'.2.1 ∧ σ.2.2 ≤ σ'.2.2
theorem q_le_rfl {σ : qH} : q_le σ σ := ⟨Nat.le_refl _, Nat.le_refl _⟩
theorem q_le.trans {a b c : qH} (h1 : q_le a b) (h2 : q_le b c) : q_le a c := ⟨Nat.le_trans h1.1 h2.1, Nat.le_trans h1.2 h2.2⟩
theorem q_cV_some {o : Option qR} {σ : qH} (h : q_cV o = some σ) : o = some (none, σ) := by
  unfold q_cV at h
  split at h
  · cases h; rfl
  · cases h
theorem q_cI_some {o : Option qR} {p : Int32 × qH} (h : q_cI o = some p) : o = some (some (.int p.1), p.2) := by
  unfold q_cI at h
  split at h
  · cases h; rfl
  · cases h
theorem q_cL_some {o : Option qR} {p : Int64 × qH} (h : q_cL o = some p) : o = some (some (.long p.1), p.2) := by
  unfold q_cL at h
  split at h
  · cases h; rfl
  · cases h
theorem q_cR_some {o : Option qR} {p : Option Nat × qH} (h : q_cR o = some p) : o = some (some (va_rf p.1), p.2) := by
  unfold q_cR at h
  split at h
  · cases h; rfl
  · cases h; rfl
  · cases h
theorem q_inv_some {k : Nat} {call : qC} {nx : Nat} {ax : List Nat} {L : qL} {st : List Value} {σ : qH} {t : qR ⊕ (Nat × qL × List Value × qH)} (h : q_inv k call none q_K nx ax L st σ = some t) :
    ax.getD 0 0 < k ∧ ax.getD 1 0 ≤ st.length ∧ (st.drop (ax.getD 1 0)).length ≤ 4 ∧ ∃ (v : Option Value) (σ1 : qH), call (ax.getD 0 0) (st.take (ax.getD 1 0)).reverse σ = some (v, σ1) ∧ t = .inr (nx, L, v.toList ++ st.drop (ax.getD 1 0), σ1) := by
  unfold q_inv at h
  obtain ⟨hg, h⟩ := q_bt_some h
  obtain ⟨hg, h3⟩ := q_and hg
  obtain ⟨h1, h2⟩ := q_and hg
  refine ⟨Nat.blt_eq.mp h1, Nat.le_of_ble_eq_true h2, Nat.le_of_ble_eq_true h3, ?_⟩
  split at h
  · obtain ⟨y, hy, h⟩ := q_ob_some h
    have hc := q_cV_some hy
    cases h
    exact ⟨_, _, hc, rfl⟩
  · obtain ⟨y, hy, h⟩ := q_ob_some h
    have hc := q_cI_some hy
    cases h
    exact ⟨_, _, hc, rfl⟩
  · obtain ⟨y, hy, h⟩ := q_ob_some h
    have hc := q_cL_some hy
    cases h
    exact ⟨_, _, hc, rfl⟩
  · obtain ⟨y, hy, h⟩ := q_ob_some h
    have hc := q_cR_some hy
    obtain ⟨y1, y2⟩ := y
    cases y1 with
    | none => cases h; exact ⟨_, _, hc, rfl⟩
    | some a => cases h; exact ⟨_, _, hc, rfl⟩
theorem q_cats {st : List Value} (h : st.length ≤ 4) : (st.map fun v => v.category).sum ≤ 8 := by
  have key : ∀ l : List Value, (l.map fun v => v.category).sum ≤ 2 * l.length := by
    intro l
    induction l with
    | nil => exact Nat.le_refl _
    | cons v r ih =>
      have : v.category ≤ 2 := by rcases lv_cat v with q | q <;> omega
      simp only [List.map_cons, List.sum_cons, List.length_cons]
      omega
  have := key st
  omega
theorem q_nest_kind {w : Cond} (h : w ∈ q_nest) : ∃ a i x b, w = .methodLinkNest a i x b := by
  unfold q_nest at h
  simp only [List.mem_cons, List.not_mem_nil, or_false] at h
  rcases h with h | h | h | h | h | h | h | h | h | h | h | h | h | h | h | h | h | h | h | h | h | h | h | h | h <;> exact ⟨_, _, _, _, h⟩
theorem q_KK.warm {D : va_G} {cy : Nat → ClassId} {s U : State} (hW : s.WarmedH U.vm) (h : q_KK D cy s) : q_KK D cy U := by
  refine ⟨va_K.moved hW.alike h.1, fun w hw => ?_, h.2.2.moved hW.alike⟩
  obtain ⟨a, i, x, b, rfl⟩ := q_nest_kind hw
  exact va_Nw.warmM hW (h.2.1 _ hw)
theorem q_KK.same {D : va_G} {cy : Nat → ClassId} {s U : State} (hv : s.vm = U.vm) (h : q_KK D cy s) : q_KK D cy U := by
  refine ⟨va_K.moved (hv ▸ Vm.Alike.refl _) h.1, fun w hw => ?_, h.2.2.moved (hv ▸ Vm.Alike.refl _)⟩
  obtain ⟨a, i, x, b, rfl⟩ := q_nest_kind hw
  exact va_Nw.same rfl hv (h.2.1 _ hw)
theorem q_blind {D : va_G} {cy : Nat → ClassId} {lo : Nat} {σ : qH} {As : List Value} : FrameBlind (va_Pc As (fun U => q_W D cy lo σ U U.heap ∧ q_KK D cy U)) := by
  rintro a U g mk ⟨q0, q1, q2⟩
  exact ⟨q0, q_W.moved (u := U) (U := U.calling g mk a) (Vm.Alike.refl U.vm) q1, q_KK.same (s := U) (U := U.calling g mk a) rfl q2⟩
theorem q_WSg {w : Cond} (h : w ∈ q_WS) : ∀ big, (∀ v ∈ q_WS, v ∈ big) → GoodIn big (w :: q_WS) := fun big hb => q_WS_good (fun v hv => by
  rcases List.mem_cons.mp hv with e | e
  · rw [e]; exact h
  · exact e) hb
section QS
variable {p : Program} {l : Launch} {e : Env} {R : Room} {s : State} {m : MethodId} {args : Array Value} {below : List Frame} {meth : Method} {c : Code} {H : Heap} {locs : List Loc} {cells slots : Nat} {Q : State → Prop}
variable {ls : Array Slot} {D : va_G} {cy : Nat → ClassId} {lo : Nat} {H0 : Heap}
theorem q_after {mc ms pc : Nat} {st0 rest : List Value} {Qa : State → Outcome → State → Prop} {free : Addr → Prop} {v : Option Value} {σ1 : qH} (hr : va_Run p l e R s m args below meth c H locs cells slots mc ms (F0 m pc ls st0) rest Qa free)
    (hQ : ∀ st oc t, Qa st oc t → oc = .returned v ∧ q_W D cy lo σ1 t t.heap ∧ va_F (fun q => lo ≤ q) st t) (hS : va_S (fun q => lo ≤ q) H0 H locs) (hf : ∀ q, free q → lo ≤ q)
    (kk : ∀ (H1 : Heap) (locs1 : List Loc), q_W D cy lo σ1 s H1 → va_S (fun q => lo ≤ q) H0 H1 locs1 → W p l e R s m args below meth c H1 locs1 (cells + mc) (slots + ms) Q (F0 m (pc + 3) ls (v.toList ++ rest))) : W p l e R s m args below meth c H locs cells slots Q (F0 m pc ls st0) := by
  intro T hT X
  obtain ⟨v', st₀, t, T', L, h0, X', hL, e1, e2, hq, st⟩ := hr T hT X
  obtain ⟨hv, hw, hz, hk⟩ := hQ _ _ _ hq
  cases hv
  rw [h0] at hz hk
  have hal : t.vm.Alike s.vm := by
    have := X'.warmed.alike
    rw [e2] at this
    exact this.symm
  obtain ⟨t2, a1, b1⟩ := kk T'.heap (locs ++ L) (by rw [e1]; exact hw.moved hal)
    ⟨Nat.le_trans hS.1 (by rw [e1]; exact hz), fun q h1 h2 => by rw [e1, hk q (Nat.lt_of_lt_of_le h1 hS.1) h2]; exact hS.2.1 q h1 h2, fun q hq => by
      rcases List.mem_append.mp hq with h | h
      · exact hS.2.2 q h
      · exact hf _ (hL q h)⟩ T' rfl X'
  exact ⟨t2, st t2 a1, b1⟩
def q_Wk (p : Program) (l : Launch) (e : Env) (R : Room) (s : State) (m : MethodId) (args : Array Value) (below : List Frame) (meth : Method) (c : Code) (Q : State → Prop) (nL : Nat) (D : va_G) (cy : Nat → ClassId) (lo z0 w0 : Nat) (pc : Nat) (L : qL) (st : List Value) (σ : qH) : Prop :=
  ∀ (H : Heap) (locs : List Loc) (ls : Array Slot) (cells slots : Nat), lv_has ls nL L → q_W D cy lo σ s H → va_S (fun q => lo ≤ q) s.heap H locs → cells + z0 = σ.2.1 → slots + w0 = σ.2.2 → W p l e R s m args below meth c H locs cells slots Q (F0 m pc ls st)
theorem q_recvc {k : Nat} {As : List Value} {σ : qH} {v : Option Value} {σ1 : qH} (h : q_call k As σ = some (v, σ1)) : ((q_ms k).2.1.2.2 ≠ 0 → ∃ fs, q_obj σ (As.headD .null) (q_ms k).2.1.2.1 = some fs) ∧ As.length = (q_ms k).2.2.1.getD 4 0 ∧ (lg_sl As).length ≤ (q_ms k).1.2.2.1 ∧ q_run k 0 (lv_args 0 As) [] σ = some (v, σ1) := by
  rw [q_call_eq] at h
  obtain ⟨hg, h⟩ := q_bt_some h
  obtain ⟨hg, h3⟩ := q_and hg
  obtain ⟨h1, h2⟩ := q_and hg
  refine ⟨fun e => ?_, Nat.eq_of_beq_eq_true h2, Nat.le_of_ble_eq_true h3, h⟩
  rcases Bool.or_eq_true _ _ ▸ h1 with h1 | h1
  · exact absurd (Nat.eq_of_beq_eq_true h1) e
  · exact Option.isSome_iff_exists.mp h1
/-- a call of method j, by its contract -/
theorem q_callW {k j pc idx kd : Nat} {M : qM} {σ σ1 : qH} {As rest : List Value} {v : Option Value} {z0 w0 : Nat} (C0 : q_Cx p R s m args meth c k M D cy lo) (hj : j < k) (hom : q_okm (q_ms j) = true) (hkd : (q_ms j).2.1.2.2 = kd)
    (hM : q_Mt l D cy lo j As σ v σ1) (hc : q_call j As σ = some (v, σ1)) (hle : q_le σ σ1)
    (hlk : Cond.methodLink M.2.1.1 idx (q_ms j).1.1 ∈ q_WS ∨ Cond.methodLinkNest M.2.1.1 idx (q_ms j).1.1 "PlushFlocks" ∈ q_nest)
    (hdg : decode M.1.2.1 pc = .ok (if kd = 0 then .invokestatic idx else if kd = 1 then .invokevirtual idx else .invokespecial idx, 3)) (hkd2 : kd = 0 ∨ kd = 1 ∨ kd = 2)
    (hl : ls.size = M.1.2.2.1) (hw : q_W D cy lo σ s H) (hS : va_S (fun q => lo ≤ q) s.heap H locs) (hcl : cells + z0 = σ.2.1) (hsl : slots + w0 = σ.2.2) (hrm : σ1.2.1 ≤ z0 + R.cells ∧ σ1.2.2 ≤ w0 + R.slots) (hrest : rest.length ≤ 4)
    (kk : ∀ (H1 : Heap) (locs1 : List Loc) (cells1 slots1 : Nat), q_W D cy lo σ1 s H1 → va_S (fun q => lo ≤ q) s.heap H1 locs1 → cells1 + z0 = σ1.2.1 → slots1 + w0 = σ1.2.2 → W p l e R s m args below meth c H1 locs1 cells1 slots1 Q (F0 m (pc + 3) ls (v.toList ++ rest))) :
    W p l e R s m args below meth c H locs cells slots Q (F0 m pc ls (As.reverse ++ rest)) := by
  obtain ⟨hx, hb, hml, hown, hts, hKK, hlo, hnm, hfr, hloc⟩ := C0
  obtain ⟨hrecv, hlen, -, -⟩ := q_recvc hc
  unfold q_okm at hom
  obtain ⟨hom, hok⟩ := q_and hom
  obtain ⟨hom, h6⟩ := q_and hom
  obtain ⟨hom, h5⟩ := q_and hom
  obtain ⟨hom, h4⟩ := q_and hom
  obtain ⟨hom, h3⟩ := q_and hom
  obtain ⟨h1, h2⟩ := q_and hom
  have h5 := of_decide_eq_true h5
  have h6 := Nat.le_of_ble_eq_true h6
  have hG : GoodIn q_WS (Cond.code (q_ms j).1.1 (q_ms j).1.2.1 (q_ms j).1.2.2.1 (q_ms j).1.2.2.2 :: q_WS) := q_WSg (q_gd_in h1) _ (fun _ h => h)
  have hini := hts _ (q_gd_in h2)
  have hR : (q_rm j (σ1.2.1 - σ.2.1) (σ1.2.2 - σ.2.2)).frames + 1 ≤ R.frames ∧ 8 + ((q_ms j).1.2.2.1 + 11) + (q_rm j (σ1.2.1 - σ.2.1) (σ1.2.2 - σ.2.2)).locals ≤ R.locals := by
    have e1 : (q_rm j (σ1.2.1 - σ.2.1) (σ1.2.2 - σ.2.2)).frames = j + 1 := rfl
    have e2 : (q_rm j (σ1.2.1 - σ.2.1) (σ1.2.2 - σ.2.2)).locals = 40 * (j + 1) := rfl
    omega
  have hf : cells + (σ1.2.1 - σ.2.1) ≤ R.cells ∧ slots + (σ1.2.2 - σ.2.2) ≤ R.slots := by
    have := hle.1; have := hle.2; omega
  have hfin := fun (H1 : Heap) (locs1 : List Loc) (a1 : q_W D cy lo σ1 s H1) (a2 : va_S (fun q => lo ≤ q) s.heap H1 locs1) => kk H1 locs1 (cells + (σ1.2.1 - σ.2.1)) (slots + (σ1.2.2 - σ.2.2)) a1 a2 (by have := hle.1; omega) (by have := hle.2; omega)
  have hpre : ∀ U : State, U.heap = H → s.WarmedH U.vm → va_Pc As (fun U => q_W D cy lo σ U U.heap ∧ q_KK D cy U) As.toArray U := fun U hU hW => ⟨rfl, by rw [hU]; exact hw.moved hW.alike, hKK.warm hW⟩
  have hnL : (F0 m pc ls (As.reverse ++ rest)).locals.size = M.1.2.2.1 := hl
  rcases hkd2 with rfl | rfl | rfl
  · rw [hkd] at hok
    obtain ⟨g1, g2⟩ := q_and hok
    have g2 := of_decide_eq_true g2
    rw [if_pos rfl] at hdg
    rcases hlk with hlk | hlk
    · exact q_after (va_runS (As := As) (rest := rest) ⟨hx, hb, hml, hown, hts⟩ hM ⟨callB_of As.length hts hG rfl rfl rfl hini (hts _ hlk) ⟨h5.1, h5.2, by rw [hlen]; exact g2⟩ hR, hts _ (q_gd_in g1)⟩ ⟨q_blind, hpre⟩ rfl rfl hnL rfl (lv_room (m := m) (pc := pc) (ls := ls) (rest := As.reverse ++ rest) (q_cats hrest)) hdg hf) (fun _ _ _ h => h) hS (fun _ h => h) hfin
    · exact q_after (va_runSN (As := As) (rest := rest) ⟨hx, hb, hml, hown, hts⟩ hM ⟨va_cnB As.length hts hG rfl rfl rfl (hKK.2.1 _ hlk) hini ⟨h5.1, h5.2, by rw [hlen]; exact g2⟩ hR, hts _ (q_gd_in g1), trivial⟩ ⟨q_blind, hpre⟩ rfl rfl hnL rfl (lv_room (m := m) (pc := pc) (ls := ls) (rest := As.reverse ++ rest) (q_cats hrest)) hdg hf) (fun _ _ _ h => h) hS (fun _ h => h) hfin
  · rw [hkd] at hok
    obtain ⟨hok, g5⟩ := q_and hok
    obtain ⟨hok, g4⟩ := q_and hok
    obtain ⟨hok, g3⟩ := q_and hok
    obtain ⟨g1, g2⟩ := q_and hok
    have g4 := of_decide_eq_true g4
    have g5 := of_decide_eq_true g5
    have g3 := Nat.blt_eq.mp g3
    rw [if_neg (by decide), if_pos rfl] at hdg
    obtain ⟨fs, hob⟩ := hrecv (by rw [hkd]; decide)
    obtain ⟨b, hb1, hb2⟩ := q_obj_some hob
    obtain ⟨As', rfl⟩ : ∃ As', As = .ref b :: As' := by
      cases As with
      | nil => cases hb1
      | cons x y => exact ⟨y, by rw [show x = .ref b from hb1]⟩
    have hcell := hw.2 b _ hb2
    have hrc := va_recv (q0 := 0) hKK.1 (q_one hcell.1) (q_cls_at _ g3) rfl
    rw [g4] at hrc
    have hn : (parseMethodDescriptor (q_ms j).1.1.desc).map (fun d => d.parameters.length) = some As'.length := by
      rw [← hlen] at g5
      cases hp : parseMethodDescriptor (q_ms j).1.1.desc with
      | none => rw [hp] at g5; cases g5
      | some d =>
        rw [hp] at g5
        have : d.parameters.length + 1 = As'.length + 1 := Option.some.inj g5
        show some d.parameters.length = some As'.length
        exact congrArg some (by omega)
    have hst : (Value.ref b :: As').reverse ++ rest = As'.reverse ++ .ref b :: rest := by simp
    rw [hst] at hnL ⊢
    rcases hlk with hlk | hlk
    · exact q_after (va_runV (As := As') (rest := rest) ⟨hx, hb, hml, hown, hts⟩ hM ⟨callB_of As'.length hts hG rfl rfl rfl hini (hts _ hlk) ⟨h5.1, h5.2, hn⟩ hR, hts _ (q_gd_in g1), hts _ (q_gd_in g2)⟩ ⟨q_blind, hrc, hpre⟩ rfl rfl hnL rfl (lv_room (m := m) (pc := pc) (ls := ls) (rest := As'.reverse ++ .ref b :: rest) (q_cats hrest)) hdg hf) (fun _ _ _ h => h) hS (fun _ h => h) hfin
    · exact q_after (va_runVN (As := As') (rest := rest) ⟨hx, hb, hml, hown, hts⟩ hM ⟨va_cnB As'.length hts hG rfl rfl rfl (hKK.2.1 _ hlk) hini ⟨h5.1, h5.2, hn⟩ hR, hts _ (q_gd_in g1), hts _ (q_gd_in g2)⟩ ⟨q_blind, hrc, hpre⟩ rfl rfl hnL rfl (lv_room (m := m) (pc := pc) (ls := ls) (rest := As'.reverse ++ .ref b :: rest) (q_cats hrest)) hdg hf) (fun _ _ _ h => h) hS (fun _ h => h) hfin
  · rw [hkd] at hok
    obtain ⟨hok, g4⟩ := q_and hok
    obtain ⟨hok, g3⟩ := q_and hok
    obtain ⟨g1, g2⟩ := q_and hok
    have g4 := of_decide_eq_true g4
    have g3 := of_decide_eq_true g3
    have g2 := of_decide_eq_true g2
    rw [if_neg (by decide), if_neg (by decide)] at hdg
    obtain ⟨fs, hob⟩ := hrecv (by rw [hkd]; decide)
    obtain ⟨b, hb1, hb2⟩ := q_obj_some hob
    obtain ⟨As', rfl⟩ : ∃ As', As = .ref b :: As' := by
      cases As with
      | nil => cases hb1
      | cons x y => exact ⟨y, by rw [show x = .ref b from hb1]⟩
    have hn : (parseMethodDescriptor (q_ms j).1.1.desc).map (fun d => d.parameters.length) = some As'.length := by
      rw [← hlen] at g4
      cases hp : parseMethodDescriptor (q_ms j).1.1.desc with
      | none => rw [hp] at g4; cases g4
      | some d =>
        rw [hp] at g4
        have : d.parameters.length + 1 = As'.length + 1 := Option.some.inj g4
        show some d.parameters.length = some As'.length
        exact congrArg some (by omega)
    have hst : (Value.ref b :: As').reverse ++ rest = As'.reverse ++ .ref b :: rest := by simp
    rw [hst] at hnL ⊢
    have hw0 : (Cond.code (q_ms j).1.1 (q_ms j).1.2.1 (q_ms j).1.2.2.1 (q_ms j).1.2.2.2 :: q_WS) = Cond.code (q_ms j).1.1 (q_ms j).1.2.1 (q_ms j).1.2.2.1 none :: q_WS := by rw [g3]
    rcases hlk with hlk | hlk
    · exact q_after (va_runI (As := As') (rest := rest) ⟨hx, hb, hml, hown, hts⟩ hM ⟨callB_of As'.length hts hG hw0 rfl rfl hini (hts _ hlk) ⟨h5.1, h5.2, hn⟩ hR, g2, hts _ (q_gd_in g1)⟩ ⟨q_blind, hpre⟩ rfl rfl hnL rfl (lv_room (m := m) (pc := pc) (ls := ls) (rest := As'.reverse ++ .ref b :: rest) (q_cats hrest)) hdg hf) (fun _ _ _ h => h) hS (fun _ h => h) hfin
    · exact q_after (va_runIN (As := As') (rest := rest) ⟨hx, hb, hml, hown, hts⟩ hM ⟨va_cnB As'.length hts hG hw0 rfl rfl (hKK.2.1 _ hlk) hini ⟨h5.1, h5.2, hn⟩ hR, g2, hts _ (q_gd_in g1)⟩ ⟨q_blind, hpre⟩ rfl rfl hnL rfl (lv_room (m := m) (pc := pc) (ls := ls) (rest := As'.reverse ++ .ref b :: rest) (q_cats hrest)) hdg hf) (fun _ _ _ h => h) hS (fun _ h => h) hfin
theorem q_mw : q_gd 1009 (.initialized "java/lang/Math") = true ∧ (q_gd 2008 (.static Lib.Math.min.name) = true ∧ q_gd 2009 (.code Lib.Math.min.name Lib.Math.min.code 2 (some .int)) = true) ∧ (q_gd 3123 (.static Lib.Math.max.name) = true ∧ q_gd 3124 (.code Lib.Math.max.name Lib.Math.max.code 2 (some .int)) = true) := by decide +kernel
/-- a step, backwards: from a run behind it, a run at it -/
theorem q_step_W {k z0 w0 : Nat} {M : qM} (C0 : q_Cx p R s m args meth c k M D cy lo) (hok : M.2.2.2.all (q_ok k M) = true)
    (HM : ∀ j, j < k → ∀ As σ v σ1, q_call j As σ = some (v, σ1) → lo ≤ σ.2.1 → q_okm (q_ms j) = true ∧ q_Mt l D cy lo j As σ v σ1 ∧ q_le σ σ1)
    {pc : Nat} {L0 : qL} {st : List Value} {σ : qH} {pc' : Nat} {L' : qL} {st' : List Value} {σ' : qH} (hst : q_step k M.2.2.2 q_call pc L0 st σ = some (.inr (pc', L', st', σ'))) (hrm : σ'.2.1 ≤ z0 + R.cells ∧ σ'.2.2 ≤ w0 + R.slots)
    (hW : q_Wk p l e R s m args below meth c Q M.1.2.2.1 D cy lo z0 w0 pc' L' st' σ') : q_Wk p l e R s m args below meth c Q M.1.2.2.1 D cy lo z0 w0 pc L0 st σ := by
  have C1 := C0
  obtain ⟨hx, hb, hml, hown, hts, hKK, hlo, hnm, hfr, hloc⟩ := C0
  have hK := hKK.1
  unfold q_step q_F at hst
  split at hst
  · cases hst
  next en hen =>
  have hoke := List.all_eq_true.mp hok _ (q_lookup_mem hen)
  obtain ⟨ins, nx, kp, ax, cv, sw⟩ := en
  obtain ⟨hd0, hx0⟩ := q_and hoke
  have hdec : decode M.1.2.1 pc = .ok (ins, nx - pc) := of_decide_eq_true hd0
  dsimp only at hst hx0
  intro H locs ls cells slots hl0 hw hS hcl hsl
  have hl : lv_has ls M.1.2.2.1 (q_keep kp L0) := q_keep_has hl0 kp
  have hsz : ls.size = M.1.2.2.1 := hl0.1
  generalize q_keep kp L0 = L at hl hst
  cases ins
  case iconst n =>
    dsimp only [q_okx] at hx0
    obtain ⟨h1, h2⟩ := q_and hx0
    obtain ⟨hdg, rfl⟩ := q_dec hdec h1
    have h2 := of_decide_eq_true h2
    subst h2
    dsimp only [q_G, q_K] at hst
    cases hst
    exact lv_iconst hx hb hdg rfl (hW _ _ _ _ _ hl hw hS hcl hsl)
  case bipush n =>
    dsimp only [q_okx] at hx0
    obtain ⟨h1, h2⟩ := q_and hx0
    obtain ⟨hdg, rfl⟩ := q_dec hdec h1
    have h2 := of_decide_eq_true h2
    subst h2
    dsimp only [q_G, q_K] at hst
    cases hst
    exact lv_bipush hx hb hdg rfl (hW _ _ _ _ _ hl hw hS hcl hsl)
  case sipush n =>
    dsimp only [q_okx] at hx0
    obtain ⟨h1, h2⟩ := q_and hx0
    obtain ⟨hdg, rfl⟩ := q_dec hdec h1
    have h2 := of_decide_eq_true h2
    subst h2
    dsimp only [q_G, q_K] at hst
    cases hst
    exact lv_sipush hx hb hdg rfl (hW _ _ _ _ _ hl hw hS hcl hsl)
  case lconst n =>
    dsimp only [q_okx] at hx0
    obtain ⟨h1, h2⟩ := q_and hx0
    obtain ⟨hdg, rfl⟩ := q_dec hdec h1
    have h2 := of_decide_eq_true h2
    subst h2
    dsimp only [q_G, q_K] at hst
    cases hst
    exact lv_lconst hx hb hdg rfl (hW _ _ _ _ _ hl hw hS hcl hsl)
  case ldc i =>
    dsimp only [q_okx] at hx0
    obtain ⟨h1, h2⟩ := q_and hx0
    obtain ⟨hdg, rfl⟩ := q_dec hdec h1
    split at h2
    · dsimp only [q_G, q_K] at hst
      cases hst
      exact lv_ldc hx hb hown (hts _ (q_gd_in h2)) hdg (hW _ _ _ _ _ hl hw hS hcl hsl)
    · cases h2
  case ldc_w i =>
    dsimp only [q_okx] at hx0
    obtain ⟨h1, h2⟩ := q_and hx0
    obtain ⟨hdg, rfl⟩ := q_dec hdec h1
    split at h2
    · dsimp only [q_G, q_K] at hst
      cases hst
      exact lv_ldcw hx hb hown (hts _ (q_gd_in h2)) hdg (hW _ _ _ _ _ hl hw hS hcl hsl)
    · cases h2
  case ldc2_w i =>
    dsimp only [q_okx] at hx0
    obtain ⟨h1, h2⟩ := q_and hx0
    obtain ⟨hdg, rfl⟩ := q_dec hdec h1
    split at h2
    · dsimp only [q_G, q_K] at hst
      cases hst
      exact lv_ldc2 hx hb hown (hts _ (q_gd_in h2)) hdg (hW _ _ _ _ _ hl hw hS hcl hsl)
    · cases h2
  case aconst_null =>
    dsimp only [q_okx] at hx0
    obtain ⟨hdg, rfl⟩ := q_dec hdec hx0
    dsimp only [q_G, q_K] at hst
    cases hst
    exact lv_null hx hb hdg (hW _ _ _ _ _ hl hw hS hcl hsl)
  case iload i =>
    dsimp only [q_okx] at hx0
    obtain ⟨h1, h2⟩ := q_and hx0
    obtain ⟨hdg, rfl⟩ := q_dec hdec h1
    have h2 := Nat.eq_of_beq_eq_true h2
    subst h2
    dsimp only [q_G, q_K] at hst
    obtain ⟨x, hr, hst2⟩ := q_ob_some hst
    clear hst
    have hst := hst2
    clear hst2
    obtain ⟨kk, -, hr2⟩ := q_rdI_has hl hr
    cases hst
    exact lv_iload hx hb hdg hr2 (hW _ _ _ _ _ hl hw hS hcl hsl)
  case lload i =>
    dsimp only [q_okx] at hx0
    obtain ⟨h1, h2⟩ := q_and hx0
    obtain ⟨hdg, rfl⟩ := q_dec hdec h1
    have h2 := Nat.eq_of_beq_eq_true h2
    subst h2
    dsimp only [q_G, q_K] at hst
    obtain ⟨x, hr, hst2⟩ := q_ob_some hst
    clear hst
    have hst := hst2
    clear hst2
    have hr2 := q_rdL_has hl hr
    cases hst
    exact lv_lload hx hb hdg hr2 (hW _ _ _ _ _ hl hw hS hcl hsl)
  case iload_n i =>
    dsimp only [q_okx] at hx0
    obtain ⟨h1, h2⟩ := q_and hx0
    obtain ⟨hdg, rfl⟩ := q_dec hdec h1
    have h2 := Nat.eq_of_beq_eq_true h2
    dsimp only [q_G, q_K] at hst
    obtain ⟨x, hr, hst2⟩ := q_ob_some hst
    clear hst
    have hst := hst2
    clear hst2
    obtain ⟨kk, -, hr2⟩ := q_rdI_has hl hr
    cases hst
    exact lv_iload_n hx hb hdg h2.symm hr2 (hW _ _ _ _ _ hl hw hS hcl hsl)
  case lload_n i =>
    dsimp only [q_okx] at hx0
    obtain ⟨h1, h2⟩ := q_and hx0
    obtain ⟨hdg, rfl⟩ := q_dec hdec h1
    have h2 := Nat.eq_of_beq_eq_true h2
    dsimp only [q_G, q_K] at hst
    obtain ⟨x, hr, hst2⟩ := q_ob_some hst
    clear hst
    have hst := hst2
    clear hst2
    have hr2 := q_rdL_has hl hr
    cases hst
    exact lv_lload_n hx hb hdg h2.symm hr2 (hW _ _ _ _ _ hl hw hS hcl hsl)
  case aload i =>
    dsimp only [q_okx] at hx0
    obtain ⟨h1, h2⟩ := q_and hx0
    obtain ⟨hdg, rfl⟩ := q_dec hdec h1
    have h2 := Nat.eq_of_beq_eq_true h2
    subst h2
    dsimp only [q_G, q_K] at hst
    obtain ⟨x, hr, hst2⟩ := q_ob_some hst
    clear hst
    have hst := hst2
    clear hst2
    obtain ⟨hv, hr2⟩ := q_rdA_has hl hr
    cases hst
    rcases hv with ⟨y, rfl⟩ | rfl
    · exact lv_aload hx hb hdg hr2 (hW _ _ _ _ _ hl hw hS hcl hsl)
    · exact lv_aloadN hx hb hdg hr2 (hW _ _ _ _ _ hl hw hS hcl hsl)
  case aload_n i =>
    dsimp only [q_okx] at hx0
    obtain ⟨h1, h2⟩ := q_and hx0
    obtain ⟨hdg, rfl⟩ := q_dec hdec h1
    have h2 := Nat.eq_of_beq_eq_true h2
    dsimp only [q_G, q_K] at hst
    obtain ⟨x, hr, hst2⟩ := q_ob_some hst
    clear hst
    have hst := hst2
    clear hst2
    obtain ⟨hv, hr2⟩ := q_rdA_has hl hr
    cases hst
    rcases hv with ⟨y, rfl⟩ | rfl
    · exact lv_aload_n hx hb hdg h2.symm hr2 (hW _ _ _ _ _ hl hw hS hcl hsl)
    · exact lv_aload_nN hx hb hdg h2.symm hr2 (hW _ _ _ _ _ hl hw hS hcl hsl)
  case istore i =>
    dsimp only [q_okx] at hx0
    obtain ⟨hx0, h3⟩ := q_and hx0
    obtain ⟨h1, h2⟩ := q_and hx0
    obtain ⟨hdg, rfl⟩ := q_dec hdec h1
    have h2 := Nat.eq_of_beq_eq_true h2
    have h3 := Nat.blt_eq.mp h3
    subst h2
    dsimp only [q_G, q_K] at hst
    split at hst
    · cases hst
      exact lv_istore hx hb hdg hl h3 rfl (fun ls hl => hW _ _ _ _ _ hl hw hS hcl hsl)
    · cases hst
  case lstore i =>
    dsimp only [q_okx] at hx0
    obtain ⟨hx0, h3⟩ := q_and hx0
    obtain ⟨h1, h2⟩ := q_and hx0
    obtain ⟨hdg, rfl⟩ := q_dec hdec h1
    have h2 := Nat.eq_of_beq_eq_true h2
    have h3 := Nat.blt_eq.mp h3
    subst h2
    dsimp only [q_G, q_K] at hst
    split at hst
    · cases hst
      exact lv_lstore hx hb hdg hl h3 rfl (fun ls hl => hW _ _ _ _ _ hl hw hS hcl hsl)
    · cases hst
  case istore_n i =>
    dsimp only [q_okx] at hx0
    obtain ⟨hx0, h3⟩ := q_and hx0
    obtain ⟨h1, h2⟩ := q_and hx0
    obtain ⟨hdg, rfl⟩ := q_dec hdec h1
    have h2 := Nat.eq_of_beq_eq_true h2
    have h3 := Nat.blt_eq.mp h3
    dsimp only [q_G, q_K] at hst
    split at hst
    · cases hst
      exact lv_istore_n hx hb hdg h2.symm hl h3 rfl (fun ls hl => hW _ _ _ _ _ hl hw hS hcl hsl)
    · cases hst
  case lstore_n i =>
    dsimp only [q_okx] at hx0
    obtain ⟨hx0, h3⟩ := q_and hx0
    obtain ⟨h1, h2⟩ := q_and hx0
    obtain ⟨hdg, rfl⟩ := q_dec hdec h1
    have h2 := Nat.eq_of_beq_eq_true h2
    have h3 := Nat.blt_eq.mp h3
    dsimp only [q_G, q_K] at hst
    split at hst
    · cases hst
      exact lv_lstore_n hx hb hdg h2.symm hl h3 rfl (fun ls hl => hW _ _ _ _ _ hl hw hS hcl hsl)
    · cases hst
  case astore i =>
    dsimp only [q_okx] at hx0
    obtain ⟨hx0, h3⟩ := q_and hx0
    obtain ⟨h1, h2⟩ := q_and hx0
    obtain ⟨hdg, rfl⟩ := q_dec hdec h1
    have h2 := Nat.eq_of_beq_eq_true h2
    have h3 := Nat.blt_eq.mp h3
    subst h2
    dsimp only [q_G, q_K] at hst
    split at hst
    · cases hst
      exact lv_astore hx hb hdg hl h3 rfl (fun ls hl => hW _ _ _ _ _ hl hw hS hcl hsl)
    · cases hst
      exact lv_astoreN hx hb hdg hl h3 rfl (fun ls hl => hW _ _ _ _ _ hl hw hS hcl hsl)
    · cases hst
  case astore_n i =>
    dsimp only [q_okx] at hx0
    obtain ⟨hx0, h3⟩ := q_and hx0
    obtain ⟨h1, h2⟩ := q_and hx0
    obtain ⟨hdg, rfl⟩ := q_dec hdec h1
    have h2 := Nat.eq_of_beq_eq_true h2
    have h3 := Nat.blt_eq.mp h3
    dsimp only [q_G, q_K] at hst
    split at hst
    · cases hst
      exact lv_astore_n hx hb hdg h2.symm hl h3 rfl (fun ls hl => hW _ _ _ _ _ hl hw hS hcl hsl)
    · cases hst
      exact lv_astore_nN hx hb hdg h2.symm hl h3 rfl (fun ls hl => hW _ _ _ _ _ hl hw hS hcl hsl)
    · cases hst
  case iinc i n =>
    dsimp only [q_okx] at hx0
    obtain ⟨hx0, h4⟩ := q_and hx0
    obtain ⟨hx0, h3⟩ := q_and hx0
    obtain ⟨h1, h2⟩ := q_and hx0
    obtain ⟨hdg, rfl⟩ := q_dec hdec h1
    have h2 := Nat.eq_of_beq_eq_true h2
    have h3 := Nat.blt_eq.mp h3
    have h4 := of_decide_eq_true h4
    subst h2
    subst h4
    dsimp only [q_G, q_K] at hst
    obtain ⟨x, hr, hst2⟩ := q_ob_some hst
    clear hst
    have hst := hst2
    clear hst2
    obtain ⟨kk, hk, -⟩ := q_rdI_has hl hr
    cases hst
    exact lv_iinc hx hb hdg hl hk rfl h3 rfl (fun ls hl => hW _ _ _ _ _ hl hw hS hcl hsl)
  case iadd =>
    dsimp only [q_okx] at hx0
    obtain ⟨hdg, rfl⟩ := q_dec hdec hx0
    dsimp only [q_G, q_K] at hst
    split at hst
    · cases hst
      exact lv_iadd hx hb hdg (hW _ _ _ _ _ hl hw hS hcl hsl)
    · cases hst
  case isub =>
    dsimp only [q_okx] at hx0
    obtain ⟨hdg, rfl⟩ := q_dec hdec hx0
    dsimp only [q_G, q_K] at hst
    split at hst
    · cases hst
      exact lv_isub hx hb hdg (hW _ _ _ _ _ hl hw hS hcl hsl)
    · cases hst
  case imul =>
    dsimp only [q_okx] at hx0
    obtain ⟨hdg, rfl⟩ := q_dec hdec hx0
    dsimp only [q_G, q_K] at hst
    split at hst
    · cases hst
      exact lv_imul hx hb hdg (hW _ _ _ _ _ hl hw hS hcl hsl)
    · cases hst
  case iand =>
    dsimp only [q_okx] at hx0
    obtain ⟨hdg, rfl⟩ := q_dec hdec hx0
    dsimp only [q_G, q_K] at hst
    split at hst
    · cases hst
      exact lv_iand hx hb hdg (hW _ _ _ _ _ hl hw hS hcl hsl)
    · cases hst
  case ior =>
    dsimp only [q_okx] at hx0
    obtain ⟨hdg, rfl⟩ := q_dec hdec hx0
    dsimp only [q_G, q_K] at hst
    split at hst
    · cases hst
      exact lv_ior hx hb hdg (hW _ _ _ _ _ hl hw hS hcl hsl)
    · cases hst
  case ixor =>
    dsimp only [q_okx] at hx0
    obtain ⟨hdg, rfl⟩ := q_dec hdec hx0
    dsimp only [q_G, q_K] at hst
    split at hst
    · cases hst
      exact lv_ixor hx hb hdg (hW _ _ _ _ _ hl hw hS hcl hsl)
    · cases hst
  case ladd =>
    dsimp only [q_okx] at hx0
    obtain ⟨hdg, rfl⟩ := q_dec hdec hx0
    dsimp only [q_G, q_K] at hst
    split at hst
    · cases hst
      exact lv_ladd hx hb hdg (hW _ _ _ _ _ hl hw hS hcl hsl)
    · cases hst
  case land =>
    dsimp only [q_okx] at hx0
    obtain ⟨hdg, rfl⟩ := q_dec hdec hx0
    dsimp only [q_G, q_K] at hst
    split at hst
    · cases hst
      exact lv_land hx hb hdg (hW _ _ _ _ _ hl hw hS hcl hsl)
    · cases hst
  case lor =>
    dsimp only [q_okx] at hx0
    obtain ⟨hdg, rfl⟩ := q_dec hdec hx0
    dsimp only [q_G, q_K] at hst
    split at hst
    · cases hst
      exact lv_lor hx hb hdg (hW _ _ _ _ _ hl hw hS hcl hsl)
    · cases hst
  case lxor =>
    dsimp only [q_okx] at hx0
    obtain ⟨hdg, rfl⟩ := q_dec hdec hx0
    dsimp only [q_G, q_K] at hst
    split at hst
    · cases hst
      exact lv_lxor hx hb hdg (hW _ _ _ _ _ hl hw hS hcl hsl)
    · cases hst
  case idiv =>
    dsimp only [q_okx] at hx0
    obtain ⟨hdg, rfl⟩ := q_dec hdec hx0
    dsimp only [q_G, q_K] at hst
    split at hst
    · split at hst
      · cases hst
      · next hne => cases hst; exact lv_idiv hx hb hdg hne (hW _ _ _ _ _ hl hw hS hcl hsl)
    · cases hst
  case irem =>
    dsimp only [q_okx] at hx0
    obtain ⟨hdg, rfl⟩ := q_dec hdec hx0
    dsimp only [q_G, q_K] at hst
    split at hst
    · split at hst
      · cases hst
      · next hne => cases hst; exact lv_irem hx hb hdg hne (hW _ _ _ _ _ hl hw hS hcl hsl)
    · cases hst
  case ishl =>
    dsimp only [q_okx] at hx0
    obtain ⟨hdg, rfl⟩ := q_dec hdec hx0
    dsimp only [q_G, q_K] at hst
    split at hst
    · cases hst
      exact lv_ishl hx hb hdg (hW _ _ _ _ _ hl hw hS hcl hsl)
    · cases hst
  case ishr =>
    dsimp only [q_okx] at hx0
    obtain ⟨hdg, rfl⟩ := q_dec hdec hx0
    dsimp only [q_G, q_K] at hst
    split at hst
    · cases hst
      exact lv_ishr hx hb hdg (hW _ _ _ _ _ hl hw hS hcl hsl)
    · cases hst
  case iushr =>
    dsimp only [q_okx] at hx0
    obtain ⟨hdg, rfl⟩ := q_dec hdec hx0
    dsimp only [q_G, q_K] at hst
    split at hst
    · cases hst
      exact lv_iushr hx hb hdg rfl (hW _ _ _ _ _ hl hw hS hcl hsl)
    · cases hst
  case lushr =>
    dsimp only [q_okx] at hx0
    obtain ⟨hdg, rfl⟩ := q_dec hdec hx0
    dsimp only [q_G, q_K] at hst
    split at hst
    · cases hst
      exact lv_lushr hx hb hdg rfl (hW _ _ _ _ _ hl hw hS hcl hsl)
    · cases hst
  case lshl =>
    dsimp only [q_okx] at hx0
    obtain ⟨hdg, rfl⟩ := q_dec hdec hx0
    dsimp only [q_G, q_K] at hst
    split at hst
    · cases hst
      exact lv_lshl hx hb hdg rfl (hW _ _ _ _ _ hl hw hS hcl hsl)
    · cases hst
  case lshr =>
    dsimp only [q_okx] at hx0
    obtain ⟨hdg, rfl⟩ := q_dec hdec hx0
    dsimp only [q_G, q_K] at hst
    split at hst
    · cases hst
      exact lv_lshr hx hb hdg rfl (hW _ _ _ _ _ hl hw hS hcl hsl)
    · cases hst
  case i2l =>
    dsimp only [q_okx] at hx0
    obtain ⟨hdg, rfl⟩ := q_dec hdec hx0
    dsimp only [q_G, q_K] at hst
    split at hst
    · cases hst
      exact lv_i2l hx hb hdg rfl (hW _ _ _ _ _ hl hw hS hcl hsl)
    · cases hst
  case l2i =>
    dsimp only [q_okx] at hx0
    obtain ⟨hdg, rfl⟩ := q_dec hdec hx0
    dsimp only [q_G, q_K] at hst
    split at hst
    · cases hst
      exact lv_l2i hx hb hdg rfl (hW _ _ _ _ _ hl hw hS hcl hsl)
    · cases hst
  case i2c =>
    dsimp only [q_okx] at hx0
    obtain ⟨hdg, rfl⟩ := q_dec hdec hx0
    dsimp only [q_G, q_K] at hst
    split at hst
    · cases hst
      exact lv_i2c hx hb hdg rfl (hW _ _ _ _ _ hl hw hS hcl hsl)
    · cases hst
  case lcmp =>
    dsimp only [q_okx] at hx0
    obtain ⟨hdg, rfl⟩ := q_dec hdec hx0
    dsimp only [q_G, q_K] at hst
    split at hst
    · cases hst
      exact W.lcmp hx hb hdg (hW _ _ _ _ _ hl hw hS hcl hsl)
    · cases hst
  case pop =>
    dsimp only [q_okx] at hx0
    obtain ⟨hdg, rfl⟩ := q_dec hdec hx0
    dsimp only [q_G, q_K] at hst
    split at hst
    · cases hst
      exact lv_pop hx hb hdg rfl (hW _ _ _ _ _ hl hw hS hcl hsl)
    · cases hst
  case dup =>
    dsimp only [q_okx] at hx0
    obtain ⟨hdg, rfl⟩ := q_dec hdec hx0
    dsimp only [q_G, q_K] at hst
    split at hst
    · cases hst
      exact lv_dup hx hb hdg rfl (hW _ _ _ _ _ hl hw hS hcl hsl)
    · cases hst
      exact lv_dup hx hb hdg rfl (hW _ _ _ _ _ hl hw hS hcl hsl)
    · cases hst
  case dup2 =>
    dsimp only [q_okx] at hx0
    obtain ⟨hdg, rfl⟩ := q_dec hdec hx0
    dsimp only [q_G, q_K] at hst
    split at hst
    · cases hst
      exact lv_dup2_2 hx hb hdg rfl (hW _ _ _ _ _ hl hw hS hcl hsl)
    · cases hst
      exact lv_dup2_11 hx hb hdg rfl rfl (hW _ _ _ _ _ hl hw hS hcl hsl)
    · cases hst
  case goto off =>
    dsimp only [q_okx] at hx0
    obtain ⟨ht, h1⟩ := q_and hx0
    have ht := of_decide_eq_true ht
    obtain ⟨hdg, rfl⟩ := q_dec hdec h1
    dsimp only [q_G, q_K] at hst
    cases hst
    exact lv_goto hx hb hdg ht (hW _ _ _ _ _ hl hw hS hcl hsl)
  case if_icmp cc0 off =>
    dsimp only [q_okx] at hx0
    obtain ⟨ht, h1⟩ := q_and hx0
    have ht := of_decide_eq_true ht
    obtain ⟨hdg, rfl⟩ := q_dec hdec h1
    cases cc0
    · dsimp only [q_G, q_K] at hst
      split at hst
      · refine lv_icmp_eq hx hb hdg ht (fun hc => ?_) (fun hc => ?_)
        · rw [if_pos hc] at hst; cases hst; exact (hW _ _ _ _ _ hl hw hS hcl hsl)
        · rw [if_neg hc] at hst; cases hst; exact (hW _ _ _ _ _ hl hw hS hcl hsl)
      · cases hst
    · dsimp only [q_G, q_K] at hst
      split at hst
      · refine lv_icmp_ne hx hb hdg ht (fun hc => ?_) (fun hc => ?_)
        · rw [if_neg hc] at hst; cases hst; exact (hW _ _ _ _ _ hl hw hS hcl hsl)
        · rw [if_pos hc] at hst; cases hst; exact (hW _ _ _ _ _ hl hw hS hcl hsl)
      · cases hst
    · dsimp only [q_G, q_K] at hst
      split at hst
      · refine lv_icmp_lt hx hb hdg ht (fun hc => ?_) (fun hc => ?_)
        · rw [if_pos hc] at hst; cases hst; exact (hW _ _ _ _ _ hl hw hS hcl hsl)
        · rw [if_neg hc] at hst; cases hst; exact (hW _ _ _ _ _ hl hw hS hcl hsl)
      · cases hst
    · dsimp only [q_G, q_K] at hst
      split at hst
      · refine lv_icmp_ge hx hb hdg ht (fun hc => ?_) (fun hc => ?_)
        · rw [if_pos hc] at hst; cases hst; exact (hW _ _ _ _ _ hl hw hS hcl hsl)
        · rw [if_neg hc] at hst; cases hst; exact (hW _ _ _ _ _ hl hw hS hcl hsl)
      · cases hst
    · dsimp only [q_G, q_K] at hst
      split at hst
      · refine lv_icmp_gt hx hb hdg ht (fun hc => ?_) (fun hc => ?_)
        · rw [if_pos hc] at hst; cases hst; exact (hW _ _ _ _ _ hl hw hS hcl hsl)
        · rw [if_neg hc] at hst; cases hst; exact (hW _ _ _ _ _ hl hw hS hcl hsl)
      · cases hst
    · dsimp only [q_G, q_K] at hst
      split at hst
      · refine lv_icmp_le hx hb hdg ht (fun hc => ?_) (fun hc => ?_)
        · rw [if_pos hc] at hst; cases hst; exact (hW _ _ _ _ _ hl hw hS hcl hsl)
        · rw [if_neg hc] at hst; cases hst; exact (hW _ _ _ _ _ hl hw hS hcl hsl)
      · cases hst
  case ifCond cc0 off =>
    dsimp only [q_okx] at hx0
    obtain ⟨ht, h1⟩ := q_and hx0
    have ht := of_decide_eq_true ht
    obtain ⟨hdg, rfl⟩ := q_dec hdec h1
    cases cc0
    · dsimp only [q_G, q_K] at hst
      split at hst
      · refine lv_if_eq hx hb hdg ht (fun hc => ?_) (fun hc => ?_)
        · rw [if_pos hc] at hst; cases hst; exact (hW _ _ _ _ _ hl hw hS hcl hsl)
        · rw [if_neg hc] at hst; cases hst; exact (hW _ _ _ _ _ hl hw hS hcl hsl)
      · cases hst
    · dsimp only [q_G, q_K] at hst
      split at hst
      · refine lv_if_ne hx hb hdg ht (fun hc => ?_) (fun hc => ?_)
        · rw [if_neg hc] at hst; cases hst; exact (hW _ _ _ _ _ hl hw hS hcl hsl)
        · rw [if_pos hc] at hst; cases hst; exact (hW _ _ _ _ _ hl hw hS hcl hsl)
      · cases hst
    · dsimp only [q_G, q_K] at hst
      split at hst
      · refine lv_if_lt hx hb hdg ht (fun hc => ?_) (fun hc => ?_)
        · rw [if_pos hc] at hst; cases hst; exact (hW _ _ _ _ _ hl hw hS hcl hsl)
        · rw [if_neg hc] at hst; cases hst; exact (hW _ _ _ _ _ hl hw hS hcl hsl)
      · cases hst
    · dsimp only [q_G, q_K] at hst
      split at hst
      · refine lv_if_ge hx hb hdg ht (fun hc => ?_) (fun hc => ?_)
        · rw [if_pos hc] at hst; cases hst; exact (hW _ _ _ _ _ hl hw hS hcl hsl)
        · rw [if_neg hc] at hst; cases hst; exact (hW _ _ _ _ _ hl hw hS hcl hsl)
      · cases hst
    · dsimp only [q_G, q_K] at hst
      split at hst
      · refine lv_if_gt hx hb hdg ht (fun hc => ?_) (fun hc => ?_)
        · rw [if_pos hc] at hst; cases hst; exact (hW _ _ _ _ _ hl hw hS hcl hsl)
        · rw [if_neg hc] at hst; cases hst; exact (hW _ _ _ _ _ hl hw hS hcl hsl)
      · cases hst
    · dsimp only [q_G, q_K] at hst
      split at hst
      · refine lv_if_le hx hb hdg ht (fun hc => ?_) (fun hc => ?_)
        · rw [if_pos hc] at hst; cases hst; exact (hW _ _ _ _ _ hl hw hS hcl hsl)
        · rw [if_neg hc] at hst; cases hst; exact (hW _ _ _ _ _ hl hw hS hcl hsl)
      · cases hst
  case ifnull off =>
    dsimp only [q_okx] at hx0
    obtain ⟨ht, h1⟩ := q_and hx0
    have ht := of_decide_eq_true ht
    obtain ⟨hdg, rfl⟩ := q_dec hdec h1
    dsimp only [q_G, q_K] at hst
    split at hst
    · cases hst
      exact lv_ifnull hx hb hdg (hW _ _ _ _ _ hl hw hS hcl hsl)
    · cases hst
      exact lv_ifnullN hx hb hdg ht (hW _ _ _ _ _ hl hw hS hcl hsl)
    · cases hst
  case ifnonnull off =>
    dsimp only [q_okx] at hx0
    obtain ⟨ht, h1⟩ := q_and hx0
    have ht := of_decide_eq_true ht
    obtain ⟨hdg, rfl⟩ := q_dec hdec h1
    dsimp only [q_G, q_K] at hst
    split at hst
    · cases hst
      exact lv_ifnonnull hx hb hdg ht (hW _ _ _ _ _ hl hw hS hcl hsl)
    · cases hst
      exact lv_ifnonnullN hx hb hdg (hW _ _ _ _ _ hl hw hS hcl hsl)
    · cases hst
  case tableswitch d lo1 hi offs =>
    dsimp only [q_okx] at hx0
    obtain ⟨hx0, h3⟩ := q_and hx0
    obtain ⟨h1, h2⟩ := q_and hx0
    have h1 := of_decide_eq_true h1
    have h2 := of_decide_eq_true h2
    dsimp only [q_G, q_K] at hst
    split at hst
    · next x r =>
      rw [q_sw_eq] at hst
      cases hst
      rcases q_oksw_spec (d := ax.getD 0 0) (x := x) offs.toList sw lo1 h3 with ⟨i, o, g1, g2, g3⟩ | ⟨g1, g2⟩
      · have hlt : i < offs.toList.length := (List.getElem?_eq_some_iff.mp g1).1
        refine lv_tableIn hx hb hdec (off := o) (by omega) (by omega) ?_ g3 (hW _ _ _ _ _ hl hw hS hcl hsl)
        rw [show (x.toInt - lo1).toNat = i by omega, ← Array.getElem?_toList]
        exact g1
      · rw [g2] at hW
        exact lv_tableOut hx hb hdec (by omega) h1 (hW _ _ _ _ _ hl hw hS hcl hsl)
    · cases hst
  case lookupswitch d ps =>
    dsimp only [q_okx] at hx0
    obtain ⟨hx0, h3⟩ := q_and hx0
    obtain ⟨h1, h2⟩ := q_and hx0
    have h1 := of_decide_eq_true h1
    dsimp only [q_G, q_K] at hst
    split at hst
    · next x r =>
      rw [q_sw_eq] at hst
      cases hst
      exact lv_lookup hx hb hdec h2 rfl (q_okls_spec h1 ps.toList sw h3) (hW _ _ _ _ _ hl hw hS hcl hsl)
    · cases hst
  case getfield i =>
    dsimp only [q_okx] at hx0
    obtain ⟨hx0, h4⟩ := q_and hx0
    obtain ⟨hx0, h3⟩ := q_and hx0
    obtain ⟨h1, h2⟩ := q_and hx0
    obtain ⟨hdg, rfl⟩ := q_dec hdec h1
    have h2 := Nat.blt_eq.mp h2
    have h3 := Nat.blt_eq.mp h3
    dsimp only [q_G, q_K] at hst
    split at hst
    · split at hst
      · obtain ⟨x, hg, hst2⟩ := q_ob_some hst
        clear hst
        have hst := hst2
        clear hst2
        obtain ⟨a, fs, rfl, ha, hv⟩ := q_getI_some hg
        cases hst
        exact q_rget hx hb hts hown hK (hw.2 a _ ha).1 h2 h3 (q_gd_in h4) hv hdg (hW _ _ _ _ _ hl hw hS hcl hsl)
      · obtain ⟨x, hg, hst2⟩ := q_ob_some hst
        clear hst
        have hst := hst2
        clear hst2
        obtain ⟨a, fs, rfl, ha, hv⟩ := q_getL_some hg
        cases hst
        exact q_rget hx hb hts hown hK (hw.2 a _ ha).1 h2 h3 (q_gd_in h4) hv hdg (hW _ _ _ _ _ hl hw hS hcl hsl)
      · obtain ⟨x, hg, hst2⟩ := q_ob_some hst
        clear hst
        have hst := hst2
        clear hst2
        obtain ⟨a, fs, rfl, ha, hv⟩ := q_getR_some hg
        cases hst
        exact q_rget hx hb hts hown hK (hw.2 a _ ha).1 h2 h3 (q_gd_in h4) hv hdg (hW _ _ _ _ _ hl hw hS hcl hsl)
    · cases hst
  case putfield i =>
    dsimp only [q_okx] at hx0
    obtain ⟨hx0, h6⟩ := q_and hx0
    obtain ⟨hx0, h5⟩ := q_and hx0
    obtain ⟨hx0, h4⟩ := q_and hx0
    obtain ⟨hx0, h3⟩ := q_and hx0
    obtain ⟨h1, h2⟩ := q_and hx0
    obtain ⟨hdg, rfl⟩ := q_dec hdec h1
    have h2 := Nat.blt_eq.mp h2
    have h3 := Nat.blt_eq.mp h3
    have h5 := Nat.eq_of_beq_eq_true h5
    dsimp only [q_G, q_K] at hst
    split at hst
    · obtain ⟨s1, hp, hst2⟩ := q_ob_some hst
      clear hst
      have hst := hst2
      clear hst2
      obtain ⟨a, fs, rfl, ha, hlen, hov, rfl⟩ := q_put_some hp
      cases hst
      have hcell := hw.2 a _ ha
      have h7 : q_tc (q_fty (ax.getD 0 0) (ax.getD 1 0)) < 5 := Nat.blt_eq.mp (List.all_eq_true.mp (List.all_eq_true.mp q_ft_in _ (List.mem_range.mpr h2)) _ (List.mem_range.mpr h3))
      rw [h5] at hov
      obtain ⟨hn, hfit⟩ := q_okv_fit h7 hov
      refine q_rput hx hb hts hown hK hcell.1 hS hcell.2 h2 h3 (q_gd_in h4) (fun hf => ?_) hn hfit hlen hdg (fun H1 locs1 hat hz ho hS1 => hW _ _ _ _ _ hl (hw.upd hz ho ⟨hat, hcell.2⟩) hS1 hcl hsl)
      rw [hf] at h6
      obtain ⟨h8, h9⟩ := q_and h6
      exact ⟨hnm (of_decide_eq_true h8), of_decide_eq_true h9⟩
    · cases hst
  case iaload =>
    dsimp only [q_okx] at hx0
    obtain ⟨h1, h2⟩ := q_and hx0
    obtain ⟨hdg, rfl⟩ := q_dec hdec h1
    dsimp only [q_G, q_K] at hst
    split at hst
    · obtain ⟨x, hg, hst2⟩ := q_ob_some hst
      clear hst
      have hst := hst2
      clear hst2
      obtain ⟨a, n, f, rfl, ha, hi, rfl⟩ := q_aldI_some hg
      cases hst
      rcases hw.2 a _ ha with ⟨h0, f1, e1, hX⟩ | ⟨h0, hat, -⟩
      · cases e1
        obtain ⟨scr, g1, g2, g3, g4, g5⟩ := hX
        exact W.iald (v := .int (f _)) hx hb g1 g2 g3 (by rw [g4]; exact hi) (g5 _ (Nat.not_le.mp fun q => hi (Or.inr q))) rfl rfl hdg (hW _ _ _ _ _ hl hw hS hcl hsl)
      · have h5 : ax.getD 0 0 = 1 := by
          rcases Bool.or_eq_true _ _ ▸ h2 with h2 | h2
          · exact Nat.eq_of_beq_eq_true h2
          · have := Nat.eq_of_beq_eq_true h2; dsimp only at h0; omega
        dsimp only at hat
        rw [h5] at hat
        exact va_iald (ws := [(a, .inl (cy 1, n, .inl f))]) hx hb hK (q_one hat) 0 1 rfl rfl hi hdg (hW _ _ _ _ _ hl hw hS hcl hsl)
    · cases hst
  case caload =>
    dsimp only [q_okx] at hx0
    obtain ⟨hdg, rfl⟩ := q_dec hdec hx0
    dsimp only [q_G, q_K] at hst
    split at hst
    · obtain ⟨x, hg, hst2⟩ := q_ob_some hst
      clear hst
      have hst := hst2
      clear hst2
      obtain ⟨a, n, f, rfl, ha, hi, rfl⟩ := q_aldI_some hg
      cases hst
      rcases hw.2 a _ ha with ⟨h0, -⟩ | ⟨h0, hat, -⟩
      · cases h0
      · exact va_cald (ws := [(a, .inl (cy 0, n, .inl f))]) hx hb hK (q_one hat) 0 0 rfl rfl hi hdg (hW _ _ _ _ _ hl hw hS hcl hsl)
    · cases hst
  case baload =>
    dsimp only [q_okx] at hx0
    obtain ⟨hdg, rfl⟩ := q_dec hdec hx0
    dsimp only [q_G, q_K] at hst
    split at hst
    · obtain ⟨x, hg, hst2⟩ := q_ob_some hst
      clear hst
      have hst := hst2
      clear hst2
      obtain ⟨a, n, f, rfl, ha, hi, rfl⟩ := q_aldI_some hg
      cases hst
      rcases hw.2 a _ ha with ⟨h0, -⟩ | ⟨h0, hat, -⟩
      · cases h0
      · exact va_zald (ws := [(a, .inl (cy 3, n, .inl f))]) hx hb hK (q_one hat) 0 3 rfl rfl hi hdg (hW _ _ _ _ _ hl hw hS hcl hsl)
    · cases hst
  case laload =>
    dsimp only [q_okx] at hx0
    obtain ⟨hdg, rfl⟩ := q_dec hdec hx0
    dsimp only [q_G, q_K] at hst
    split at hst
    · obtain ⟨x, hg, hst2⟩ := q_ob_some hst
      clear hst
      have hst := hst2
      clear hst2
      obtain ⟨a, n, f, rfl, ha, hi, rfl⟩ := q_aldL_some hg
      cases hst
      rcases hw.2 a _ ha with ⟨h0, -⟩ | ⟨h0, hat, -⟩
      · cases h0
      · exact va_lald (ws := [(a, .inl (cy 2, n, .inr (.inl f)))]) hx hb hK (q_one hat) 0 2 rfl rfl hi hdg (hW _ _ _ _ _ hl hw hS hcl hsl)
    · cases hst
  case aaload =>
    dsimp only [q_okx] at hx0
    obtain ⟨hdg, rfl⟩ := q_dec hdec hx0
    dsimp only [q_G, q_K] at hst
    split at hst
    · obtain ⟨x, hg, hst2⟩ := q_ob_some hst
      clear hst
      have hst := hst2
      clear hst2
      obtain ⟨a, n, f, rfl, ha, hi, hf⟩ := q_aldR_some hg
      cases hst
      rcases hw.2 a _ ha with ⟨h0, -⟩ | ⟨h0, hat, -⟩
      · cases h0
      · refine va_aldq (ws := [(a, .inl (cy 4, n, .inr (.inr (.inr (.inr f)))))]) hx hb hK (q_one hat) 0 4 rfl rfl hi hdg ?_
        rw [hf]
        exact (hW _ _ _ _ _ hl hw hS hcl hsl)
    · cases hst
  case iastore =>
    dsimp only [q_okx] at hx0
    obtain ⟨hdg, rfl⟩ := q_dec hdec hx0
    dsimp only [q_G, q_K] at hst
    split at hst
    · obtain ⟨s1, hg, hst2⟩ := q_ob_some hst
      clear hst
      have hst := hst2
      clear hst2
      obtain ⟨a, n, f, rfl, ha, hi, rfl⟩ := q_astI_some hg
      cases hst
      rcases hw.2 a _ ha with ⟨h0, -⟩ | ⟨h0, hat, hla⟩
      · cases h0
      · exact q_riast hx hb hK hat hS hla hi hdg (fun H1 locs1 hat1 hz ho hS1 => hW _ _ _ _ _ hl (hw.upd hz ho (Or.inr ⟨h0, hat1, hla⟩)) hS1 hcl hsl)
    · cases hst
  case castore =>
    dsimp only [q_okx] at hx0
    obtain ⟨hdg, rfl⟩ := q_dec hdec hx0
    dsimp only [q_G, q_K] at hst
    split at hst
    · obtain ⟨s1, hg, hst2⟩ := q_ob_some hst
      clear hst
      have hst := hst2
      clear hst2
      obtain ⟨a, n, f, rfl, ha, hi, rfl⟩ := q_astI_some hg
      cases hst
      rcases hw.2 a _ ha with ⟨h0, -⟩ | ⟨h0, hat, hla⟩
      · cases h0
      · exact q_rcast hx hb hK hat hS hla hi hdg (fun H1 locs1 hat1 hz ho hS1 => hW _ _ _ _ _ hl (hw.upd hz ho (Or.inr ⟨h0, hat1, hla⟩)) hS1 hcl hsl)
    · cases hst
  case bastore =>
    dsimp only [q_okx] at hx0
    obtain ⟨hdg, rfl⟩ := q_dec hdec hx0
    dsimp only [q_G, q_K] at hst
    split at hst
    · obtain ⟨s1, hg, hst2⟩ := q_ob_some hst
      clear hst
      have hst := hst2
      clear hst2
      obtain ⟨a, n, f, rfl, ha, hi, rfl⟩ := q_astI_some hg
      cases hst
      rcases hw.2 a _ ha with ⟨h0, -⟩ | ⟨h0, hat, hla⟩
      · cases h0
      · exact q_rzast hx hb hK hat hS hla hi hdg (fun H1 locs1 hat1 hz ho hS1 => hW _ _ _ _ _ hl (hw.upd hz ho (Or.inr ⟨h0, hat1, hla⟩)) hS1 hcl hsl)
    · cases hst
  case lastore =>
    dsimp only [q_okx] at hx0
    obtain ⟨hdg, rfl⟩ := q_dec hdec hx0
    dsimp only [q_G, q_K] at hst
    split at hst
    · obtain ⟨s1, hg, hst2⟩ := q_ob_some hst
      clear hst
      have hst := hst2
      clear hst2
      obtain ⟨a, n, f, rfl, ha, hi, rfl⟩ := q_astL_some hg
      cases hst
      rcases hw.2 a _ ha with ⟨h0, -⟩ | ⟨h0, hat, hla⟩
      · cases h0
      · exact q_rlast hx hb hK hat hS hla hi hdg (fun H1 locs1 hat1 hz ho hS1 => hW _ _ _ _ _ hl (hw.upd hz ho (Or.inr ⟨h0, hat1, hla⟩)) hS1 hcl hsl)
    · cases hst
  case aastore =>
    dsimp only [q_okx] at hx0
    obtain ⟨hdg, rfl⟩ := q_dec hdec hx0
    dsimp only [q_G, q_K] at hst
    split at hst
    · obtain ⟨s1, hg, hst2⟩ := q_ob_some hst
      clear hst
      have hst := hst2
      clear hst2
      obtain ⟨a, n, f, vs, rfl, ha, hi, hv, rfl⟩ := q_astR_some hg
      cases hst
      rcases hw.2 a _ ha with ⟨h0, -⟩ | ⟨h0, hat, hla⟩
      · cases h0
      · exact q_raast hx hb hK hat hS hla (hw.2 _ _ hv).1 hi hdg (fun H1 locs1 hat1 hz ho hS1 => hW _ _ _ _ _ hl (hw.upd hz ho (Or.inr ⟨h0, hat1, hla⟩)) hS1 hcl hsl)
    · cases hst
  case arraylength =>
    dsimp only [q_okx] at hx0
    obtain ⟨hdg, rfl⟩ := q_dec hdec hx0
    dsimp only [q_G, q_K] at hst
    split at hst
    · obtain ⟨x, hg, hst2⟩ := q_ob_some hst
      clear hst
      have hst := hst2
      clear hst2
      obtain ⟨a, y, rfl, ha, rfl⟩ := q_alen_some hg
      cases hst
      rcases hw.2 a _ ha with ⟨h0, f1, e1, hX⟩ | ⟨h0, hat, -⟩
      · obtain ⟨scr, g1, g2, g3, g4, g5⟩ := hX
        exact W.alen (n := Int32.ofNat y.1) hx hb g1 g2 (by rw [g4] <;> rfl) rfl rfl hdg (hW _ _ _ _ _ hl hw hS hcl hsl)
      · dsimp only at h0 hat
        have ht : (q_tys cy)[ax.getD 0 0]? = some (cy (ax.getD 0 0), q_akt (ax.getD 0 0)) := by
          generalize ax.getD 0 0 = i at h0
          match i, h0 with
          | 0, _ => rfl
          | 1, _ => rfl
          | 2, _ => rfl
          | 3, _ => rfl
          | 4, _ => rfl
        exact va_alen (ws := [(a, .inl (cy (ax.getD 0 0), y))]) hx hb hK (q_one hat) 0 (ax.getD 0 0) rfl ht rfl hdg (hW _ _ _ _ _ hl hw hS hcl hsl)
    · cases hst
  case new i =>
    dsimp only [q_okx] at hx0
    obtain ⟨hx0, h6⟩ := q_and hx0
    obtain ⟨hx0, h5⟩ := q_and hx0
    obtain ⟨hx0, h4⟩ := q_and hx0
    obtain ⟨hx0, h3⟩ := q_and hx0
    obtain ⟨h1, h2⟩ := q_and hx0
    obtain ⟨hdg, rfl⟩ := q_dec hdec h1
    have h2 := Nat.blt_eq.mp h2
    have h3 := Nat.eq_of_beq_eq_true h3
    dsimp only [q_G, q_K] at hst
    cases hst
    have e1 : (q_new σ (.inl (ax.getD 0 0, q_dfl (ax.getD 0 0))) (ax.getD 1 0)).2.1 = σ.2.1 + 1 := rfl
    have e2 : (q_new σ (.inl (ax.getD 0 0, q_dfl (ax.getD 0 0))) (ax.getD 1 0)).2.2 = σ.2.2 + ax.getD 1 0 := rfl
    refine q_rnew hx hb hts hown hK hS h2 (q_gd_in h4) (q_gd_in h5) (q_gd_in h6) (by omega) (by omega) hdg (fun H1 hat hz ho hS1 => ?_)
    rw [← hw.1] at hW
    exact hW _ _ _ _ _ hl (hw.new hz ho ⟨hat, Nat.le_trans hlo hS.1⟩) hS1 (by omega) (by omega)
  case newarray t =>
    dsimp only [q_okx] at hx0
    obtain ⟨hx0, h4⟩ := q_and hx0
    obtain ⟨hx0, h3⟩ := q_and hx0
    obtain ⟨h1, h2⟩ := q_and hx0
    obtain ⟨hdg, rfl⟩ := q_dec hdec h1
    have h2 := Nat.blt_eq.mp h2
    have h3 := of_decide_eq_true h3
    dsimp only [q_G, q_K] at hst
    split at hst
    · obtain ⟨s1, hg, hst2⟩ := q_ob_some hst
      clear hst
      have hst := hst2
      clear hst2
      obtain ⟨hn, hbig, rfl⟩ := q_newa_some hg
      cases hst
      rename_i n r
      have e1 : (q_new σ (.inr (ax.getD 0 0, q_zero (ax.getD 0 0) n.toNatClampNeg)) n.toNatClampNeg).2.1 = σ.2.1 + 1 := rfl
      have e2 : (q_new σ (.inr (ax.getD 0 0, q_zero (ax.getD 0 0) n.toNatClampNeg)) n.toNatClampNeg).2.2 = σ.2.2 + n.toNatClampNeg := rfl
      refine q_rnewa hx hb h2 h3 hts (q_gd_in h4) hK hS hn hbig (by omega) (by omega) hdg (fun H1 hat hz ho hS1 => ?_)
      rw [← hw.1] at hW
      exact hW _ _ _ _ _ hl (hw.new hz ho (Or.inr ⟨by show ax.getD 0 0 < 5; omega, hat, Nat.le_trans hlo hS.1⟩)) hS1 (by omega) (by omega)
    · cases hst
  case anewarray i =>
    dsimp only [q_okx] at hx0
    obtain ⟨h1, h4⟩ := q_and hx0
    obtain ⟨hdg, rfl⟩ := q_dec hdec h1
    dsimp only [q_G, q_K] at hst
    split at hst
    · obtain ⟨s1, hg, hst2⟩ := q_ob_some hst
      clear hst
      have hst := hst2
      clear hst2
      obtain ⟨hn, hbig, rfl⟩ := q_newa_some hg
      cases hst
      rename_i n r
      have e1 : (q_new σ (.inr (4, q_zero (4) n.toNatClampNeg)) n.toNatClampNeg).2.1 = σ.2.1 + 1 := rfl
      have e2 : (q_new σ (.inr (4, q_zero (4) n.toNatClampNeg)) n.toNatClampNeg).2.2 = σ.2.2 + n.toNatClampNeg := rfl
      refine q_rnewq hx hb hts hown (q_gd_in h4) hKK.2.2 hK hS hn hbig (by omega) (by omega) hdg (fun H1 hat hz ho hS1 => ?_)
      rw [← hw.1] at hW
      exact hW _ _ _ _ _ hl (hw.new hz ho (Or.inr ⟨Nat.lt_succ_self 4, hat, Nat.le_trans hlo hS.1⟩)) hS1 (by omega) (by omega)
    · cases hst
  case invokevirtual i =>
    dsimp only [q_okx] at hx0
    dsimp only [q_G] at hst
    obtain ⟨g1, g2, g3, v, σ1, hc, ht⟩ := q_inv_some hst
    cases ht
    obtain ⟨hom, hM, hle⟩ := HM _ g1 _ _ _ _ hc (by have := hS.1; have := hw.1; omega)
    unfold q_okc at hx0
    rcases Bool.or_eq_true _ _ ▸ hx0 with hx0 | hx0
    · rw [Nat.blt_eq.mpr g1] at hx0
      cases hx0
    obtain ⟨hx0, h4⟩ := q_and hx0
    obtain ⟨hx0, h3⟩ := q_and hx0
    obtain ⟨h1, h2⟩ := q_and hx0
    obtain ⟨hdg, rfl⟩ := q_dec hdec h1
    have h2 := Nat.eq_of_beq_eq_true h2
    have hlk : Cond.methodLink M.2.1.1 i (q_ms (ax.getD 0 0)).1.1 ∈ q_WS ∨ Cond.methodLinkNest M.2.1.1 i (q_ms (ax.getD 0 0)).1.1 "PlushFlocks" ∈ q_nest := by
      split at h4
      · exact Or.inl (q_gd_in h4)
      · exact Or.inr (List.mem_of_getElem? (of_decide_eq_true h4))
    have hsp : st = (st.take (ax.getD 1 0)).reverse.reverse ++ st.drop (ax.getD 1 0) := by simp
    rw [hsp]
    exact q_callW (z0 := z0) (w0 := w0) C1 g1 hom h2 hM hc hle hlk hdg (by decide) hsz hw hS hcl hsl hrm g3 (fun H1 locs1 c1 s1 a1 a2 a3 a4 => hW _ _ _ _ _ hl a1 a2 a3 a4)
  case invokestatic i =>
    dsimp only [q_okx] at hx0
    dsimp only [q_G] at hst
    cases h997 : Nat.beq (ax.getD 0 0) 997 with
    | true =>
      rw [h997] at hst hx0
      dsimp only [q_bt, q_K] at hst hx0
      obtain ⟨h1, h2⟩ := q_and hx0
      obtain ⟨hdg, rfl⟩ := q_dec hdec h1
      split at hst
      · obtain ⟨g3, hst⟩ := q_bt_some hst
        cases hst
        have g3 := q_cats (Nat.le_of_ble_eq_true g3)
        refine va_mmin hx hb (hml.trans hsz.symm) hown (hts _ (q_gd_in h2)) (hts _ (q_gd_in q_mw.2.1.1)) (hts _ (q_gd_in q_mw.1)) (hts _ (q_gd_in q_mw.2.1.2)) (by omega) (by omega) (by omega) (by omega) hdg (hW _ _ _ _ _ hl hw hS hcl hsl)
      · cases hst
    | false =>
      rw [h997] at hst hx0
      dsimp only [q_bt] at hst hx0
      cases h996 : Nat.beq (ax.getD 0 0) 996 with
      | true =>
        rw [h996] at hst hx0
        dsimp only [q_K] at hst hx0
        obtain ⟨h1, h2⟩ := q_and hx0
        obtain ⟨hdg, rfl⟩ := q_dec hdec h1
        split at hst
        · obtain ⟨g3, hst⟩ := q_bt_some hst
          cases hst
          have g3 := q_cats (Nat.le_of_ble_eq_true g3)
          refine va_mmax hx hb (hml.trans hsz.symm) hown (hts _ (q_gd_in h2)) (hts _ (q_gd_in q_mw.2.2.1)) (hts _ (q_gd_in q_mw.1)) (hts _ (q_gd_in q_mw.2.2.2)) (by omega) (by omega) (by omega) (by omega) hdg (hW _ _ _ _ _ hl hw hS hcl hsl)
        · cases hst
      | false =>
        rw [h996] at hst hx0
        dsimp only at hst hx0
        obtain ⟨g1, g2, g3, v, σ1, hc, ht⟩ := q_inv_some hst
        cases ht
        obtain ⟨hom, hM, hle⟩ := HM _ g1 _ _ _ _ hc (by have := hS.1; have := hw.1; omega)
        unfold q_okc at hx0
        rcases Bool.or_eq_true _ _ ▸ hx0 with hx0 | hx0
        · rw [Nat.blt_eq.mpr g1] at hx0
          cases hx0
        obtain ⟨hx0, h4⟩ := q_and hx0
        obtain ⟨hx0, h3⟩ := q_and hx0
        obtain ⟨h1, h2⟩ := q_and hx0
        obtain ⟨hdg, rfl⟩ := q_dec hdec h1
        have h2 := Nat.eq_of_beq_eq_true h2
        have hlk : Cond.methodLink M.2.1.1 i (q_ms (ax.getD 0 0)).1.1 ∈ q_WS ∨ Cond.methodLinkNest M.2.1.1 i (q_ms (ax.getD 0 0)).1.1 "PlushFlocks" ∈ q_nest := by
          split at h4
          · exact Or.inl (q_gd_in h4)
          · exact Or.inr (List.mem_of_getElem? (of_decide_eq_true h4))
        have hsp : st = (st.take (ax.getD 1 0)).reverse.reverse ++ st.drop (ax.getD 1 0) := by simp
        rw [hsp]
        exact q_callW (z0 := z0) (w0 := w0) C1 g1 hom h2 hM hc hle hlk hdg (by decide) hsz hw hS hcl hsl hrm g3 (fun H1 locs1 c1 s1 a1 a2 a3 a4 => hW _ _ _ _ _ hl a1 a2 a3 a4)
  case invokespecial i =>
    dsimp only [q_okx] at hx0
    dsimp only [q_G] at hst
    cases h999 : Nat.beq (ax.getD 0 0) 999 with
    | true =>
      rw [h999] at hst hx0
      dsimp only [q_bt, q_K] at hst hx0
      obtain ⟨h1, h2⟩ := q_and hx0
      obtain ⟨hdg, rfl⟩ := q_dec hdec h1
      split at hst
      · next a r =>
        obtain ⟨g3, hst⟩ := q_bt_some hst
        cases hst
        have g3 := q_cats (Nat.le_of_ble_eq_true g3)
        refine W.objInit hx hb hown (hts _ (q_gd_in h2)) (hts _ (q_gd_in q_objw.1)) (hts _ (q_gd_in q_objw.2)) (g := F0 m pc ls (.ref a :: _)) rfl (hsz.trans hml.symm) rfl hdg (by omega) (by show 2 * 0 + _ + 12 ≤ _; omega) (hW _ _ _ _ _ hl hw hS hcl hsl)
      · cases hst
    | false =>
      rw [h999] at hst hx0
      dsimp only [q_bt] at hst hx0
      obtain ⟨g1, g2, g3, v, σ1, hc, ht⟩ := q_inv_some hst
      cases ht
      obtain ⟨hom, hM, hle⟩ := HM _ g1 _ _ _ _ hc (by have := hS.1; have := hw.1; omega)
      unfold q_okc at hx0
      rcases Bool.or_eq_true _ _ ▸ hx0 with hx0 | hx0
      · rw [Nat.blt_eq.mpr g1] at hx0
        cases hx0
      obtain ⟨hx0, h4⟩ := q_and hx0
      obtain ⟨hx0, h3⟩ := q_and hx0
      obtain ⟨h1, h2⟩ := q_and hx0
      obtain ⟨hdg, rfl⟩ := q_dec hdec h1
      have h2 := Nat.eq_of_beq_eq_true h2
      have hlk : Cond.methodLink M.2.1.1 i (q_ms (ax.getD 0 0)).1.1 ∈ q_WS ∨ Cond.methodLinkNest M.2.1.1 i (q_ms (ax.getD 0 0)).1.1 "PlushFlocks" ∈ q_nest := by
        split at h4
        · exact Or.inl (q_gd_in h4)
        · exact Or.inr (List.mem_of_getElem? (of_decide_eq_true h4))
      have hsp : st = (st.take (ax.getD 1 0)).reverse.reverse ++ st.drop (ax.getD 1 0) := by simp
      rw [hsp]
      exact q_callW (z0 := z0) (w0 := w0) C1 g1 hom h2 hM hc hle hlk hdg (by decide) hsz hw hS hcl hsl hrm g3 (fun H1 locs1 c1 s1 a1 a2 a3 a4 => hW _ _ _ _ _ hl a1 a2 a3 a4)
  case ireturn =>
    dsimp only [q_G] at hst
    revert hst
    split <;> intro hst <;> first | (cases hst; done) | (obtain ⟨_, hst⟩ := q_bt_some hst; cases hst; done)
  case lreturn =>
    dsimp only [q_G] at hst
    revert hst
    split <;> intro hst <;> first | (cases hst; done) | (obtain ⟨_, hst⟩ := q_bt_some hst; cases hst; done)
  case areturn =>
    dsimp only [q_G] at hst
    revert hst
    split <;> intro hst <;> first | (cases hst; done) | (obtain ⟨_, hst⟩ := q_bt_some hst; cases hst; done)
  case return_ =>
    dsimp only [q_G] at hst
    revert hst
    split <;> intro hst <;> first | (cases hst; done) | (obtain ⟨_, hst⟩ := q_bt_some hst; cases hst; done)
  all_goals (cases hst)
end QS
theorem q_bt_or {α : Type} {b : Bool} {x y : Option α} {r : α} (h : q_bt b x y = some r) : x = some r ∨ y = some r := by
  cases b with
  | false => exact Or.inr h
  | true => exact Or.inl h
def q_out (t : qR ⊕ (Nat × qL × List Value × qH)) : qH := match t with
  | .inl r => r.2
  | .inr s => s.2.2.2
theorem q_le_put {σ σ' : qH} {v x : Value} {ci j t : Nat} (h : q_put σ v ci j t x = some σ') : q_le σ σ' := by
  obtain ⟨a, fs, -, -, -, -, rfl⟩ := q_put_some h
  exact q_le_rfl
theorem q_le_astI {σ σ' : qH} {v : Value} {k : Nat} {i x : Int32} (h : q_astI σ v k i x = some σ') : q_le σ σ' := by
  obtain ⟨a, n, f, -, -, -, rfl⟩ := q_astI_some h
  exact q_le_rfl
theorem q_le_astL {σ σ' : qH} {v : Value} {i : Int32} {x : Int64} (h : q_astL σ v i x = some σ') : q_le σ σ' := by
  obtain ⟨a, n, f, -, -, -, rfl⟩ := q_astL_some h
  exact q_le_rfl
theorem q_le_astR {σ σ' : qH} {v : Value} {i : Int32} {x : Nat} (h : q_astR σ v i x = some σ') : q_le σ σ' := by
  obtain ⟨a, n, f, vs, -, -, -, -, rfl⟩ := q_astR_some h
  exact q_le_rfl
theorem q_le_new {σ : qH} {e : qE} {n : Nat} : q_le σ (q_new σ e n) := ⟨Nat.le_succ _, Nat.le_add_right _ _⟩
theorem q_le_newa {σ σ' : qH} {k : Nat} {n : Int32} (h : q_newa σ k n = some σ') : q_le σ σ' := by
  obtain ⟨-, -, rfl⟩ := q_newa_some h
  exact q_le_new
set_option maxHeartbeats 4000000 in
theorem q_step_le {k : Nat} {cd : List (Nat × qI)} (HM : ∀ j, j < k → ∀ As σ v σ1, q_call j As σ = some (v, σ1) → q_le σ σ1) {pc : Nat} {L0 : qL} {st : List Value} {σ : qH} {t : qR ⊕ (Nat × qL × List Value × qH)} (hst : q_step k cd q_call pc L0 st σ = some t) : q_le σ (q_out t) := by
  have hinv : ∀ {nx : Nat} {ax : List Nat} {L : qL} {st : List Value} {t : qR ⊕ (Nat × qL × List Value × qH)}, q_inv k q_call none q_K nx ax L st σ = some t → q_le σ (q_out t) := by
    intro nx ax L st t h
    obtain ⟨g1, -, -, v, σ1, hc, rfl⟩ := q_inv_some h
    exact HM _ g1 _ _ _ _ hc
  unfold q_step q_F at hst
  split at hst
  · cases hst
  next en hen =>
  obtain ⟨ins, nx, kp, ax, cv, sw⟩ := en
  dsimp only at hst
  generalize q_keep kp L0 = L at hst
  cases ins <;> dsimp only [q_G] at hst <;> (try (cases hst; done)) <;> (try (cases hst; exact q_le_rfl)) <;> (try exact hinv hst) <;> (try (cases hst; exact q_le_new)) <;>
    (try (obtain ⟨_, _, h2⟩ := q_ob_some hst; cases h2; exact q_le_rfl)) <;> (try (obtain ⟨_, h2⟩ := q_bt_some hst; cases h2; exact q_le_rfl)) <;>
    (repeat' split at hst) <;> (try (cases hst; done)) <;> (try (cases hst; exact q_le_rfl)) <;> (try (obtain ⟨_, _, h2⟩ := q_ob_some hst; cases h2; exact q_le_rfl)) <;> (try (obtain ⟨_, h2⟩ := q_bt_some hst; cases h2; exact q_le_rfl)) <;>
    (try (obtain ⟨_, h3, h2⟩ := q_ob_some hst; cases h2; first | exact q_le_put h3 | exact q_le_astI h3 | exact q_le_astL h3 | exact q_le_astR h3 | exact q_le_newa h3)) <;>
    (try (rw [q_sw_eq] at hst; cases hst; exact q_le_rfl))
  · obtain ⟨_, _, h2⟩ := q_ob_some hst
    cases h2
  all_goals (rcases q_bt_or hst with h | h)
  all_goals first | (cases h; done) | exact hinv h | (obtain ⟨_, h2⟩ := q_bt_some h; rw [← Option.some.inj h2]; exact q_le_rfl) | (rcases q_bt_or h with h | h <;> first | (cases h; done) | exact hinv h | (obtain ⟨_, h2⟩ := q_bt_some h; rw [← Option.some.inj h2]; exact q_le_rfl))
theorem q_it_le1 {k : Nat} {cd : List (Nat × qI)} (HM : ∀ j, j < k → ∀ As σ v σ1, q_call j As σ = some (v, σ1) → q_le σ σ1) : ∀ n pc L st σ r, q_it k cd q_call n pc L st σ = some r → q_le σ r.2 := by
  intro n
  induction n with
  | zero => intro pc L st σ r h; cases h
  | succ n ih =>
    intro pc L st σ r h
    unfold q_it at h
    rw [q_F_join] at h
    cases hs : q_step k cd q_call pc L st σ with
    | none => rw [hs] at h; cases h
    | some t =>
      rw [hs] at h
      have h1 := q_step_le HM hs
      cases t with
      | inl r0 => cases h; exact h1
      | inr s => exact h1.trans (ih _ _ _ _ _ h)
theorem q_le_all : ∀ k As σ v σ1, q_call k As σ = some (v, σ1) → q_le σ σ1 := by
  intro k
  induction k using Nat.strongRecOn with
  | _ k ih =>
    intro As σ v σ1 h
    obtain ⟨-, -, -, h⟩ := q_recvc h
    obtain ⟨n, h⟩ := (q_rn0_iff (v, σ1)).mp h
    exact q_it_le1 ih n _ _ _ _ _ h
section QT
variable {p : Program} {l : Launch} {e : Env} {R : Room} {s : State} {m : MethodId} {args : Array Value} {below : List Frame} {meth : Method} {c : Code} {H : Heap} {locs : List Loc} {cells slots : Nat} {Q : State → Prop}
variable {ls : Array Slot} {D : va_G} {cy : Nat → ClassId} {lo : Nat} {H0 : Heap}
theorem q_sound_W {k z0 w0 : Nat} {M : qM} (C0 : q_Cx p R s m args meth c k M D cy lo) (hok : M.2.2.2.all (q_ok k M) = true)
    (HM : ∀ j, j < k → ∀ As σ v σ1, q_call j As σ = some (v, σ1) → lo ≤ σ.2.1 → q_okm (q_ms j) = true ∧ q_Mt l D cy lo j As σ v σ1 ∧ q_le σ σ1) {r0 : qR}
    (HE : ∀ (pc : Nat) (L : qL) (st : List Value) (σ : qH), q_step k M.2.2.2 q_call pc L st σ = some (.inl r0) → q_Wk p l e R s m args below meth c Q M.1.2.2.1 D cy lo z0 w0 pc L st σ)
    (hrm : r0.2.2.1 ≤ z0 + R.cells ∧ r0.2.2.2 ≤ w0 + R.slots) : ∀ n pc L st σ, q_it k M.2.2.2 q_call n pc L st σ = some r0 → q_Wk p l e R s m args below meth c Q M.1.2.2.1 D cy lo z0 w0 pc L st σ := by
  intro n
  induction n with
  | zero => intro pc L st σ h; cases h
  | succ n ih =>
    intro pc L st σ h
    unfold q_it at h
    rw [q_F_join] at h
    cases hs : q_step k M.2.2.2 q_call pc L st σ with
    | none => rw [hs] at h; cases h
    | some t =>
      rw [hs] at h
      cases t with
      | inl r =>
        have : r = r0 := Option.some.inj h
        subst this
        exact HE _ _ _ _ hs
      | inr t =>
        obtain ⟨pc', L', st', σ'⟩ := t
        have hle := q_it_le1 (fun j _ => q_le_all j) n _ _ _ _ _ h
        exact q_step_W C0 hok HM hs ⟨Nat.le_trans hle.1 hrm.1, Nat.le_trans hle.2 hrm.2⟩ (ih _ _ _ _ h)
/-- a method's end -/
theorem q_end {k z0 w0 mc ms : Nat} {M : qM} (C0 : q_Cx p R s m args meth c k M D cy lo) (hok : M.2.2.2.all (q_ok k M) = true) (hr : meth.sig.returnType = M.1.2.2.2) (hlocks : meth.locks = false) {r0 : qR} (hmc : mc + z0 = r0.2.2.1) (hms : ms + w0 = r0.2.2.2) {pc : Nat} {L0 : qL} {st : List Value} {σ : qH} (hst : q_step k M.2.2.2 q_call pc L0 st σ = some (.inl r0)) :
    q_Wk p l e R s m args below meth c (MQ below (fun _ st oc t => oc = .returned r0.1 ∧ q_W D cy lo r0.2 t t.heap ∧ va_F (fun q => lo ≤ q) st t) args s mc ms (fun q => lo ≤ q)) M.1.2.2.1 D cy lo z0 w0 pc L0 st σ := by
  obtain ⟨hx, hb, hml, hown, hts, hKK, hlo, hnm, hfr, hloc⟩ := C0
  unfold q_step q_F at hst
  split at hst
  · cases hst
  next en hen =>
  have hoke := List.all_eq_true.mp hok _ (q_lookup_mem hen)
  obtain ⟨ins, nx, kp, ax, cv, sw⟩ := en
  obtain ⟨hd0, hx0⟩ := q_and hoke
  have hdec : decode M.1.2.1 pc = .ok (ins, nx - pc) := of_decide_eq_true hd0
  dsimp only at hst hx0
  intro H locs ls cells slots hl0 hw hS hcl hsl
  generalize q_keep kp L0 = L at hst
  have hinv : ∀ {nx : Nat} {ax : List Nat} {L : qL} {st : List Value}, q_inv k q_call none q_K nx ax L st σ = some (.inl r0) → False := by
    intro nx ax L st h
    obtain ⟨-, -, -, v, σ1, -, h⟩ := q_inv_some h
    cases h
  cases ins
  case ireturn =>
    dsimp only [q_okx] at hx0
    obtain ⟨h1, h2⟩ := q_and hx0
    obtain ⟨hdg, rfl⟩ := q_dec hdec h1
    dsimp only [q_G] at hst
    split at hst
    · obtain ⟨hov, hst⟩ := q_bt_some hst
      cases hst
      have e1 : cells = mc := by dsimp only at hmc; omega
      have e2 : slots = ms := by dsimp only at hms; omega
      subst e1; subst e2
      split at h2
      · next t ht =>
        obtain ⟨h3, h4⟩ := q_and h2
        rw [Nat.eq_of_beq_eq_true h3] at hov
        have h5 : q_tc t < 5 := by
          rcases Bool.or_eq_true _ _ ▸ h4 with h4 | h4
          · rcases Bool.or_eq_true _ _ ▸ h4 with h4 | h4
            · rw [of_decide_eq_true h4]; decide
            · rw [of_decide_eq_true h4]; decide
          · rw [of_decide_eq_true h4]; decide
        exact W.zret hx hb (hr.trans ht) (q_okv_fit h5 hov).1 (fun t ht hW => ⟨rfl, by rw [ht]; exact hw.moved hW.alike, hS.F ht⟩) hS.2.2 hdg hlocks
      · cases h2
    · cases hst
  case lreturn =>
    dsimp only [q_okx] at hx0
    obtain ⟨h1, h2⟩ := q_and hx0
    obtain ⟨hdg, rfl⟩ := q_dec hdec h1
    dsimp only [q_G] at hst
    split at hst
    · cases hst
      have e1 : cells = mc := by dsimp only at hmc; omega
      have e2 : slots = ms := by dsimp only at hms; omega
      subst e1; subst e2
      exact W.lret hx hb (hr.trans (of_decide_eq_true h2)) (fun t ht hW => ⟨rfl, by rw [ht]; exact hw.moved hW.alike, hS.F ht⟩) hS.2.2 hdg hlocks
    · cases hst
  case areturn =>
    dsimp only [q_okx] at hx0
    obtain ⟨h1, h2⟩ := q_and hx0
    obtain ⟨hdg, rfl⟩ := q_dec hdec h1
    dsimp only [q_G] at hst
    split at h2
    · next nm ht =>
      split at hst
      · cases hst
        have e1 : cells = mc := by dsimp only at hmc; omega
        have e2 : slots = ms := by dsimp only at hms; omega
        subst e1; subst e2
        exact W.aret hx hb (hr.trans ht) (Or.inl ⟨_, rfl⟩) (Or.inr ⟨_, rfl⟩) (fun t ht hW => ⟨rfl, by rw [ht]; exact hw.moved hW.alike, hS.F ht⟩) hS.2.2 hdg hlocks
      · cases hst
        have e1 : cells = mc := by dsimp only at hmc; omega
        have e2 : slots = ms := by dsimp only at hms; omega
        subst e1; subst e2
        exact W.aret hx hb (hr.trans ht) (Or.inl ⟨_, rfl⟩) (Or.inl rfl) (fun t ht hW => ⟨rfl, by rw [ht]; exact hw.moved hW.alike, hS.F ht⟩) hS.2.2 hdg hlocks
      · cases hst
    · cases h2
  case return_ =>
    dsimp only [q_okx] at hx0
    obtain ⟨h1, h2⟩ := q_and hx0
    obtain ⟨hdg, rfl⟩ := q_dec hdec h1
    dsimp only [q_G] at hst
    split at hst
    · cases hst
      have e1 : cells = mc := by dsimp only at hmc; omega
      have e2 : slots = ms := by dsimp only at hms; omega
      subst e1; subst e2
      exact W.vret hx hb (hr.trans (of_decide_eq_true h2)) (fun t ht hW => ⟨rfl, by rw [ht]; exact hw.moved hW.alike, hS.F ht⟩) hS.2.2 hdg hlocks
    · cases hst
  all_goals exfalso; dsimp only [q_G] at hst
  all_goals first
    | (cases hst; done)
    | exact hinv hst
    | (obtain ⟨_, _, h2⟩ := q_ob_some hst; cases h2; done)
    | ((repeat' split at hst) <;> first | (cases hst; done) | (obtain ⟨_, _, h2⟩ := q_ob_some hst; cases h2; done) | (rw [q_sw_eq] at hst; cases hst; done))
    | (cases h999 : Nat.beq (ax.getD 0 0) 999 with
      | true => rw [h999] at hst; dsimp only [q_bt] at hst; split at hst <;> first | (cases hst; done) | (obtain ⟨_, h2⟩ := q_bt_some hst; cases h2; done)
      | false => rw [h999] at hst; exact hinv hst)
    | (cases h997 : Nat.beq (ax.getD 0 0) 997 with
      | true => rw [h997] at hst; dsimp only [q_bt] at hst; split at hst <;> first | (cases hst; done) | (obtain ⟨_, h2⟩ := q_bt_some hst; cases h2; done)
      | false =>
        rw [h997] at hst
        dsimp only [q_bt] at hst
        cases h996 : Nat.beq (ax.getD 0 0) 996 with
        | true => rw [h996] at hst; dsimp only at hst; split at hst <;> first | (cases hst; done) | (obtain ⟨_, h2⟩ := q_bt_some hst; cases h2; done)
        | false => rw [h996] at hst; exact hinv hst)
end QT
theorem q_Met_of (l : Launch) {D : va_G} {cy : Nat → ClassId} {lo : Nat} {k : Nat} (hom : q_okm (q_ms k) = true) (hok : (q_ms k).2.2.2.all (q_ok k (q_ms k)) = true)
    (HM : ∀ j, j < k → ∀ As σ v σ1, q_call j As σ = some (v, σ1) → lo ≤ σ.2.1 → q_okm (q_ms j) = true ∧ q_Mt l D cy lo j As σ v σ1 ∧ q_le σ σ1) {As : List Value} {σ : qH} {v : Option Value} {σ1 : qH} (h : q_call k As σ = some (v, σ1)) (hlo : lo ≤ σ.2.1) : q_Mt l D cy lo k As σ v σ1 := by
  have hle := q_le_all k _ _ _ _ h
  have hom0 := hom
  unfold q_okm at hom
  obtain ⟨hom, -⟩ := q_and hom
  obtain ⟨hom, -⟩ := q_and hom
  obtain ⟨hom, -⟩ := q_and hom
  obtain ⟨hom, h4⟩ := q_and hom
  obtain ⟨hom, h3⟩ := q_and hom
  have h4 := of_decide_eq_true h4
  obtain ⟨-, -, hlen, hrun⟩ := q_recvc h
  obtain ⟨n, hit⟩ := (q_rn0_iff (v, σ1)).mp hrun
  unfold q_Mt
  refine Met.ofW (cc := (q_ms k).1.2.1) (maxL := (q_ms k).1.2.2.1) (ret := (q_ms k).1.2.2.2) h3 rfl ?_
  intro p e s m args below meth c s₁ B hml hv
  obtain ⟨rfl, hw, hKK⟩ := hv
  have hts0 := atoms_spec (ws := Cond.code (q_ms k).1.1 (q_ms k).1.2.1 (q_ms k).1.2.2.1 (q_ms k).1.2.2.2 :: q_WS) B.pre
  have hown : s.vm.findClass (q_ms k).2.1.1 = some m.cls := by rw [h4]; exact findClass_of_methodNamed B.named
  have hnm : meth.name = (q_ms k).1.1.name := (name_of_methodNamed B.named B.method).1
  have hl := lv_entry As hlen
  have C0 : q_Cx p (headSpec (Cond.code (q_ms k).1.1 (q_ms k).1.2.1 (q_ms k).1.2.2.1 (q_ms k).1.2.2.2 :: q_WS) (q_rm k (σ1.2.1 - σ.2.1) (σ1.2.2 - σ.2.2))).room s m As.toArray meth c k (q_ms k) D cy lo :=
    ⟨B.exec, B.bytes, hml, hown, fun w hw => hts0 w (List.mem_cons_of_mem _ hw), hKK, by rw [hw.1]; exact hlo, fun e => hnm.trans e, Nat.le_refl _, Nat.le_refl _⟩
  rw [lg_entry_eq]
  have hle1 := hle.1
  have hle2 := hle.2
  exact q_sound_W (l := l) (z0 := σ.2.1) (w0 := σ.2.2) (r0 := (v, σ1)) C0 hok HM
    (fun pc L st σ' hst => q_end (mc := σ1.2.1 - σ.2.1) (ms := σ1.2.2 - σ.2.2) C0 hok B.returns B.notSynchronized (by dsimp only; omega) (by dsimp only; omega) hst)
    ⟨by show σ1.2.1 ≤ σ.2.1 + (σ1.2.1 - σ.2.1); omega, by show σ1.2.2 ≤ σ.2.2 + (σ1.2.2 - σ.2.2); omega⟩ n _ _ _ _ hit s.heap [] _ 0 0 hl hw va_S.rf (by omega) (by omega)
