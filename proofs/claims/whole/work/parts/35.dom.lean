/-! ===== only what is made anew comes to the heap ===== -/
def q_dm (σ σ' : qH) : Prop := σ.2.1 ≤ σ'.2.1 ∧ (∀ a, σ'.1 a ≠ none → σ.1 a ≠ none ∨ (σ.2.1 ≤ a ∧ a < σ'.2.1)) ∧ ∀ a y, σ.1 a = some (.inr (9, y)) → a < σ.2.1 → σ'.1 a = some (.inr (9, y))
theorem q_dm_rfl {σ : qH} : q_dm σ σ := ⟨Nat.le_refl _, fun _ h => Or.inl h, fun _ _ h _ => h⟩
theorem q_dm.trans {a b c : qH} (h1 : q_dm a b) (h2 : q_dm b c) : q_dm a c := ⟨Nat.le_trans h1.1 h2.1, fun x h => by
  have k1 := h1.1
  have k2 := h2.1
  rcases h2.2.1 x h with g | g
  · rcases h1.2.1 x g with g | g
    · exact Or.inl g
    · exact Or.inr ⟨g.1, Nat.lt_of_lt_of_le g.2 k2⟩
  · exact Or.inr ⟨Nat.le_trans k1 g.1, g.2⟩, fun x y h hx => h2.2.2 x y (h1.2.2 x y h hx) (Nat.lt_of_lt_of_le hx h1.1)⟩
theorem q_dm_upd {σ : qH} {a : Nat} {e0 e : qE} (h : σ.1 a = some e0) (h9 : ∀ y, e0 ≠ .inr (9, y)) : q_dm σ (q_upd σ a e) := ⟨Nat.le_refl _, fun b hb => by
  by_cases g : b = a
  · left; rw [g, h]; exact fun q => by cases q
  · left; rw [u_n _ _ g] at hb; exact hb, fun b y hb _ => by
  by_cases g : b = a
  · rw [g, h] at hb; exact absurd (Option.some.inj hb) (h9 y)
  · rw [u_n _ _ g]; exact hb⟩
theorem q_dm_put {σ σ' : qH} {v x : Value} {ci j t : Nat} (h : q_put σ v ci j t x = some σ') : q_dm σ σ' := by
  obtain ⟨a, fs, h1, h2, h3, h4, rfl⟩ := q_put_some h
  exact q_dm_upd h2 (fun y q => by cases q)
theorem q_dm_astI {σ σ' : qH} {v : Value} {k : Nat} {i x : Int32} (hk : k ≠ 9) (h : q_astI σ v k i x = some σ') : q_dm σ σ' := by
  obtain ⟨a, n, f, h1, h2, h3, rfl⟩ := q_astI_some h
  exact q_dm_upd h2 (fun y q => by cases q; exact hk rfl)
theorem q_dm_astL {σ σ' : qH} {v : Value} {i : Int32} {x : Int64} (h : q_astL σ v i x = some σ') : q_dm σ σ' := by
  obtain ⟨a, n, f, h1, h2, h3, rfl⟩ := q_astL_some h
  exact q_dm_upd h2 (fun y q => by cases q)
theorem q_dm_astR {σ σ' : qH} {v : Value} {i : Int32} {x : Nat} (h : q_astR σ v i x = some σ') : q_dm σ σ' := by
  obtain ⟨a, n, f, vs, h1, h2, h3, h4, rfl⟩ := q_astR_some h
  exact q_dm_upd h2 (fun y q => by cases q)
theorem q_dm_new {σ : qH} {e : qE} {n : Nat} : q_dm σ (q_new σ e n) := ⟨Nat.le_succ _, fun b hb => by
  by_cases g : b = σ.2.1
  · right; rw [g]; exact ⟨Nat.le_refl _, Nat.lt_succ_self _⟩
  · left; exact fun q => hb ((if_neg g).trans q), fun b y hb hlt => (if_neg (Nat.ne_of_lt hlt)).trans hb⟩
theorem q_dm_newa {σ σ' : qH} {k : Nat} {n : Int32} (h : q_newa σ k n = some σ') : q_dm σ σ' := by
  obtain ⟨-, -, rfl⟩ := q_newa_some h
  exact q_dm_new
set_option maxHeartbeats 4000000 in
theorem q_step_dm {k : Nat} {cd : List (Nat × qI)} (HM : ∀ j, j < k → ∀ As σ v σ1, q_call j As σ = some (v, σ1) → q_dm σ σ1) {pc : Nat} {L0 : qL} {st : List Value} {σ : qH} {t : qR ⊕ (Nat × qL × List Value × qH)} (hst : q_step k cd q_call pc L0 st σ = some t) : q_dm σ (q_out t) := by
  have hinv : ∀ {nx : Nat} {ax : List Nat} {L : qL} {st : List Value} {t : qR ⊕ (Nat × qL × List Value × qH)}, q_inv k q_call none q_K nx ax L st σ = some t → q_dm σ (q_out t) := by
    intro nx ax L st t h
    obtain ⟨g1, -, -, v, σ1, hc, rfl⟩ := q_inv_some h
    exact HM _ g1 _ _ _ _ hc
  unfold q_step q_F at hst
  split at hst
  · cases hst
  next en hen =>
  obtain ⟨ins, nx, kp, ax, cv, sw⟩ := en
  dsimp only at hst
  generalize q_keep kp L0 = L at hst
  cases ins <;> dsimp only [q_G] at hst <;> (try (cases hst; done)) <;> (try (cases hst; exact q_dm_rfl)) <;> (try exact hinv hst) <;> (try (cases hst; exact q_dm_new)) <;>
    (try (obtain ⟨_, _, h2⟩ := q_ob_some hst; cases h2; exact q_dm_rfl)) <;> (try (obtain ⟨_, h2⟩ := q_bt_some hst; cases h2; exact q_dm_rfl)) <;>
    (repeat' split at hst) <;> (try (cases hst; done)) <;> (try (cases hst; exact q_dm_rfl)) <;> (try (obtain ⟨_, _, h2⟩ := q_ob_some hst; cases h2; exact q_dm_rfl)) <;> (try (obtain ⟨_, h2⟩ := q_bt_some hst; cases h2; exact q_dm_rfl)) <;>
    (try (obtain ⟨_, h3, h2⟩ := q_ob_some hst; cases h2; first | exact q_dm_put h3 | exact q_dm_astI (by decide) h3 | exact q_dm_astL h3 | exact q_dm_astR h3 | exact q_dm_newa h3)) <;>
    (try (rw [q_sw_eq] at hst; cases hst; exact q_dm_rfl))
  · obtain ⟨_, _, h2⟩ := q_ob_some hst
    cases h2
  all_goals (rcases q_bt_or hst with h | h)
  all_goals first | (cases h; done) | exact hinv h | (obtain ⟨_, h2⟩ := q_bt_some h; rw [← Option.some.inj h2]; exact q_dm_rfl) | (rcases q_bt_or h with h | h <;> first | (cases h; done) | exact hinv h | (obtain ⟨_, h2⟩ := q_bt_some h; rw [← Option.some.inj h2]; exact q_dm_rfl))
theorem q_it_dm1 {k : Nat} {cd : List (Nat × qI)} (HM : ∀ j, j < k → ∀ As σ v σ1, q_call j As σ = some (v, σ1) → q_dm σ σ1) : ∀ n pc L st σ r, q_it k cd q_call n pc L st σ = some r → q_dm σ r.2 := by
  intro n
  induction n with
  | zero => intro pc L st σ r h; cases h
  | succ n ih =>
    intro pc L st σ r h
    unfold q_it at h
    rw [q_F_join] at h
    cases hs : q_step k cd q_call pc L st σ with
    | none => rw [hs] at h; cases h
    | some t =>
      rw [hs] at h
      have h1 := q_step_dm HM hs
      cases t with
      | inl r0 => cases h; exact h1
      | inr s => exact h1.trans (ih _ _ _ _ _ h)
theorem q_dm_all : ∀ k As σ v σ1, q_call k As σ = some (v, σ1) → q_dm σ σ1 := by
  intro k
  induction k using Nat.strongRecOn with
  | _ k ih =>
    intro As σ v σ1 h
    obtain ⟨-, -, -, h⟩ := q_recvc h
    obtain ⟨n, h⟩ := (q_rn0_iff (v, σ1)).mp h
    exact q_it_dm1 ih n _ _ _ _ _ h
/-- nothing lies at or above the size -/
def QF (σ : qH) : Prop := ∀ a, σ.2.1 ≤ a → σ.1 a = none
theorem QF.call {k : Nat} {As : List Value} {σ σ1 : qH} {v : Option Value} (h : QF σ) (hc : q_call k As σ = some (v, σ1)) : QF σ1 ∧ σ.2.1 ≤ σ1.2.1 ∧ ∀ a y, σ.1 a = some (.inr (9, y)) → a < σ.2.1 → σ1.1 a = some (.inr (9, y)) := by
  have hd := q_dm_all k _ _ _ _ hc
  refine ⟨fun a ha => ?_, hd.1, hd.2.2⟩
  by_cases g : σ1.1 a = none
  · exact g
  · rcases hd.2.1 a g with q | q
    · exact absurd (h a (Nat.le_trans hd.1 ha)) q
    · omega
theorem QF.lt {σ : qH} {a : Nat} {e : qE} (h : QF σ) (ha : σ.1 a = some e) : a < σ.2.1 := by
  by_cases g : a < σ.2.1
  · exact g
  · have := h a (by omega)
    rw [ha] at this; cases this
