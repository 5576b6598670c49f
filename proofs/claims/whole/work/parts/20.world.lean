/-! ===== the two objects' memory, as rows of cells: C (the class, 24 cells from x on; cell 2 is the plan, wherever it lies), D (the reference, 12 cells from x + 24 on) ===== -/
def upC (C : Nat → qE) (k : Nat) (e : qE) : Nat → qE := fun j => if j = k then e else C j
def XC (σ : qH) (x p : Nat) (C : Nat → qE) : Prop := (∀ k, k < 24 → k ≠ 2 → σ.1 (x + k) = some (C k)) ∧ σ.1 p = some (C 2) ∧ (p = x + 2 ∨ x + 36 ≤ p)
def MC (σ : qH) (x : Nat) (D : Nat → qE) : Prop := ∀ k, k < 12 → σ.1 (x + 24 + k) = some (D k)
theorem XC.at {σ : qH} {x p : Nat} {C : Nat → qE} (h : XC σ x p C) (k : Nat) (hk : k < 24) (h2 : k ≠ 2) : σ.1 (x + k) = some (C k) := h.1 k hk h2
theorem XC.upd {σ : qH} {x p : Nat} {C : Nat → qE} (h : XC σ x p C) {k : Nat} (hk : k < 24) (h2 : k ≠ 2) (e : qE) : XC (q_upd σ (x + k) e) x p (upC C k e) := by
  obtain ⟨h1, hp, ho⟩ := h
  refine ⟨fun j hj hj2 => ?_, ?_, ho⟩
  · by_cases e1 : j = k
    · subst e1
      rw [u_s]; simp [upC]
    · rw [u_n _ _ (by omega), h1 j hj hj2]; simp [upC, e1]
  · rw [u_n _ _ (by omega), hp]
    simp [upC, show (2 : Nat) ≠ k from fun q => h2 q.symm]
theorem XC.m {σ : qH} {x p : Nat} {C : Nat → qE} (h : XC σ x p C) {k : Nat} (hk : k < 12) (e : qE) : XC (q_upd σ (x + 24 + k) e) x p C := by
  obtain ⟨h1, hp, ho⟩ := h
  refine ⟨fun j hj hj2 => ?_, ?_, ho⟩
  · rw [u_n _ _ (by omega)]; exact h1 j hj hj2
  · rw [u_n _ _ (by omega)]; exact hp
theorem MC.upd {σ : qH} {x : Nat} {D : Nat → qE} (h : MC σ x D) {k : Nat} (e : qE) : MC (q_upd σ (x + 24 + k) e) x (upC D k e) := by
  intro j hj
  by_cases e1 : j = k
  · subst e1
    rw [u_s]; simp [upC]
  · rw [u_n _ _ (by omega), h j hj]; simp [upC, e1]
theorem MC.x {σ : qH} {x : Nat} {D : Nat → qE} (h : MC σ x D) {k : Nat} (hk : k < 24) (e : qE) : MC (q_upd σ (x + k) e) x D := by
  intro j hj
  rw [u_n _ _ (by omega)]; exact h j hj
def pk6 (f : Nat → Nat) : Nat := f 0 + 256 * f 1 + 65536 * f 2 + 16777216 * f 3 + 4294967296 * f 4 + 1099511627776 * f 5
def xC (x p : Nat) (n kp : Nat) (tr : Int64) : qE := .inl (6, [.ref (x + 1), .int (nI n), .ref p, .ref (x + 3), .ref (x + 4), .ref (x + 5), .ref (x + 17), .int (nI kp), .ref (x + 18), .ref (x + 19), .long tr])
def evX (e : qE) : Prop := ∃ a b c d g k, e = evR a b c d g k
def refs (n b : Nat) : qE := .inr (4, (n, .inr (.inr (.inr (.inr (fun j => if j < n then some (b + j) else none))))))
def paC (x nx kn : Nat) : qE := .inl (2, [.ref (x + 6), .int (nI nx), .int (nI kn)])
def grC (W : Nat → Nat) (no : Nat) (w : Int64) (a b c : Int32) : qE := .inl (1, [.long (lN (pk6 (fun i => W (2 * i)))), .long (lN (pk6 (fun i => W (2 * i + 1)))), .long w, .int (nI no), .int a, .int b, .int c])
def wbC (x : Nat) (e f g : Int32) : qE := .inl (5, [.ref (x + 20), .ref (x + 21), .int e, .int f, .int g])
def iF (n : Nat) (f : Nat → Int32) : qE := .inr (1, (n, .inl f))
def lF (n : Nat) (f : Nat → Int64) : qE := .inr (2, (n, .inr (.inl f)))
/-- the state that both objects hold: text, letters, told, now, past, how many, images, which kept, notes, how many -/
def XS (C : Nat → qE) (x p : Nat) (tx : Nat → Nat) (n : Nat) (T P : Nat → Nat) (Hs : Nat → Nat → Nat) (kn : Nat) (I : Nat → Nat → Nat) (kp : Nat → Bool) (W : Nat → Nat) (no : Nat) (tr : Int64) : Prop :=
  C 0 = xC x p n (bits kp 2) tr ∧ C 1 = .inr (0, (120, .inl (fun j => nI (tx j)))) ∧ (∃ z, C 2 = planC T z) ∧ C 3 = evC P ∧ evX (C 4) ∧
  (∃ nx, nx < 10 ∧ C 5 = paC x nx kn ∧ ∀ i, i < kn → C (7 + (nx + 10 - kn + i) % 10) = evC (Hs i)) ∧ C 6 = refs 10 (x + 7) ∧ (∀ j, j < 10 → evX (C (7 + j))) ∧
  C 17 = refs 2 (x + 22) ∧ (∃ w a b c, C 18 = grC W no w a b c) ∧ (∃ e f g, C 19 = wbC x e f g) ∧ (∃ f, C 20 = iF 3125 f) ∧ (∃ f, C 21 = lF 512 f) ∧ (∀ i, i < 2 → evX (C (22 + i))) ∧ (∀ i, i < 2 → kp i = true → C (22 + i) = evC (I i))
def MS (D : Nat → qE) (x : Nat) (tx : Nat → Nat) (n : Nat) (T P : Nat → Nat) (Hs : Nat → Nat → Nat) (kn : Nat) (I : Nat → Nat → Nat) (kp : Nat → Bool) (W : Nat → Nat) (no : Nat) (tr : Int64) : Prop :=
  (∃ z : Nat → Int32, D 0 = mC (x + 24) tr z ∧ z 0 = nI n ∧ z 1 = nI kn ∧ z 2 = nI no) ∧ D 1 = iA 120 tx ∧ D 2 = iA 35 T ∧ (∃ f, D 3 = iF 35 f) ∧ D 4 = iA 22 P ∧ (∃ f, D 5 = iF 220 f ∧ ∀ i, i < kn → ∀ k, k < 22 → f (22 * i + k) = nI (Hs i k)) ∧
  (∃ f, D 6 = iF 44 f ∧ ∀ i, i < 2 → kp i = true → ∀ k, k < 22 → f (22 * i + k) = nI (I i k)) ∧ D 7 = .inr (3, (2, .inl (fun j => nI (kp j).toNat))) ∧ D 8 = iA 12 W ∧ (∃ f, D 9 = iF 22 f) ∧ (∃ f, D 10 = lF 49 f) ∧ (∃ f, D 11 = lF 49 f)
def QI (tx : Nat → Nat) (n : Nat) (T P : Nat → Nat) (Hs : Nat → Nat → Nat) (kn : Nat) (I : Nat → Nat → Nat) (kp : Nat → Bool) (W : Nat → Nat) (no : Nat) : Prop :=
  n ≤ 120 ∧ (∀ j, tx j < 256) ∧ WT T ∧ WP T P ∧ kn ≤ 10 ∧ (∀ i, i < kn → WP T (Hs i)) ∧ (∀ i, i < 2 → kp i = true → WP T (I i)) ∧ no ≤ 6 ∧ (∀ i, W (2 * i) < 32 ∧ W (2 * i + 1) ≤ 45)
/-- both objects hold one state -/
def QW (σ : qH) (x p : Nat) (tx : Nat → Nat) (n : Nat) (T P : Nat → Nat) (Hs : Nat → Nat → Nat) (kn : Nat) (I : Nat → Nat → Nat) (kp : Nat → Bool) (W : Nat → Nat) (no : Nat) (tr : Int64) : Prop :=
  ∃ C D, XC σ x p C ∧ MC σ x D ∧ XS C x p tx n T P Hs kn I kp W no tr ∧ MS D x tx n T P Hs kn I kp W no tr ∧ QI tx n T P Hs kn I kp W no
/-- the law's step: what the two objects answer to one call is one number, and they hold one state again -/
def QA (σ : qH) (x : Nat) (kX kM : Nat) (as : List Value) (v : Value) (σ' : qH) : Prop := ∃ σ1, q_call kX (.ref x :: as) σ = some (some v, σ1) ∧ q_call kM (.ref (x + 24) :: as) σ1 = some (some v, σ')
-- reads of the class's object
section RX
variable {σ : qH} {x p n kp : Nat} {tr : Int64}
theorem x_text (h : σ.1 x = some (xC x p n kp tr)) : q_getR σ (.ref x) 6 0 = some (x + 1) := g_R h rfl
theorem x_letters (h : σ.1 x = some (xC x p n kp tr)) : q_getI σ (.ref x) 6 1 = some (nI n) := g_I h rfl
theorem x_plan (h : σ.1 x = some (xC x p n kp tr)) : q_getR σ (.ref x) 6 2 = some p := g_R h rfl
theorem x_evening (h : σ.1 x = some (xC x p n kp tr)) : q_getR σ (.ref x) 6 3 = some (x + 3) := g_R h rfl
theorem x_trial (h : σ.1 x = some (xC x p n kp tr)) : q_getR σ (.ref x) 6 4 = some (x + 4) := g_R h rfl
theorem x_past (h : σ.1 x = some (xC x p n kp tr)) : q_getR σ (.ref x) 6 5 = some (x + 5) := g_R h rfl
theorem x_images (h : σ.1 x = some (xC x p n kp tr)) : q_getR σ (.ref x) 6 6 = some (x + 17) := g_R h rfl
theorem x_kept (h : σ.1 x = some (xC x p n kp tr)) : q_getI σ (.ref x) 6 7 = some (nI kp) := g_I h rfl
theorem x_grazing (h : σ.1 x = some (xC x p n kp tr)) : q_getR σ (.ref x) 6 8 = some (x + 18) := g_R h rfl
theorem x_wayBack (h : σ.1 x = some (xC x p n kp tr)) : q_getR σ (.ref x) 6 9 = some (x + 19) := g_R h rfl
theorem x_traced (h : σ.1 x = some (xC x p n kp tr)) : q_getL σ (.ref x) 6 10 = some tr := g_L h rfl
theorem xp_letters (h : σ.1 x = some (xC x p n kp tr)) (y : Nat) : q_put σ (.ref x) 6 1 0 (.int (nI y)) = some (q_upd σ x (xC x p y kp tr)) := p_F h (show 1 < 11 by decide) rfl
theorem xp_kept (h : σ.1 x = some (xC x p n kp tr)) (y : Nat) : q_put σ (.ref x) 6 7 0 (.int (nI y)) = some (q_upd σ x (xC x p n y tr)) := p_F h (show 7 < 11 by decide) rfl
theorem xp_traced (h : σ.1 x = some (xC x p n kp tr)) (y : Int64) : q_put σ (.ref x) 6 10 1 (.long y) = some (q_upd σ x (xC x p n kp y)) := p_F h (show 10 < 11 by decide) rfl
theorem xp_plan (h : σ.1 x = some (xC x p n kp tr)) (y : Nat) : q_put σ (.ref x) 6 2 2 (.ref y) = some (q_upd σ x (xC x y n kp tr)) := p_F h (show 2 < 11 by decide) rfl
end RX
theorem u_0 (σ : qH) (x : Nat) (e : qE) : q_upd σ x e = q_upd σ (x + 0) e := rfl
theorem u_24 (σ : qH) (x : Nat) (e : qE) : q_upd σ (x + 24) e = q_upd σ (x + 24 + 0) e := rfl
