/-! ===== apart: the search without pruning ===== -/
def prR (F : Nat) : Option (Nat → Nat) → Nat
  | none => 6
  | some Q => ones (tk Q F)
def pr (F : Nat) : Option (Nat → Nat) → Nat
  | none => 6 * 2 ^ 15
  | some Q => ones (tk Q F) * 2 ^ 15 + pkS Q
def foldO (J : Nat → Bool) (F : Nat → Option (Nat → Nat) → Option (Nat → Nat)) (b : Option (Nat → Nat)) : Nat → Option (Nat → Nat)
  | 0 => b
  | r + 1 => if J r then F r (foldO J F b r) else foldO J F b r
def trO (T : Nat → Nat) (F : Nat) : Nat → Nat → (Nat → Nat) → Option (Nat → Nat) → Option (Nat → Nat)
  | 0, f, Q, b => if ones (tk Q f) < prR F b then some Q else b
  | d + 1, f, Q, b => foldO (mayJ T Q f) (fun r a => trO T F d (f + 1) (up Q f r) a) b (T 0)
theorem tk_up {Q : Nat → Nat} {f r : Nat} : ∀ n, n ≤ f → tk (up Q f r) n = tk Q n
  | 0, _ => rfl
  | n + 1, h => by
    show tk (up Q f r) n ||| 2 ^ up Q f r n = tk Q n ||| 2 ^ Q n
    rw [tk_up n (by omega), up_n _ _ (by omega)]
theorem cnt_mono {c e : Nat → Bool} : ∀ n, (∀ i, i < n → c i = true → e i = true) → cnt c n ≤ cnt e n
  | 0, _ => Nat.le_refl _
  | n + 1, h => by
    have h1 := cnt_mono n fun i hi => h i (by omega)
    have h2 := h n (by omega)
    show cnt c n + (c n).toNat ≤ cnt e n + (e n).toNat
    cases hc : c n with
    | false => show cnt c n + 0 ≤ _; omega
    | true => rw [h2 hc]; omega
theorem ones_or (a b : Nat) : ones a ≤ ones (a ||| b) := cnt_mono 5 fun i _ h => by rw [Nat.testBit_or, h]; rfl
theorem ones_tk_s (Q : Nat → Nat) (f r : Nat) : ones (tk Q f) ≤ ones (tk (up Q f r) (f + 1)) := by
  show ones (tk Q f) ≤ ones (tk (up Q f r) f ||| 2 ^ up Q f r f)
  rw [tk_up f (Nat.le_refl _)]
  exact ones_or _ _
theorem foldO_id {J : Nat → Bool} {F : Nat → Option (Nat → Nat) → Option (Nat → Nat)} {b : Option (Nat → Nat)} : ∀ n, (∀ r, r < n → F r b = b) → foldO J F b n = b
  | 0, _ => rfl
  | n + 1, h => by
    have := foldO_id (J := J) n fun r hr => h r (by omega)
    unfold foldO
    rw [this, h n (by omega)]
    split <;> rfl
theorem prune {T : Nat → Nat} {F : Nat} : ∀ d f Q b, prR F b ≤ ones (tk Q f) → trO T F d f Q b = b
  | 0, f, Q, b, h => if_neg (by omega)
  | d + 1, f, Q, b, h => foldO_id _ fun r _ => prune d (f + 1) (up Q f r) b (Nat.le_trans h (ones_tk_s Q f r))
/-- what the search may have found: places of rooms that are -/
def okO (b : Option (Nat → Nat)) : Prop := ∀ Q, b = some Q → ∀ g, g < 5 → Q g < 5
theorem pr_div {F : Nat} {b : Option (Nat → Nat)} (hb : okO b) : pr F b / 2 ^ 15 = prR F b := by
  cases b with
  | none => show 6 * 2 ^ 15 / 2 ^ 15 = 6; decide
  | some Q =>
    have := pkS_lt (f := Q) fun g hg => by have := hb Q rfl g hg; omega
    show (ones (tk Q F) * 2 ^ 15 + pkS Q) / 2 ^ 15 = ones (tk Q F)
    omega
theorem trO_ok {T : Nat → Nat} {F : Nat} (t0 : T 0 ≤ 5) : ∀ d f Q b, (∀ g, g < 5 → Q g < 5) → okO b → okO (trO T F d f Q b)
  | 0, f, Q, b, hQ, hb => by
    unfold trO
    split
    · intro Q' e; cases e; exact hQ
    · exact hb
  | d + 1, f, Q, b, hQ, hb => by
    have : ∀ n, n ≤ T 0 → okO (foldO (mayJ T Q f) (fun r a => trO T F d (f + 1) (up Q f r) a) b n) := by
      intro n
      induction n with
      | zero => intro _; exact hb
      | succ n ih =>
        intro hn
        unfold foldO
        split
        · exact trO_ok t0 d (f + 1) (up Q f n) _ (up_lt5 hQ (by omega)) (ih (by omega))
        · exact ih (by omega)
    exact this _ (Nat.le_refl _)
theorem chp_tr {T : Nat → Nat} {F : Nat} (t0 : T 0 ≤ 5) : ∀ d f Q b, f + d = F → (∀ g, g < 5 → Q g < 5) → okO b → chp T d f Q (pr F b) = pr F (trO T F d f Q b)
  | 0, f, Q, b, hf, hQ, hb => by
    have e : f = F := by omega
    subst e
    unfold chp trO
    rw [pr_div hb]
    by_cases g : ones (tk Q f) < prR f b
    · rw [if_pos g, if_pos g]; rfl
    · rw [if_neg g, if_neg g]
  | d + 1, f, Q, b, hf, hQ, hb => by
    rw [chp_s, pr_div hb]
    by_cases g : ones (tk Q f) < prR F b
    · rw [if_pos g]
      have : ∀ n, n ≤ T 0 → okO (foldO (mayJ T Q f) (fun r a => trO T F d (f + 1) (up Q f r) a) b n) ∧ foldR (mayJ T Q f) (fun r a => chp T d (f + 1) (up Q f r) a) (pr F b) n = pr F (foldO (mayJ T Q f) (fun r a => trO T F d (f + 1) (up Q f r) a) b n) := by
        intro n
        induction n with
        | zero => intro _; exact ⟨hb, rfl⟩
        | succ n ih =>
          intro hn
          obtain ⟨i1, i2⟩ := ih (by omega)
          unfold foldO foldR
          rw [i2]
          by_cases gj : mayJ T Q f n = true
          · rw [if_pos gj, if_pos gj]
            exact ⟨trO_ok t0 d (f + 1) (up Q f n) _ (up_lt5 hQ (by omega)) i1, chp_tr t0 d (f + 1) (up Q f n) _ (by omega) (up_lt5 hQ (by omega)) i1⟩
          · rw [if_neg gj, if_neg gj]; exact ⟨i1, rfl⟩
      exact (this _ (Nat.le_refl _)).2
    · rw [if_neg g, prune (d + 1) f Q b (by omega)]
