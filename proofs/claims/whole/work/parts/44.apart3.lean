/-! ===== apart: the class's answer ===== -/
theorem c_spotP {f : Nat → Nat} (hf : ∀ i, i < 5 → f i < 8) {a i : Nat} (ha : a ≤ 5) (hi : i < 5) (σ : qH) : q_call 49 [.int (nI (a * 2 ^ 15 + pkS f)), .int (nI i)] σ = some (some (.int (nI (f i))), σ) := by
  have hlt := pkS_lt hf
  rw [k_49, e_49_0]
  have h0 := hf 0 (by decide); have h1 := hf 1 (by decide); have h2 := hf 2 (by decide); have h3 := hf 3 (by decide); have h4 := hf 4 (by decide)
  rw [pk_sub (by omega), pk_mul, n_shr (by omega) (by omega), n_and7]
  have e : (a * 2 ^ 15 + pkS f) / 2 ^ (3 * (4 - i)) % 8 = f i := by
    unfold pkS at hlt ⊢
    rcases i5 hi with rfl | rfl | rfl | rfl | rfl <;> simp only [Nat.sub_zero, Nat.reduceSub, Nat.reduceMul, Nat.reducePow] <;> omega
  rw [e]
/-- what apart answers -/
def aptV (F : Nat) (f : Int32) (B : Option (Nat → Nat)) : Int32 := match B with
  | none => -9
  | some Q => if f = -1 then nI (ones (tk Q F)) else nI (Q f.toNatClampNeg)
def aptB (T : Nat → Nat) : Option (Nat → Nat) := trO T (T 1) (T 1) 0 (fun _ => 0) none
theorem okB {T : Nat → Nat} (t0 : T 0 ≤ 5) : okO (aptB T) := trO_ok t0 _ _ _ _ (fun _ _ => by show 0 < 5; decide) (fun Q e => by cases e)
theorem c_apart18 {σ : qH} {x p n kp : Nat} {tr : Int64} {zz : Int32} {T : Nat → Nat} (h0 : σ.1 x = some (xC x p n kp tr)) (hp : σ.1 p = some (planC T zz)) (hT : WT T) {f : Int32} (hf : f = -1 ∨ ∃ j, j < T 1 ∧ f = nI j) :
    q_run 121 18 [(0, .ref x), (1, .int f)] [] σ = some (some (.int (aptV (T 1) f (aptB T))), σ) := by
  have t0 := hT.1
  have t1 := hT.2.1
  have hok := okB (T := T) t0
  have hc := ch_120 hp hT (d := T 1) (by omega) (Q := fun _ => 0) (fun _ _ => by show 0 < 5; decide) (b := 6 * 2 ^ 15) (by decide)
  rw [show chp T (T 1) 0 (fun _ => 0) (6 * 2 ^ 15) = pr (T 1) (aptB T) from chp_tr (F := T 1) t0 (T 1) 0 (fun _ => 0) none (by omega) (fun _ _ => by show 0 < 5; decide) (fun Q e => by cases e), show nI (pkS fun _ => 0) = nI 0 from rfl, show nI (6 * 2 ^ 15) = nI 196608 from rfl] at hc
  rw [e_121_18, x_plan h0, q_obS, hc, q_cIS, q_obS]
  dsimp only
  cases hB : aptB T with
  | none => rw [if_pos (show nI (pr (T 1) none) = nI 196608 from rfl)]; rfl
  | some Q =>
    have hQ := hok Q hB
    have hlt := pkS_lt (f := Q) fun g hg => by have := hQ g hg; omega
    have h1 := ones_le (tk Q (T 1))
    show (if nI (ones (tk Q (T 1)) * 2 ^ 15 + pkS Q) = nI 196608 then _ else _) = _
    rw [if_neg (fun q => absurd ((nI_eq (by omega) (by decide)).mp q) (by omega))]
    by_cases g : f = -1
    · rw [if_pos g]
      show some (some (Value.int (nI (ones (tk Q (T 1)) * 2 ^ 15 + pkS Q) >>> (nI 15 &&& 31))), σ) = _
      rw [n_shr (by decide) (by omega), show (ones (tk Q (T 1)) * 2 ^ 15 + pkS Q) / 2 ^ 15 = ones (tk Q (T 1)) by omega]
      unfold aptV
      dsimp only
      rw [if_pos g]
    · obtain ⟨j, hj, rfl⟩ := hf.resolve_left g
      rw [if_neg g]
      show q_ob (q_cI (q_call 49 [.int (nI (ones (tk Q (T 1)) * 2 ^ 15 + pkS Q)), .int (nI j)] σ)) none _ = _
      rw [c_spotP (fun g hg => by have := hQ g hg; omega) h1 (by omega), q_cIS, q_obS]
      unfold aptV
      dsimp only
      rw [if_neg g, nI_clamp (by omega)]
