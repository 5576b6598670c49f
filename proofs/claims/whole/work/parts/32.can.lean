/-! ===== who grazed: can, ask ===== -/
def allB (c : Nat → Bool) (i : Nat) : Nat → Bool
  | 0 => true
  | d + 1 => c i && allB c (i + 1) d
theorem allB_s (c : Nat → Bool) : ∀ d i, allB c i (d + 1) = (allB c i d && c (i + d))
  | 0, i => by show (c i && true) = (true && c (i + 0)); simp
  | d + 1, i => by
    have := allB_s c d (i + 1)
    show (c i && allB c (i + 1) (d + 1)) = ((c i && allB c (i + 1) d) && c (i + (d + 1)))
    rw [this, Bool.and_assoc, show i + 1 + d = i + (d + 1) by omega]
def eatS (T : Nat → Nat) (s : Nat) (i : Nat) : Nat := sumN (fun f => if s.testBit f then T (25 + f) else 0) i
def agO (T W : Nat → Nat) (s i : Nat) : Bool := decide (eatS T (s &&& W (2 * i)) (T 1) = W (2 * i + 1))
def agr (T W : Nat → Nat) (no s : Nat) : Bool := allB (agO T W s) 0 no
theorem eatS_le {T : Nat → Nat} (hT : WT T) (s i : Nat) (hi : i ≤ 5) : eatS T s i ≤ 45 := by
  have := sumN_le (g := fun f => if s.testBit f then T (25 + f) else 0) (b := 9) i (fun j hj => by
    have := (hT.2.2.2.1 j (by omega)).2.2.2.1
    show (if s.testBit j then T (25 + j) else 0) ≤ 9
    split <;> omega)
  unfold eatS; omega
theorem c_eatenBy {σ : qH} {p : Nat} {zz : Int32} {T : Nat → Nat} (hp : σ.1 p = some (planC T zz)) (hT : WT T) {s : Nat} (hs : s < 32) :
    q_call 132 [.ref p, .int (nI s)] σ = some (some (.int (nI (eatS T s (T 1)))), σ) := by
  have t1 := hT.2.1
  rw [k_132, e_132_0]
  refine (q_for (fun i => q_run 132 4 [(0, .ref p), (1, .int (nI s)), (2, .int (nI (eatS T s i))), (3, .int (nI i))] [] σ) (T 1) (fun i hi => ?_)).trans ?_
  · try dsimp only
    rw [e_132_4, pl_flocks hp, q_obS, if_neg (nI_ge hi (by omega)), c_has (by omega) (by omega), q_cIS, q_obS]
    dsimp only
    have e : eatS T s (i + 1) = eatS T s i + (if s.testBit i then T (25 + i) else 0) := rfl
    rw [e]
    cases s.testBit i with
    | false => rw [if_pos (show nI (false.toNat) = nI 0 from rfl), e_132_31, nI_add, if_neg (by decide)]; rfl
    | true =>
      rw [if_neg (show ¬ nI (true.toNat) = nI 0 by decide), pl_hungers hp, q_obS, c_lane hT.l.2.2.2.1 (by omega), q_cIS, q_obS]
      dsimp only
      rw [nI_add, e_132_31, nI_add, if_pos rfl]
  · try dsimp only
    rw [e_132_4, pl_flocks hp, q_obS, if_pos (nI_le (Nat.le_refl _) (by omega))]
section GR
variable {σ : qH} {g no : Nat} {W : Nat → Nat} {w : Int64} {a b c : Int32}
theorem gr_sets (h : σ.1 g = some (grC W no w a b c)) : q_getL σ (.ref g) 1 0 = some (lN (pk6 (fun i => W (2 * i)))) := g_L h rfl
theorem gr_sums (h : σ.1 g = some (grC W no w a b c)) : q_getL σ (.ref g) 1 1 = some (lN (pk6 (fun i => W (2 * i + 1)))) := g_L h rfl
theorem gr_with (h : σ.1 g = some (grC W no w a b c)) : q_getL σ (.ref g) 1 2 = some w := g_L h rfl
theorem gr_told (h : σ.1 g = some (grC W no w a b c)) : q_getI σ (.ref g) 1 3 = some (nI no) := g_I h rfl
theorem gr_ways (h : σ.1 g = some (grC W no w a b c)) : q_getI σ (.ref g) 1 4 = some a := g_I h rfl
theorem gr_all (h : σ.1 g = some (grC W no w a b c)) : q_getI σ (.ref g) 1 5 = some b := g_I h rfl
theorem gr_some (h : σ.1 g = some (grC W no w a b c)) : q_getI σ (.ref g) 1 6 = some c := g_I h rfl
theorem grp_with (h : σ.1 g = some (grC W no w a b c)) (y : Int64) : q_put σ (.ref g) 1 2 1 (.long y) = some (q_upd σ g (grC W no y a b c)) := p_F h (show 2 < 7 by decide) rfl
theorem grp_ways (h : σ.1 g = some (grC W no w a b c)) (y : Int32) : q_put σ (.ref g) 1 4 0 (.int y) = some (q_upd σ g (grC W no w y b c)) := p_F h (show 4 < 7 by decide) rfl
theorem grp_all (h : σ.1 g = some (grC W no w a b c)) (y : Int32) : q_put σ (.ref g) 1 5 0 (.int y) = some (q_upd σ g (grC W no w a y c)) := p_F h (show 5 < 7 by decide) rfl
theorem grp_some (h : σ.1 g = some (grC W no w a b c)) (y : Int32) : q_put σ (.ref g) 1 6 0 (.int y) = some (q_upd σ g (grC W no w a b y)) := p_F h (show 6 < 7 by decide) rfl
theorem c_agrees {p : Nat} {zz : Int32} {T : Nat → Nat} (hg : σ.1 g = some (grC W no w a b c)) (hp : σ.1 p = some (planC T zz)) (hT : WT T) (hno : no ≤ 6) (hW : ∀ i, W (2 * i) < 32 ∧ W (2 * i + 1) ≤ 45) {s : Nat} (hs : s < 32) :
    q_call 133 [.ref g, .ref p, .int (nI s)] σ = some (some (.int (nI (agr T W no s).toNat)), σ) := by
  have hl : ∀ d i, i + d = no → q_run 133 2 [(0, .ref g), (1, .ref p), (2, .int (nI s)), (3, .int (nI i))] [] σ = some (some (.int (nI (allB (agO T W s) i d).toNat)), σ) := by
    intro d
    induction d with
    | zero => intro i hi; rw [e_133_2, gr_told hg, q_obS, if_pos (nI_le (by omega) (by omega))]; rfl
    | succ d ih =>
      intro i hi
      have h1 := (hW i).1
      have h2 := (hW i).2
      have ha : s &&& W (2 * i) < 32 := and_lt (n := 5) hs
      have h3 := eatS_le hT (s &&& W (2 * i)) (T 1) hT.2.1
      rw [e_133_2, gr_told hg, q_obS, if_neg (nI_ge (by omega) (by omega)), gr_sets hg, q_obS, c_lane6 (fun i _ => by have := (hW i).1; omega) (by omega), q_cIS, q_obS]
      dsimp only
      rw [nx_and, c_eatenBy hp hT ha, q_cIS, q_obS]
      dsimp only
      rw [gr_sums hg, q_obS, c_lane6 (fun i _ => by have := (hW i).2; omega) (by omega), q_cIS, q_obS]
      dsimp only
      by_cases e : eatS T (s &&& W (2 * i)) (T 1) = W (2 * i + 1)
      · rw [if_pos (by rw [e]), nI_add, ih (i + 1) (by omega)]
        show _ = some (some (Value.int (nI (agO T W s i && allB (agO T W s) (i + 1) d).toNat)), σ)
        rw [show agO T W s i = true from decide_eq_true e, Bool.true_and]
      · rw [if_neg (fun q => e ((nI_eq (by omega) (by omega)).mp q))]
        show _ = some (some (Value.int (nI (agO T W s i && allB (agO T W s) (i + 1) d).toNat)), σ)
        rw [show agO T W s i = false from decide_eq_false e, Bool.false_and]; rfl
  rw [k_133 hg, e_133_0]
  exact hl no 0 (by omega)
end GR
def wayF (T W : Nat → Nat) (no f : Nat) : Nat → Nat := cnt (fun s => agr T W no s && s.testBit f)
def wayN (T W : Nat → Nat) (no : Nat) : Nat → Nat := cnt (agr T W no)
def wayA (T W : Nat → Nat) (no : Nat) : Nat → Nat
  | 0 => 2 ^ T 1 - 1
  | n + 1 => if agr T W no n then wayA T W no n &&& n else wayA T W no n
def wayO (T W : Nat → Nat) (no : Nat) : Nat → Nat
  | 0 => 0
  | n + 1 => if agr T W no n then wayO T W no n ||| n else wayO T W no n
def wayL (T W : Nat → Nat) (no n : Nat) : Nat → Nat := fun f => if f < T 1 then wayF T W no f n else 0
theorem wayF_s (T W : Nat → Nat) (no f n : Nat) : wayF T W no f (n + 1) = wayF T W no f n + (agr T W no n && n.testBit f).toNat := rfl
theorem wayN_s (T W : Nat → Nat) (no n : Nat) : wayN T W no (n + 1) = wayN T W no n + (agr T W no n).toNat := rfl
theorem wayF_le (T W : Nat → Nat) (no f : Nat) : ∀ n, wayF T W no f n ≤ wayN T W no n
  | 0 => Nat.le_refl _
  | n + 1 => by
    have := wayF_le T W no f n
    rw [wayF_s, wayN_s]
    cases agr T W no n <;> cases n.testBit f <;> simp <;> omega
theorem wayA_tb (T W : Nat → Nat) (no f : Nat) : ∀ n, (wayA T W no n).testBit f = (decide (f < T 1) && decide (wayF T W no f n = wayN T W no n))
  | 0 => by
    show (2 ^ T 1 - 1).testBit f = _
    rw [Nat.testBit_two_pow_sub_one]
    show _ = (_ && decide ((0 : Nat) = 0))
    simp
  | n + 1 => by
    have ih := wayA_tb T W no f n
    have hle := wayF_le T W no f n
    show (if agr T W no n then wayA T W no n &&& n else wayA T W no n).testBit f = _
    rw [wayF_s, wayN_s]
    cases agr T W no n with
    | false => simpa using ih
    | true =>
      rw [if_pos rfl, Nat.testBit_and, ih]
      cases n.testBit f with
      | true =>
        have : (wayF T W no f n + 1 = wayN T W no n + 1) ↔ (wayF T W no f n = wayN T W no n) := by omega
        simp
      | false =>
        have : ¬ (wayF T W no f n + 0 = wayN T W no n + 1) := by omega
        simp; intro _; omega
theorem wayO_tb (T W : Nat → Nat) (no f : Nat) : ∀ n, (wayO T W no n).testBit f = decide (0 < wayF T W no f n)
  | 0 => by show (0 : Nat).testBit f = decide (0 < 0); simp
  | n + 1 => by
    have ih := wayO_tb T W no f n
    show (if agr T W no n then wayO T W no n ||| n else wayO T W no n).testBit f = _
    rw [wayF_s]
    cases agr T W no n with
    | false => simpa using ih
    | true =>
      rw [if_pos rfl, Nat.testBit_or, ih]
      cases n.testBit f with
      | true => simp
      | false => simp
