/-! ===== apart: rooms taken, who may join, the cheapest way ===== -/
def tk (Q : Nat → Nat) : Nat → Nat
  | 0 => 0
  | g + 1 => tk Q g ||| 2 ^ Q g
theorem tk_lt {Q : Nat → Nat} {n : Nat} : ∀ f, (∀ g, g < f → Q g < n) → tk Q f < 2 ^ n
  | 0, _ => Nat.two_pow_pos n
  | f + 1, h => Nat.or_lt_two_pow (tk_lt f fun g hg => h g (by omega)) (Nat.pow_lt_pow_right (by decide) (h f (by omega)))
theorem c_roomsTaken {Q : Nat → Nat} (hQ : ∀ g, g < 5 → Q g < 5) {f : Nat} (hf : f ≤ 5) {p : Nat} {σ : qH} {zz : Int32} {T : Nat → Nat} (hp : σ.1 p = some (planC T zz)) : q_call 113 [.ref p, .int (nI (pkS Q)), .int (nI f)] σ = some (some (.int (nI (ones (tk Q f)))), σ) := by
  have ht : ∀ i, i ≤ 5 → tk Q i < 32 := fun i hi => tk_lt (n := 5) i fun g hg => hQ g (by omega)
  rw [k_113 hp, e_113_0]
  refine (q_for (fun i => q_run 113 5 [(1, .int (nI (pkS Q))), (2, .int (nI f)), (3, .int (nI (tk Q i))), (4, .int (nI i))] [] σ) f (fun i hi => ?_)).trans ?_
  · try dsimp only
    have hq := hQ i (by omega)
    rw [e_113_5, if_neg (nI_ge hi (by omega)), c_spot (fun g hg => by have := hQ g hg; omega) (by omega), q_cIS, q_obS]
    dsimp only
    rw [n_shl1 (by omega), n_or, nI_add]
    rfl
  · try dsimp only
    rw [e_113_5, if_pos (nI_le (Nat.le_refl _) (by omega)), c_bitCount (ht f hf), q_cIS, q_obS]
def load (Q : Nat → Nat) (f r : Nat) : Nat := cnt (fun g => Q g == r) f
def stuf (T Q : Nat → Nat) (f r : Nat) (g : Nat) : Bool := !(Q g == r) || T (30 + g) == T (30 + f)
def mayJ (T Q : Nat → Nat) (f r : Nat) : Bool := allB (stuf T Q f r) 0 f && decide (load Q f r < T (5 + r))
theorem c_mayJoin {σ : qH} {p : Nat} {zz : Int32} {T Q : Nat → Nat} (hp : σ.1 p = some (planC T zz)) (hT : WT T) (hQ : ∀ g, g < 5 → Q g < 5) {f r : Nat} (hf : f < 5) (hr : r < 5) :
    q_call 114 [.ref p, .int (nI (pkS Q)), .int (nI f), .int (nI r)] σ = some (some (.int (nI (mayJ T Q f r).toNat)), σ) := by
  have hl : ∀ d i, i + d = f → q_run 114 6 [(0, .ref p), (1, .int (nI (pkS Q))), (2, .int (nI f)), (3, .int (nI r)), (4, .int (nI (load Q i r))), (5, .int (nI i))] [] σ = some (some (.int (nI (allB (stuf T Q f r) i d && decide (load Q f r < T (5 + r))).toNat)), σ) := by
    intro d
    induction d with
    | zero =>
      intro i hi
      have e : i = f := by omega
      subst e
      have h5 := (hT.2.2.2.1 r hr).1
      have hld : load Q i r ≤ i := cnt_le _ _
      rw [e_114_6, if_pos (nI_le (Nat.le_refl _) (by omega)), pl_holds hp, q_obS, c_lane hT.l.1 hr, q_cIS, q_obS]
      dsimp only
      show _ = some (some (Value.int (nI (true && decide (load Q i r < T (5 + r))).toNat)), σ)
      rw [Bool.true_and]
      by_cases g : load Q i r < T (5 + r)
      · rw [if_neg (nI_ge g (by omega)), decide_eq_true g]; rfl
      · rw [if_pos (nI_le (by omega) (by omega)), decide_eq_false g]; rfl
    | succ d ih =>
      intro i hi
      have hq := hQ i (by omega)
      have hs1 := hT.l.2.2.2.2.1 i (by omega)
      have hs2 := hT.l.2.2.2.2.1 f (by omega)
      have el : load Q (i + 1) r = load Q i r + (Q i == r).toNat := rfl
      rw [e_114_6, if_neg (nI_ge (by omega) (by omega)), c_spot (fun g hg => by have := hQ g hg; omega) (by omega), q_cIS, q_obS]
      dsimp only
      show _ = some (some (Value.int (nI ((stuf T Q f r i && allB (stuf T Q f r) (i + 1) d) && decide (load Q f r < T (5 + r))).toNat)), σ)
      by_cases e : Q i = r
      · have eb : (Q i == r) = true := by simpa using e
        rw [if_pos (by rw [e]), pl_stuffs hp, q_obS, c_lane hT.l.2.2.2.2.1 (by omega), q_cIS, q_obS]
        dsimp only
        rw [pl_stuffs hp, q_obS, c_lane hT.l.2.2.2.2.1 (by omega), q_cIS, q_obS]
        dsimp only
        by_cases e2 : T (30 + i) = T (30 + f)
        · have hst : stuf T Q f r i = true := by unfold stuf; rw [eb, e2]; simp
          have := ih (i + 1) (by omega)
          rw [el, eb] at this
          rw [if_pos (by rw [e2]), e_114_47, nI_add, nI_add, hst, Bool.true_and]
          exact this
        · have hst : stuf T Q f r i = false := by unfold stuf; rw [eb]; simpa using e2
          rw [if_neg (fun q => e2 ((nI_eq (by omega) (by omega)).mp q)), hst, Bool.false_and, Bool.false_and]; rfl
      · have eb : (Q i == r) = false := by simpa using e
        have hst : stuf T Q f r i = true := by unfold stuf; rw [eb]; rfl
        have := ih (i + 1) (by omega)
        rw [el, eb] at this
        rw [if_neg (fun q => e ((nI_eq (by omega) (by omega)).mp q)), e_114_47, nI_add, hst, Bool.true_and]
        exact this
  rw [k_114 hp, e_114_0]
  exact hl f 0 (by omega)

/-- a fold over the rooms -/
def foldR (J : Nat → Bool) (F : Nat → Nat → Nat) (b : Nat) : Nat → Nat
  | 0 => b
  | r + 1 => if J r then F r (foldR J F b r) else foldR J F b r
def chp (T : Nat → Nat) : Nat → Nat → (Nat → Nat) → Nat → Nat
  | 0, f, Q, b => if ones (tk Q f) < b / 2 ^ 15 then ones (tk Q f) * 2 ^ 15 + pkS Q else b
  | d + 1, f, Q, b => if ones (tk Q f) < b / 2 ^ 15 then foldR (mayJ T Q f) (fun r a => chp T d (f + 1) (up Q f r) a) b (T 0) else b
theorem chp_s (T : Nat → Nat) (d f : Nat) (Q : Nat → Nat) (b : Nat) : chp T (d + 1) f Q b = if ones (tk Q f) < b / 2 ^ 15 then foldR (mayJ T Q f) (fun r a => chp T d (f + 1) (up Q f r) a) b (T 0) else b := rfl
theorem foldR_lt {J : Nat → Bool} {F : Nat → Nat → Nat} {b N : Nat} (hb : b < N) : ∀ n, (∀ r a, r < n → a < N → F r a < N) → foldR J F b n < N
  | 0, _ => hb
  | n + 1, h => by
    have := foldR_lt (J := J) hb n fun r a hr ha => h r a (by omega) ha
    unfold foldR
    split
    · exact h n _ (by omega) this
    · exact this
theorem up_lt5 {Q : Nat → Nat} {f r : Nat} (hQ : ∀ g, g < 5 → Q g < 5) (hr : r < 5) : ∀ g, g < 5 → up Q f r g < 5 := fun g hg => by
  unfold up; split
  · exact hr
  · exact hQ g hg
theorem chp_lt {T : Nat → Nat} (t0 : T 0 ≤ 5) : ∀ d f Q b, (∀ g, g < 5 → Q g < 5) → b < 7 * 2 ^ 15 → chp T d f Q b < 7 * 2 ^ 15
  | 0, f, Q, b, hQ, hb => by
    have h1 := ones_le (tk Q f)
    have h2 := pkS_lt (f := Q) fun g hg => by have := hQ g hg; omega
    unfold chp
    split <;> omega
  | d + 1, f, Q, b, hQ, hb => by
    unfold chp
    split
    · exact foldR_lt hb _ fun r a hr ha => chp_lt t0 d (f + 1) (up Q f r) a (up_lt5 hQ (by omega)) ha
    · exact hb
theorem price_or {a b : Nat} (hb : b < 2 ^ 15) : a * 2 ^ 15 ||| b = a * 2 ^ 15 + b := by
  rw [Nat.mul_comm, ← Nat.two_pow_add_eq_or_of_lt hb]

theorem ch_115 {σ : qH} {p : Nat} {zz : Int32} {T : Nat → Nat} (hp : σ.1 p = some (planC T zz)) (hT : WT T) {d : Nat} (hd : 5 + d = T 1) {Q : Nat → Nat} (hQ : ∀ g, g < 5 → Q g < 5) {b : Nat} (hb : b < 7 * 2 ^ 15) :
    q_call 115 [.ref p, .int (nI 5), .int (nI (pkS Q)), .int (nI b)] σ = some (some (.int (nI (chp T d 5 Q b))), σ) := by
  have t1 := hT.2.1
  have t0 := hT.1
  have h1 := ones_le (tk Q 5)
  have h2 := pkS_lt (f := Q) fun g hg => by have := hQ g hg; omega
  have hdv : b / 2 ^ 15 < 7 := by omega
  rw [k_115, e_115_0, c_roomsTaken hQ (by decide) hp, q_cIS, q_obS]
  dsimp only
  rw [n_shr (by decide) (by omega)]
  by_cases g : ones (tk Q 5) < b / 2 ^ 15
  · rw [if_pos (nI_lt g (by omega)), pl_flocks hp, q_obS]
    cases d with
    | zero =>
      rw [if_neg (fun q => absurd ((nI_ltI (by decide) (by omega)).mp q) (by omega)), n_shl (by decide) (by omega), n_or, price_or h2]
      unfold chp
      rw [if_pos g]
    | succ d => omega
  · rw [if_neg (fun q => g ((nI_ltI (by omega) (by omega)).mp q))]
    cases d with
    | zero => unfold chp; rw [if_neg g]
    | succ d => rw [chp_s, if_neg g]
theorem ch_116 {σ : qH} {p : Nat} {zz : Int32} {T : Nat → Nat} (hp : σ.1 p = some (planC T zz)) (hT : WT T) {d : Nat} (hd : 4 + d = T 1) {Q : Nat → Nat} (hQ : ∀ g, g < 5 → Q g < 5) {b : Nat} (hb : b < 7 * 2 ^ 15) :
    q_call 116 [.ref p, .int (nI 4), .int (nI (pkS Q)), .int (nI b)] σ = some (some (.int (nI (chp T d 4 Q b))), σ) := by
  have t1 := hT.2.1
  have t0 := hT.1
  have h1 := ones_le (tk Q 4)
  have h2 := pkS_lt (f := Q) fun g hg => by have := hQ g hg; omega
  have hdv : b / 2 ^ 15 < 7 := by omega
  rw [k_116, e_116_0, c_roomsTaken hQ (by decide) hp, q_cIS, q_obS]
  dsimp only
  rw [n_shr (by decide) (by omega)]
  by_cases g : ones (tk Q 4) < b / 2 ^ 15
  · rw [if_pos (nI_lt g (by omega)), pl_flocks hp, q_obS]
    cases d with
    | zero =>
      rw [if_neg (fun q => absurd ((nI_ltI (by decide) (by omega)).mp q) (by omega)), n_shl (by decide) (by omega), n_or, price_or h2]
      unfold chp
      rw [if_pos g]
    | succ d =>
      rw [if_pos (nI_lt (show 4 < T 1 by omega) (by omega))]
      have hv : ∀ i, i ≤ T 0 → foldR (mayJ T Q 4) (fun r a => chp T d (4 + 1) (up Q 4 r) a) b i < 7 * 2 ^ 15 := fun i hi => foldR_lt hb _ fun r a hr ha => chp_lt t0 d (4 + 1) (up Q 4 r) a (up_lt5 hQ (by omega)) ha
      refine (q_for (fun i => q_run 116 41 [(0, .ref p), (1, .int (nI 4)), (2, .int (nI (pkS Q))), (5, .int (nI (foldR (mayJ T Q 4) (fun r a => chp T d (4 + 1) (up Q 4 r) a) b i))), (6, .int (nI i))] [] σ) (T 0) (fun i hi => ?_)).trans ?_
      · try dsimp only
        rw [e_116_41, pl_rooms hp, q_obS, if_neg (nI_ge hi (by omega)), c_mayJoin hp hT hQ (by decide) (by omega), q_cIS, q_obS]
        dsimp only
        have e : foldR (mayJ T Q 4) (fun r a => chp T d (4 + 1) (up Q 4 r) a) b (i + 1) = if mayJ T Q 4 i then chp T d (4 + 1) (up Q 4 i) (foldR (mayJ T Q 4) (fun r a => chp T d (4 + 1) (up Q 4 r) a) b i) else foldR (mayJ T Q 4) (fun r a => chp T d (4 + 1) (up Q 4 r) a) b i := rfl
        rw [e]
        cases mayJ T Q 4 i with
        | false => rw [if_pos (show nI (false.toNat) = nI 0 from rfl), e_116_79, nI_add, if_neg (by decide)]
        | true =>
          rw [if_neg (show ¬ nI (true.toNat) = nI 0 by decide), c_withSpot (fun g hg => by have := hQ g hg; omega) (by decide) (by omega), q_cIS, q_obS]
          dsimp only
          rw [nI_add, ch_115 hp hT (d := d) (by omega) (up_lt5 hQ (by omega)) (hv i (by omega)), q_cIS, q_obS]
          dsimp only
          rw [e_116_79, nI_add, if_pos rfl]
      · try dsimp only
        rw [e_116_41, pl_rooms hp, q_obS, if_pos (nI_le (Nat.le_refl _) (by omega)), chp_s, if_pos g]
  · rw [if_neg (fun q => g ((nI_ltI (by omega) (by omega)).mp q))]
    cases d with
    | zero => unfold chp; rw [if_neg g]
    | succ d => rw [chp_s, if_neg g]
theorem ch_117 {σ : qH} {p : Nat} {zz : Int32} {T : Nat → Nat} (hp : σ.1 p = some (planC T zz)) (hT : WT T) {d : Nat} (hd : 3 + d = T 1) {Q : Nat → Nat} (hQ : ∀ g, g < 5 → Q g < 5) {b : Nat} (hb : b < 7 * 2 ^ 15) :
    q_call 117 [.ref p, .int (nI 3), .int (nI (pkS Q)), .int (nI b)] σ = some (some (.int (nI (chp T d 3 Q b))), σ) := by
  have t1 := hT.2.1
  have t0 := hT.1
  have h1 := ones_le (tk Q 3)
  have h2 := pkS_lt (f := Q) fun g hg => by have := hQ g hg; omega
  have hdv : b / 2 ^ 15 < 7 := by omega
  rw [k_117, e_117_0, c_roomsTaken hQ (by decide) hp, q_cIS, q_obS]
  dsimp only
  rw [n_shr (by decide) (by omega)]
  by_cases g : ones (tk Q 3) < b / 2 ^ 15
  · rw [if_pos (nI_lt g (by omega)), pl_flocks hp, q_obS]
    cases d with
    | zero =>
      rw [if_neg (fun q => absurd ((nI_ltI (by decide) (by omega)).mp q) (by omega)), n_shl (by decide) (by omega), n_or, price_or h2]
      unfold chp
      rw [if_pos g]
    | succ d =>
      rw [if_pos (nI_lt (show 3 < T 1 by omega) (by omega))]
      have hv : ∀ i, i ≤ T 0 → foldR (mayJ T Q 3) (fun r a => chp T d (3 + 1) (up Q 3 r) a) b i < 7 * 2 ^ 15 := fun i hi => foldR_lt hb _ fun r a hr ha => chp_lt t0 d (3 + 1) (up Q 3 r) a (up_lt5 hQ (by omega)) ha
      refine (q_for (fun i => q_run 117 41 [(0, .ref p), (1, .int (nI 3)), (2, .int (nI (pkS Q))), (5, .int (nI (foldR (mayJ T Q 3) (fun r a => chp T d (3 + 1) (up Q 3 r) a) b i))), (6, .int (nI i))] [] σ) (T 0) (fun i hi => ?_)).trans ?_
      · try dsimp only
        rw [e_117_41, pl_rooms hp, q_obS, if_neg (nI_ge hi (by omega)), c_mayJoin hp hT hQ (by decide) (by omega), q_cIS, q_obS]
        dsimp only
        have e : foldR (mayJ T Q 3) (fun r a => chp T d (3 + 1) (up Q 3 r) a) b (i + 1) = if mayJ T Q 3 i then chp T d (3 + 1) (up Q 3 i) (foldR (mayJ T Q 3) (fun r a => chp T d (3 + 1) (up Q 3 r) a) b i) else foldR (mayJ T Q 3) (fun r a => chp T d (3 + 1) (up Q 3 r) a) b i := rfl
        rw [e]
        cases mayJ T Q 3 i with
        | false => rw [if_pos (show nI (false.toNat) = nI 0 from rfl), e_117_79, nI_add, if_neg (by decide)]
        | true =>
          rw [if_neg (show ¬ nI (true.toNat) = nI 0 by decide), c_withSpot (fun g hg => by have := hQ g hg; omega) (by decide) (by omega), q_cIS, q_obS]
          dsimp only
          rw [nI_add, ch_116 hp hT (d := d) (by omega) (up_lt5 hQ (by omega)) (hv i (by omega)), q_cIS, q_obS]
          dsimp only
          rw [e_117_79, nI_add, if_pos rfl]
      · try dsimp only
        rw [e_117_41, pl_rooms hp, q_obS, if_pos (nI_le (Nat.le_refl _) (by omega)), chp_s, if_pos g]
  · rw [if_neg (fun q => g ((nI_ltI (by omega) (by omega)).mp q))]
    cases d with
    | zero => unfold chp; rw [if_neg g]
    | succ d => rw [chp_s, if_neg g]
theorem ch_118 {σ : qH} {p : Nat} {zz : Int32} {T : Nat → Nat} (hp : σ.1 p = some (planC T zz)) (hT : WT T) {d : Nat} (hd : 2 + d = T 1) {Q : Nat → Nat} (hQ : ∀ g, g < 5 → Q g < 5) {b : Nat} (hb : b < 7 * 2 ^ 15) :
    q_call 118 [.ref p, .int (nI 2), .int (nI (pkS Q)), .int (nI b)] σ = some (some (.int (nI (chp T d 2 Q b))), σ) := by
  have t1 := hT.2.1
  have t0 := hT.1
  have h1 := ones_le (tk Q 2)
  have h2 := pkS_lt (f := Q) fun g hg => by have := hQ g hg; omega
  have hdv : b / 2 ^ 15 < 7 := by omega
  rw [k_118, e_118_0, c_roomsTaken hQ (by decide) hp, q_cIS, q_obS]
  dsimp only
  rw [n_shr (by decide) (by omega)]
  by_cases g : ones (tk Q 2) < b / 2 ^ 15
  · rw [if_pos (nI_lt g (by omega)), pl_flocks hp, q_obS]
    cases d with
    | zero =>
      rw [if_neg (fun q => absurd ((nI_ltI (by decide) (by omega)).mp q) (by omega)), n_shl (by decide) (by omega), n_or, price_or h2]
      unfold chp
      rw [if_pos g]
    | succ d =>
      rw [if_pos (nI_lt (show 2 < T 1 by omega) (by omega))]
      have hv : ∀ i, i ≤ T 0 → foldR (mayJ T Q 2) (fun r a => chp T d (2 + 1) (up Q 2 r) a) b i < 7 * 2 ^ 15 := fun i hi => foldR_lt hb _ fun r a hr ha => chp_lt t0 d (2 + 1) (up Q 2 r) a (up_lt5 hQ (by omega)) ha
      refine (q_for (fun i => q_run 118 41 [(0, .ref p), (1, .int (nI 2)), (2, .int (nI (pkS Q))), (5, .int (nI (foldR (mayJ T Q 2) (fun r a => chp T d (2 + 1) (up Q 2 r) a) b i))), (6, .int (nI i))] [] σ) (T 0) (fun i hi => ?_)).trans ?_
      · try dsimp only
        rw [e_118_41, pl_rooms hp, q_obS, if_neg (nI_ge hi (by omega)), c_mayJoin hp hT hQ (by decide) (by omega), q_cIS, q_obS]
        dsimp only
        have e : foldR (mayJ T Q 2) (fun r a => chp T d (2 + 1) (up Q 2 r) a) b (i + 1) = if mayJ T Q 2 i then chp T d (2 + 1) (up Q 2 i) (foldR (mayJ T Q 2) (fun r a => chp T d (2 + 1) (up Q 2 r) a) b i) else foldR (mayJ T Q 2) (fun r a => chp T d (2 + 1) (up Q 2 r) a) b i := rfl
        rw [e]
        cases mayJ T Q 2 i with
        | false => rw [if_pos (show nI (false.toNat) = nI 0 from rfl), e_118_79, nI_add, if_neg (by decide)]
        | true =>
          rw [if_neg (show ¬ nI (true.toNat) = nI 0 by decide), c_withSpot (fun g hg => by have := hQ g hg; omega) (by decide) (by omega), q_cIS, q_obS]
          dsimp only
          rw [nI_add, ch_117 hp hT (d := d) (by omega) (up_lt5 hQ (by omega)) (hv i (by omega)), q_cIS, q_obS]
          dsimp only
          rw [e_118_79, nI_add, if_pos rfl]
      · try dsimp only
        rw [e_118_41, pl_rooms hp, q_obS, if_pos (nI_le (Nat.le_refl _) (by omega)), chp_s, if_pos g]
  · rw [if_neg (fun q => g ((nI_ltI (by omega) (by omega)).mp q))]
    cases d with
    | zero => unfold chp; rw [if_neg g]
    | succ d => rw [chp_s, if_neg g]
theorem ch_119 {σ : qH} {p : Nat} {zz : Int32} {T : Nat → Nat} (hp : σ.1 p = some (planC T zz)) (hT : WT T) {d : Nat} (hd : 1 + d = T 1) {Q : Nat → Nat} (hQ : ∀ g, g < 5 → Q g < 5) {b : Nat} (hb : b < 7 * 2 ^ 15) :
    q_call 119 [.ref p, .int (nI 1), .int (nI (pkS Q)), .int (nI b)] σ = some (some (.int (nI (chp T d 1 Q b))), σ) := by
  have t1 := hT.2.1
  have t0 := hT.1
  have h1 := ones_le (tk Q 1)
  have h2 := pkS_lt (f := Q) fun g hg => by have := hQ g hg; omega
  have hdv : b / 2 ^ 15 < 7 := by omega
  rw [k_119, e_119_0, c_roomsTaken hQ (by decide) hp, q_cIS, q_obS]
  dsimp only
  rw [n_shr (by decide) (by omega)]
  by_cases g : ones (tk Q 1) < b / 2 ^ 15
  · rw [if_pos (nI_lt g (by omega)), pl_flocks hp, q_obS]
    cases d with
    | zero =>
      rw [if_neg (fun q => absurd ((nI_ltI (by decide) (by omega)).mp q) (by omega)), n_shl (by decide) (by omega), n_or, price_or h2]
      unfold chp
      rw [if_pos g]
    | succ d =>
      rw [if_pos (nI_lt (show 1 < T 1 by omega) (by omega))]
      have hv : ∀ i, i ≤ T 0 → foldR (mayJ T Q 1) (fun r a => chp T d (1 + 1) (up Q 1 r) a) b i < 7 * 2 ^ 15 := fun i hi => foldR_lt hb _ fun r a hr ha => chp_lt t0 d (1 + 1) (up Q 1 r) a (up_lt5 hQ (by omega)) ha
      refine (q_for (fun i => q_run 119 41 [(0, .ref p), (1, .int (nI 1)), (2, .int (nI (pkS Q))), (5, .int (nI (foldR (mayJ T Q 1) (fun r a => chp T d (1 + 1) (up Q 1 r) a) b i))), (6, .int (nI i))] [] σ) (T 0) (fun i hi => ?_)).trans ?_
      · try dsimp only
        rw [e_119_41, pl_rooms hp, q_obS, if_neg (nI_ge hi (by omega)), c_mayJoin hp hT hQ (by decide) (by omega), q_cIS, q_obS]
        dsimp only
        have e : foldR (mayJ T Q 1) (fun r a => chp T d (1 + 1) (up Q 1 r) a) b (i + 1) = if mayJ T Q 1 i then chp T d (1 + 1) (up Q 1 i) (foldR (mayJ T Q 1) (fun r a => chp T d (1 + 1) (up Q 1 r) a) b i) else foldR (mayJ T Q 1) (fun r a => chp T d (1 + 1) (up Q 1 r) a) b i := rfl
        rw [e]
        cases mayJ T Q 1 i with
        | false => rw [if_pos (show nI (false.toNat) = nI 0 from rfl), e_119_79, nI_add, if_neg (by decide)]
        | true =>
          rw [if_neg (show ¬ nI (true.toNat) = nI 0 by decide), c_withSpot (fun g hg => by have := hQ g hg; omega) (by decide) (by omega), q_cIS, q_obS]
          dsimp only
          rw [nI_add, ch_118 hp hT (d := d) (by omega) (up_lt5 hQ (by omega)) (hv i (by omega)), q_cIS, q_obS]
          dsimp only
          rw [e_119_79, nI_add, if_pos rfl]
      · try dsimp only
        rw [e_119_41, pl_rooms hp, q_obS, if_pos (nI_le (Nat.le_refl _) (by omega)), chp_s, if_pos g]
  · rw [if_neg (fun q => g ((nI_ltI (by omega) (by omega)).mp q))]
    cases d with
    | zero => unfold chp; rw [if_neg g]
    | succ d => rw [chp_s, if_neg g]
theorem ch_120 {σ : qH} {p : Nat} {zz : Int32} {T : Nat → Nat} (hp : σ.1 p = some (planC T zz)) (hT : WT T) {d : Nat} (hd : 0 + d = T 1) {Q : Nat → Nat} (hQ : ∀ g, g < 5 → Q g < 5) {b : Nat} (hb : b < 7 * 2 ^ 15) :
    q_call 120 [.ref p, .int (nI 0), .int (nI (pkS Q)), .int (nI b)] σ = some (some (.int (nI (chp T d 0 Q b))), σ) := by
  have t1 := hT.2.1
  have t0 := hT.1
  have h1 := ones_le (tk Q 0)
  have h2 := pkS_lt (f := Q) fun g hg => by have := hQ g hg; omega
  have hdv : b / 2 ^ 15 < 7 := by omega
  rw [k_120, e_120_0, c_roomsTaken hQ (by decide) hp, q_cIS, q_obS]
  dsimp only
  rw [n_shr (by decide) (by omega)]
  by_cases g : ones (tk Q 0) < b / 2 ^ 15
  · rw [if_pos (nI_lt g (by omega)), pl_flocks hp, q_obS]
    cases d with
    | zero =>
      rw [if_neg (fun q => absurd ((nI_ltI (by decide) (by omega)).mp q) (by omega)), n_shl (by decide) (by omega), n_or, price_or h2]
      unfold chp
      rw [if_pos g]
    | succ d =>
      rw [if_pos (nI_lt (show 0 < T 1 by omega) (by omega))]
      have hv : ∀ i, i ≤ T 0 → foldR (mayJ T Q 0) (fun r a => chp T d (0 + 1) (up Q 0 r) a) b i < 7 * 2 ^ 15 := fun i hi => foldR_lt hb _ fun r a hr ha => chp_lt t0 d (0 + 1) (up Q 0 r) a (up_lt5 hQ (by omega)) ha
      refine (q_for (fun i => q_run 120 41 [(0, .ref p), (1, .int (nI 0)), (2, .int (nI (pkS Q))), (5, .int (nI (foldR (mayJ T Q 0) (fun r a => chp T d (0 + 1) (up Q 0 r) a) b i))), (6, .int (nI i))] [] σ) (T 0) (fun i hi => ?_)).trans ?_
      · try dsimp only
        rw [e_120_41, pl_rooms hp, q_obS, if_neg (nI_ge hi (by omega)), c_mayJoin hp hT hQ (by decide) (by omega), q_cIS, q_obS]
        dsimp only
        have e : foldR (mayJ T Q 0) (fun r a => chp T d (0 + 1) (up Q 0 r) a) b (i + 1) = if mayJ T Q 0 i then chp T d (0 + 1) (up Q 0 i) (foldR (mayJ T Q 0) (fun r a => chp T d (0 + 1) (up Q 0 r) a) b i) else foldR (mayJ T Q 0) (fun r a => chp T d (0 + 1) (up Q 0 r) a) b i := rfl
        rw [e]
        cases mayJ T Q 0 i with
        | false => rw [if_pos (show nI (false.toNat) = nI 0 from rfl), e_120_79, nI_add, if_neg (by decide)]
        | true =>
          rw [if_neg (show ¬ nI (true.toNat) = nI 0 by decide), c_withSpot (fun g hg => by have := hQ g hg; omega) (by decide) (by omega), q_cIS, q_obS]
          dsimp only
          rw [nI_add, ch_119 hp hT (d := d) (by omega) (up_lt5 hQ (by omega)) (hv i (by omega)), q_cIS, q_obS]
          dsimp only
          rw [e_120_79, nI_add, if_pos rfl]
      · try dsimp only
        rw [e_120_41, pl_rooms hp, q_obS, if_pos (nI_le (Nat.le_refl _) (by omega)), chp_s, if_pos g]
  · rw [if_neg (fun q => g ((nI_ltI (by omega) (by omega)).mp q))]
    cases d with
    | zero => unfold chp; rw [if_neg g]
    | succ d => rw [chp_s, if_neg g]
