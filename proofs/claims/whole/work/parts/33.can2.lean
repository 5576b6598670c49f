/-! ===== who grazed: the sets weighed ===== -/
def addL (L : Nat → Nat) (s i : Nat) : Nat → Nat := fun f => if f < i ∧ s.testBit f = true then L f + 1 else L f
theorem addL_t {L : Nat → Nat} {s i : Nat} (h : s.testBit i = true) : up (addL L s i) i (addL L s i i + 1) = addL L s (i + 1) := by
  funext f
  unfold up addL
  by_cases e : f = i
  · subst e; rw [if_pos rfl, if_neg (fun q => absurd q.1 (Nat.lt_irrefl _)), if_pos ⟨by omega, h⟩]
  · rw [if_neg e]
    by_cases g : f < i ∧ s.testBit f = true
    · rw [if_pos g, if_pos ⟨by omega, g.2⟩]
    · rw [if_neg g, if_neg (fun q => g ⟨by have := q.1; omega, q.2⟩)]
theorem addL_f {L : Nat → Nat} {s i : Nat} (h : s.testBit i = false) : addL L s i = addL L s (i + 1) := by
  funext f
  unfold addL
  by_cases g : f < i ∧ s.testBit f = true
  · rw [if_pos g, if_pos ⟨by omega, g.2⟩]
  · rw [if_neg g, if_neg (fun q => g ⟨?_, q.2⟩)]
    have := q.1
    by_cases e : f = i
    · rw [e, h] at q; exact absurd q.2 (by decide)
    · omega
theorem c_add {σ : qH} {g p no : Nat} {zz : Int32} {T W L : Nat → Nat} {A B O : Nat} (hg : σ.1 g = some (grC W no (lN (pkL L)) (nI A) (nI B) (nI O))) (hp : σ.1 p = some (planC T zz)) (hpg : p ≠ g) (hT : WT T) {s : Nat} (hs : s < 32) :
    q_call 134 [.ref g, .ref p, .int (nI s)] σ = some (none, q_upd σ g (grC W no (lN (pkL (addL L s (T 1)))) (nI (A + 1)) (nI (B &&& s)) (nI (O ||| s)))) := by
  have t1 := hT.2.1
  have qg : ∀ {w a b c}, (q_upd σ g (grC W no w a b c)).1 g = some (grC W no w a b c) := fun {w a b c} => u_s ..
  have qp : ∀ {e}, (q_upd σ g e).1 p = some (planC T zz) := fun {e} => (u_n _ _ hpg).trans hp
  rw [k_134 hg, e_134_0, gr_ways hg, q_obS, nI_add, grp_ways hg, q_obS, gr_all qg, q_obS, nx_and, grp_all qg, q_obS, u_u, gr_some qg, q_obS, n_or, grp_some qg, q_obS, u_u]
  have hl := q_for (fun i => q_run 134 32 [(0, .ref g), (1, .ref p), (2, .int (nI s)), (3, .int (nI i))] [] (q_upd σ g (grC W no (lN (pkL (addL L s i))) (nI (A + 1)) (nI (B &&& s)) (nI (O ||| s))))) (T 1) (fun i hi => by
    try dsimp only
    rw [e_134_32, pl_flocks qp, q_obS, if_neg (nI_ge hi (by omega)), c_has (by omega) (by omega), q_cIS, q_obS]
    dsimp only
    cases hb : s.testBit i with
    | false => rw [if_pos (show nI (false.toNat) = nI 0 from rfl), e_134_63, nI_add, addL_f hb]
    | true => rw [if_neg (show ¬ nI (true.toNat) = nI 0 by decide), gr_with qg, q_obS, pk_mul, wb_shl 1 (k := 8 * i) (by omega), Nat.one_mul, lN_add, pkL_inc _ (show i < 5 by omega), grp_with qg, q_obS, u_u, e_134_63, nI_add, addL_t hb])
  try dsimp only at hl
  rw [show addL L s 0 = L from funext fun f => if_neg (fun q => absurd q.1 (Nat.not_lt_zero _))] at hl
  rw [hl, e_134_32, pl_flocks qp, q_obS, if_pos (nI_le (Nat.le_refl _) (by omega))]
theorem wayL_s (T W : Nat → Nat) (no n : Nat) : pkL (wayL T W no (n + 1)) = if agr T W no n then pkL (addL (wayL T W no n) n (T 1)) else pkL (wayL T W no n) := by
  cases h : agr T W no n with
  | true =>
    rw [if_pos rfl]
    refine pkL_congr fun f hf => ?_
    unfold wayL addL
    dsimp only
    rw [wayF_s, h, Bool.true_and]
    by_cases g : f < T 1
    · rw [if_pos g, if_pos g]
      cases hb : n.testBit f with
      | true => rw [if_pos ⟨g, rfl⟩]; rfl
      | false => rw [if_neg (fun q => absurd q.2 (by decide))]; rfl
    · rw [if_neg g, if_neg g, if_neg (fun q => g q.1)]
  | false =>
    rw [if_neg (by decide)]
    refine pkL_congr fun f hf => ?_
    unfold wayL
    rw [wayF_s, h, Bool.false_and]; rfl
theorem c_weigh {σ : qH} {g p no : Nat} {zz : Int32} {T W : Nat → Nat} {w : Int64} {a b c : Int32} (hg : σ.1 g = some (grC W no w a b c)) (hp : σ.1 p = some (planC T zz)) (hpg : p ≠ g) (hT : WT T) (hno : no ≤ 6) (hW : ∀ i, W (2 * i) < 32 ∧ W (2 * i + 1) ≤ 45) :
    q_call 135 [.ref g, .ref p] σ = some (none, q_upd σ g (grC W no (lN (pkL (wayL T W no (2 ^ T 1)))) (nI (wayN T W no (2 ^ T 1))) (nI (wayA T W no (2 ^ T 1))) (nI (wayO T W no (2 ^ T 1))))) := by
  have t1 := hT.2.1
  have hw := pow_le5 t1
  have qg : ∀ {w a b c}, (q_upd σ g (grC W no w a b c)).1 g = some (grC W no w a b c) := fun {w a b c} => u_s ..
  have qp : ∀ {e}, (q_upd σ g e).1 p = some (planC T zz) := fun {e} => (u_n _ _ hpg).trans hp
  rw [k_135 hg, e_135_0, grp_ways hg, q_obS, grp_with qg, q_obS, u_u, pl_flocks qp, q_obS, n_shl1 t1, pk_sub (Nat.two_pow_pos _), grp_all qg, q_obS, u_u, grp_some qg, q_obS, u_u]
  have hl := q_for (fun n => q_run 135 29 [(0, .ref g), (1, .ref p), (2, .int (nI n))] [] (q_upd σ g (grC W no (lN (pkL (wayL T W no n))) (nI (wayN T W no n)) (nI (wayA T W no n)) (nI (wayO T W no n))))) (2 ^ T 1) (fun n hn => by
    try dsimp only
    rw [e_135_29, pl_flocks qp, q_obS, n_shl1 t1, if_neg (nI_ge hn (by omega)), c_agrees qg qp hT hno hW (show n < 32 by omega), q_cIS, q_obS, wayL_s, wayN_s]
    dsimp only
    show _ = q_run 135 29 _ [] (q_upd σ g (grC W no (lN (if agr T W no n then _ else _)) _ (nI (if agr T W no n then wayA T W no n &&& n else wayA T W no n)) (nI (if agr T W no n then wayO T W no n ||| n else wayO T W no n))))
    cases hb : agr T W no n with
    | false => rw [if_pos (show nI (false.toNat) = nI 0 from rfl), e_135_54, nI_add]; rfl
    | true => rw [if_neg (show ¬ nI (true.toNat) = nI 0 by decide), c_add qg qp hpg hT (show n < 32 by omega), q_cVS, q_obS, u_u, e_135_54, nI_add]; rfl)
  try dsimp only at hl
  rw [show wayN T W no 0 = 0 from rfl, show wayA T W no 0 = 2 ^ T 1 - 1 from rfl, show wayO T W no 0 = 0 from rfl, show pkL (wayL T W no 0) = 0 from by
    have : ∀ f, wayL T W no 0 f = 0 := fun f => by unfold wayL; split <;> rfl
    unfold pkL; rw [this, this, this, this, this]] at hl
  rw [hl, e_135_29, pl_flocks qp, q_obS, n_shl1 t1, if_pos (nI_le (Nat.le_refl _) (by omega))]
theorem wayN_le (T W : Nat → Nat) (no n : Nat) : wayN T W no n ≤ n := cnt_le _ n
def askM (T W : Nat → Nat) (no N f : Nat) : Nat := if wayF T W no f N < wayN T W no N - wayF T W no f N then wayN T W no N - wayF T W no f N else wayF T W no f N
def askR (T W : Nat → Nat) (no N : Nat) : Nat → Int32 × Nat
  | 0 => (-9, wayN T W no N + 1)
  | f + 1 => if askM T W no N f < (askR T W no N f).2 then (nI f, askM T W no N f) else askR T W no N f
theorem askR_s (T W : Nat → Nat) (no N f : Nat) : askR T W no N (f + 1) = if askM T W no N f < (askR T W no N f).2 then (nI f, askM T W no N f) else askR T W no N f := rfl
theorem askR_le (T W : Nat → Nat) (no N : Nat) : ∀ f, (askR T W no N f).2 ≤ wayN T W no N + 1
  | 0 => Nat.le_refl _
  | f + 1 => by
    have := askR_le T W no N f
    rw [askR_s]
    by_cases h : askM T W no N f < (askR T W no N f).2
    · rw [if_pos h]; show askM T W no N f ≤ _; omega
    · rw [if_neg h]; exact this
theorem askM_le {T W : Nat → Nat} {no f n : Nat} : askM T W no n f ≤ n := by
  have h1 := wayF_le T W no f n
  have h2 := wayN_le T W no n
  unfold askM; split <;> omega
theorem q_maxN (a b : Nat) (ha : a < 2 ^ 31) (hb : b < 2 ^ 31) : q_max (nI a) (nI b) = nI (if a < b then b else a) := by
  unfold q_max
  by_cases h : a < b
  · rw [if_pos ((nI_ltI ha hb).mpr h), if_pos h]
  · rw [if_neg (fun q => h ((nI_ltI ha hb).mp q)), if_neg h]
theorem c_bestAsked {σ : qH} {g no : Nat} {T W : Nat → Nat} {b c : Int32} (hT : WT T) (hg : σ.1 g = some (grC W no (lN (pkL (wayL T W no (2 ^ T 1)))) (nI (wayN T W no (2 ^ T 1))) b c)) :
    q_call 140 [.ref g, .int (nI (T 1))] σ = some (some (.int (askR T W no (2 ^ T 1) (T 1)).1), σ) := by
  have t1 := hT.2.1
  have hw := pow_le5 t1
  have hn := wayN_le T W no (2 ^ T 1)
  have hL : ∀ i, i < 5 → wayL T W no (2 ^ T 1) i < 256 := fun i hi => by
    have := wayF_le T W no i (2 ^ T 1)
    unfold wayL; split <;> omega
  rw [k_140 hg, e_140_0, gr_ways hg, q_obS, nI_add]
  refine (q_for (fun f => q_run 140 13 [(0, .ref g), (1, .int (nI (T 1))), (2, .int (askR T W no (2 ^ T 1) f).1), (3, .int (nI (askR T W no (2 ^ T 1) f).2)), (4, .int (nI f))] [] σ) (T 1) (fun f hf => ?_)).trans ?_
  · try dsimp only
    have h1 := wayF_le T W no f (2 ^ T 1)
    have h2 := askR_le T W no (2 ^ T 1) f
    have e : wayL T W no (2 ^ T 1) f = wayF T W no f (2 ^ T 1) := if_pos hf
    rw [e_140_13, if_neg (nI_ge hf (by omega)), gr_with hg, q_obS, c_lane hL (by omega), q_cIS, q_obS, e]
    dsimp only
    rw [gr_ways hg, q_obS, pk_sub h1, q_maxN _ _ (by omega) (by omega), askR_s]
    have hl2 := askM_le (T := T) (W := W) (no := no) (f := f) (n := 2 ^ T 1)
    rw [show (if wayF T W no f (2 ^ T 1) < wayN T W no (2 ^ T 1) - wayF T W no f (2 ^ T 1) then wayN T W no (2 ^ T 1) - wayF T W no f (2 ^ T 1) else wayF T W no f (2 ^ T 1)) = askM T W no (2 ^ T 1) f from rfl]
    by_cases g1 : askM T W no (2 ^ T 1) f < (askR T W no (2 ^ T 1) f).2
    · rw [if_neg (nI_ge g1 (by omega)), e_140_56, nI_add, if_pos g1]
    · rw [if_pos (nI_le (by omega) (by omega)), e_140_56, nI_add, if_neg g1]
  · try dsimp only
    rw [e_140_13, if_pos (nI_le (Nat.le_refl _) (by omega))]
