/-! ===== the law's loop ===== -/
theorem qv_int {k : Nat} {v : Value} (h : qv k v = true) (hk : k ≠ 157) : ∃ a, v = .int a := by
  unfold qv at h
  split at h
  · exact ⟨_, rfl⟩
  · simp at h; exact absurd h hk
  · cases h
theorem qv_long {v : Value} (h : qv 157 v = true) : ∃ a, v = .long a := by
  unfold qv at h
  split at h
  · simp at h
  · exact ⟨_, rfl⟩
  · cases h
/-- what holds between two calls of the law -/
def IL (σ : qH) (x b L : Nat) (xs : Nat → Int32) : Prop := QV σ x ∧ QF σ ∧ σ.1 b = some (.inr (9, (L, .inl xs)))
theorem law_op {σ : qH} {x b L : Nat} {xs : Nat → Int32} {kX kM : Nat} {as : List Value} (ho : QO σ x kX kM as) (hF : QF σ) (hsc : σ.1 b = some (.inr (9, (L, .inl xs)))) :
    ∃ v σ1 σ', q_call kX (.ref x :: as) σ = some (some v, σ1) ∧ q_call kM (.ref (x + 24) :: as) σ1 = some (some v, σ') ∧ σ1.1 b = some (.inr (9, (L, .inl xs))) ∧ qv kX v = true ∧ IL σ' x b L xs ∧ σ'.2.1 ≤ σ.2.1 + 2 ∧ σ'.2.2 ≤ σ.2.2 + 40 := by
  obtain ⟨v, σ', ⟨σ1, c1, c2⟩, hV, hsz, hfr, hv⟩ := ho
  obtain ⟨f1, z1, k1⟩ := hF.call c1
  obtain ⟨f2, z2, k2⟩ := f1.call c2
  have hb := hF.lt hsc
  have s1 := k1 b _ hsc hb
  exact ⟨v, σ1, σ', c1, c2, s1, hv, ⟨hV, f2, k2 b _ s1 (by omega)⟩, hsz.1, hsz.2⟩
theorem law_step (hH : ∀ {σ : qH} {x : Nat}, QV σ x → QF σ → QO σ x 47 48 []) (hB : ∀ {σ : qH} {x : Nat}, QV σ x → ∀ w, QO σ x 104 109 [.int w]) (hA : ∀ {σ : qH} {x : Nat}, QV σ x → ∀ f, QO σ x 121 122 [.int f])
    {σ : qH} {x b L i : Nat} {xs : Nat → Int32} (hI : IL σ x b L xs) (hL : L ≤ 256) (hi : i + 4 ≤ L) :
    ∃ σ', q_run 159 18 [(0, .ref b), (1, .ref x), (2, .ref (x + 24)), (3, .int (nI i))] [] σ = q_run 159 704 [(0, .ref b), (1, .ref x), (2, .ref (x + 24)), (3, .int (nI i))] [] σ' ∧ IL σ' x b L xs ∧ σ'.2.1 ≤ σ.2.1 + 2 ∧ σ'.2.2 ≤ σ.2.2 + 40 := by
  obtain ⟨hV, hF, hsc⟩ := id hI
  have rd : ∀ {h : qH} {j : Nat}, h.1 b = some (.inr (9, (L, .inl xs))) → j < 4 → q_aldI h (.ref b) 9 (nI i + nI j) = some (xs (i + j)) := fun hs hj => by rw [nI_add]; exact r_kind hs (by omega) (by omega)
  have E := e_159_18 b x (x + 24) (nI i) σ
  rw [l_kind hsc, q_obS, pk_sub (show 4 ≤ L by omega), if_neg (fun q => absurd ((nI_ltI (by omega) (by omega)).mp q) (by omega)), r_kind hsc (show i < L by omega) (by omega), q_obS] at E
  generalize xs i &&& nI 31 = t at E
  by_cases g : t = nI 0
  · obtain ⟨v, σ1, σ', c1, c2, s1, hv, R⟩ := law_op (o_type hV (xs (i + 1))) hF hsc
    obtain ⟨a, rfl⟩ := qv_int hv (by decide)
    rw [if_pos g, rd hsc (show 1 < 4 by decide), q_obS, c1, q_cIS, q_obS] at E
    dsimp only at E
    rw [rd s1 (show 1 < 4 by decide), q_obS, c2, q_cIS, q_obS] at E
    dsimp only at E
    rw [if_pos rfl] at E
    exact ⟨σ', E, R⟩
  rw [if_neg g] at E
  clear g
  by_cases g : t = nI 1
  · obtain ⟨v, σ1, σ', c1, c2, s1, hv, R⟩ := law_op (o_clear hV) hF hsc
    obtain ⟨a, rfl⟩ := qv_int hv (by decide)
    rw [if_pos g, c1, q_cIS, q_obS] at E
    dsimp only at E
    rw [c2, q_cIS, q_obS] at E
    dsimp only at E
    rw [if_pos rfl] at E
    exact ⟨σ', E, R⟩
  rw [if_neg g] at E
  clear g
  by_cases g : t = nI 2
  · obtain ⟨v, σ1, σ', c1, c2, s1, hv, R⟩ := law_op (hH hV hF) hF hsc
    obtain ⟨a, rfl⟩ := qv_int hv (by decide)
    rw [if_pos g, c1, q_cIS, q_obS] at E
    dsimp only at E
    rw [c2, q_cIS, q_obS] at E
    dsimp only at E
    rw [if_pos rfl] at E
    exact ⟨σ', E, R⟩
  rw [if_neg g] at E
  clear g
  by_cases g : t = nI 3
  · obtain ⟨v, σ1, σ', c1, c2, s1, hv, R⟩ := law_op (o_room hV (xs (i + 1)) (xs (i + 2))) hF hsc
    obtain ⟨a, rfl⟩ := qv_int hv (by decide)
    rw [if_pos g, rd hsc (show 1 < 4 by decide), q_obS, rd hsc (show 2 < 4 by decide), q_obS, c1, q_cIS, q_obS] at E
    dsimp only at E
    rw [rd s1 (show 1 < 4 by decide), q_obS, rd s1 (show 2 < 4 by decide), q_obS, c2, q_cIS, q_obS] at E
    dsimp only at E
    rw [if_pos rfl] at E
    exact ⟨σ', E, R⟩
  rw [if_neg g] at E
  clear g
  by_cases g : t = nI 4
  · obtain ⟨v, σ1, σ', c1, c2, s1, hv, R⟩ := law_op (o_flock hV (xs (i + 1)) (xs (i + 2))) hF hsc
    obtain ⟨a, rfl⟩ := qv_int hv (by decide)
    rw [if_pos g, rd hsc (show 1 < 4 by decide), q_obS, rd hsc (show 2 < 4 by decide), q_obS, c1, q_cIS, q_obS] at E
    dsimp only at E
    rw [rd s1 (show 1 < 4 by decide), q_obS, rd s1 (show 2 < 4 by decide), q_obS, c2, q_cIS, q_obS] at E
    dsimp only at E
    rw [if_pos rfl] at E
    exact ⟨σ', E, R⟩
  rw [if_neg g] at E
  clear g
  by_cases g : t = nI 5
  · obtain ⟨v, σ1, σ', c1, c2, s1, hv, R⟩ := law_op (o_now hV (xs (i + 1))) hF hsc
    obtain ⟨a, rfl⟩ := qv_int hv (by decide)
    rw [if_pos g, rd hsc (show 1 < 4 by decide), q_obS, c1, q_cIS, q_obS] at E
    dsimp only at E
    rw [rd s1 (show 1 < 4 by decide), q_obS, c2, q_cIS, q_obS] at E
    dsimp only at E
    rw [if_pos rfl] at E
    exact ⟨σ', E, R⟩
  rw [if_neg g] at E
  clear g
  by_cases g : t = nI 6
  · obtain ⟨v, σ1, σ', c1, c2, s1, hv, R⟩ := law_op (o_step hV) hF hsc
    obtain ⟨a, rfl⟩ := qv_int hv (by decide)
    rw [if_pos g, c1, q_cIS, q_obS] at E
    dsimp only at E
    rw [c2, q_cIS, q_obS] at E
    dsimp only at E
    rw [if_pos rfl] at E
    exact ⟨σ', E, R⟩
  rw [if_neg g] at E
  clear g
  by_cases g : t = nI 7
  · obtain ⟨v, σ1, σ', c1, c2, s1, hv, R⟩ := law_op (o_drives hV (xs (i + 1)) (xs (i + 2))) hF hsc
    obtain ⟨a, rfl⟩ := qv_int hv (by decide)
    rw [if_pos g, rd hsc (show 1 < 4 by decide), q_obS, rd hsc (show 2 < 4 by decide), q_obS, c1, q_cIS, q_obS] at E
    dsimp only at E
    rw [rd s1 (show 1 < 4 by decide), q_obS, rd s1 (show 2 < 4 by decide), q_obS, c2, q_cIS, q_obS] at E
    dsimp only at E
    rw [if_pos rfl] at E
    exact ⟨σ', E, R⟩
  rw [if_neg g] at E
  clear g
  by_cases g : t = nI 8
  · obtain ⟨v, σ1, σ', c1, c2, s1, hv, R⟩ := law_op (o_puts hV (xs (i + 1))) hF hsc
    obtain ⟨a, rfl⟩ := qv_int hv (by decide)
    rw [if_pos g, rd hsc (show 1 < 4 by decide), q_obS, c1, q_cIS, q_obS] at E
    dsimp only at E
    rw [rd s1 (show 1 < 4 by decide), q_obS, c2, q_cIS, q_obS] at E
    dsimp only at E
    rw [if_pos rfl] at E
    exact ⟨σ', E, R⟩
  rw [if_neg g] at E
  clear g
  by_cases g : t = nI 9
  · obtain ⟨v, σ1, σ', c1, c2, s1, hv, R⟩ := law_op (o_calls hV (xs (i + 1))) hF hsc
    obtain ⟨a, rfl⟩ := qv_int hv (by decide)
    rw [if_pos g, rd hsc (show 1 < 4 by decide), q_obS, c1, q_cIS, q_obS] at E
    dsimp only at E
    rw [rd s1 (show 1 < 4 by decide), q_obS, c2, q_cIS, q_obS] at E
    dsimp only at E
    rw [if_pos rfl] at E
    exact ⟨σ', E, R⟩
  rw [if_neg g] at E
  clear g
  by_cases g : t = nI 10
  · obtain ⟨v, σ1, σ', c1, c2, s1, hv, R⟩ := law_op (o_dawn hV) hF hsc
    obtain ⟨a, rfl⟩ := qv_int hv (by decide)
    rw [if_pos g, c1, q_cIS, q_obS] at E
    dsimp only at E
    rw [c2, q_cIS, q_obS] at E
    dsimp only at E
    rw [if_pos rfl] at E
    exact ⟨σ', E, R⟩
  rw [if_neg g] at E
  clear g
  by_cases g : t = nI 11
  · obtain ⟨v, σ1, σ', c1, c2, s1, hv, R⟩ := law_op (o_undo hV) hF hsc
    obtain ⟨a, rfl⟩ := qv_int hv (by decide)
    rw [if_pos g, c1, q_cIS, q_obS] at E
    dsimp only at E
    rw [c2, q_cIS, q_obS] at E
    dsimp only at E
    rw [if_pos rfl] at E
    exact ⟨σ', E, R⟩
  rw [if_neg g] at E
  clear g
  by_cases g : t = nI 12
  · obtain ⟨v, σ1, σ', c1, c2, s1, hv, R⟩ := law_op (hB hV (xs (i + 1))) hF hsc
    obtain ⟨a, rfl⟩ := qv_int hv (by decide)
    rw [if_pos g, rd hsc (show 1 < 4 by decide), q_obS, c1, q_cIS, q_obS] at E
    dsimp only at E
    rw [rd s1 (show 1 < 4 by decide), q_obS, c2, q_cIS, q_obS] at E
    dsimp only at E
    rw [if_pos rfl] at E
    exact ⟨σ', E, R⟩
  rw [if_neg g] at E
  clear g
  by_cases g : t = nI 13
  · obtain ⟨v, σ1, σ', c1, c2, s1, hv, R⟩ := law_op (o_homing hV) hF hsc
    obtain ⟨a, rfl⟩ := qv_int hv (by decide)
    rw [if_pos g, c1, q_cIS, q_obS] at E
    dsimp only at E
    rw [c2, q_cIS, q_obS] at E
    dsimp only at E
    rw [if_pos rfl] at E
    exact ⟨σ', E, R⟩
  rw [if_neg g] at E
  clear g
  by_cases g : t = nI 14
  · obtain ⟨v, σ1, σ', c1, c2, s1, hv, R⟩ := law_op (hA hV (xs (i + 1))) hF hsc
    obtain ⟨a, rfl⟩ := qv_int hv (by decide)
    rw [if_pos g, rd hsc (show 1 < 4 by decide), q_obS, c1, q_cIS, q_obS] at E
    dsimp only at E
    rw [rd s1 (show 1 < 4 by decide), q_obS, c2, q_cIS, q_obS] at E
    dsimp only at E
    rw [if_pos rfl] at E
    exact ⟨σ', E, R⟩
  rw [if_neg g] at E
  clear g
  by_cases g : t = nI 15
  · obtain ⟨v, σ1, σ', c1, c2, s1, hv, R⟩ := law_op (o_odds hV (xs (i + 1)) (xs (i + 2)) (xs (i + 3))) hF hsc
    obtain ⟨a, rfl⟩ := qv_int hv (by decide)
    rw [if_pos g, rd hsc (show 1 < 4 by decide), q_obS, rd hsc (show 2 < 4 by decide), q_obS, rd hsc (show 3 < 4 by decide), q_obS, c1, q_cIS, q_obS] at E
    dsimp only at E
    rw [rd s1 (show 1 < 4 by decide), q_obS, rd s1 (show 2 < 4 by decide), q_obS, rd s1 (show 3 < 4 by decide), q_obS, c2, q_cIS, q_obS] at E
    dsimp only at E
    rw [if_pos rfl] at E
    exact ⟨σ', E, R⟩
  rw [if_neg g] at E
  clear g
  by_cases g : t = nI 16
  · obtain ⟨v, σ1, σ', c1, c2, s1, hv, R⟩ := law_op (o_tells hV (xs (i + 1)) (xs (i + 2))) hF hsc
    obtain ⟨a, rfl⟩ := qv_int hv (by decide)
    rw [if_pos g, rd hsc (show 1 < 4 by decide), q_obS, rd hsc (show 2 < 4 by decide), q_obS, c1, q_cIS, q_obS] at E
    dsimp only at E
    rw [rd s1 (show 1 < 4 by decide), q_obS, rd s1 (show 2 < 4 by decide), q_obS, c2, q_cIS, q_obS] at E
    dsimp only at E
    rw [if_pos rfl] at E
    exact ⟨σ', E, R⟩
  rw [if_neg g] at E
  clear g
  by_cases g : t = nI 17
  · obtain ⟨v, σ1, σ', c1, c2, s1, hv, R⟩ := law_op (o_forget hV) hF hsc
    obtain ⟨a, rfl⟩ := qv_int hv (by decide)
    rw [if_pos g, c1, q_cIS, q_obS] at E
    dsimp only at E
    rw [c2, q_cIS, q_obS] at E
    dsimp only at E
    rw [if_pos rfl] at E
    exact ⟨σ', E, R⟩
  rw [if_neg g] at E
  clear g
  by_cases g : t = nI 18
  · obtain ⟨v, σ1, σ', c1, c2, s1, hv, R⟩ := law_op (o_can hV (xs (i + 1))) hF hsc
    obtain ⟨a, rfl⟩ := qv_int hv (by decide)
    rw [if_pos g, rd hsc (show 1 < 4 by decide), q_obS, c1, q_cIS, q_obS] at E
    dsimp only at E
    rw [rd s1 (show 1 < 4 by decide), q_obS, c2, q_cIS, q_obS] at E
    dsimp only at E
    rw [if_pos rfl] at E
    exact ⟨σ', E, R⟩
  rw [if_neg g] at E
  clear g
  by_cases g : t = nI 19
  · obtain ⟨v, σ1, σ', c1, c2, s1, hv, R⟩ := law_op (o_ask hV) hF hsc
    obtain ⟨a, rfl⟩ := qv_int hv (by decide)
    rw [if_pos g, c1, q_cIS, q_obS] at E
    dsimp only at E
    rw [c2, q_cIS, q_obS] at E
    dsimp only at E
    rw [if_pos rfl] at E
    exact ⟨σ', E, R⟩
  rw [if_neg g] at E
  clear g
  by_cases g : t = nI 20
  · obtain ⟨v, σ1, σ', c1, c2, s1, hv, R⟩ := law_op (o_rate hV (xs (i + 1)) (xs (i + 2))) hF hsc
    obtain ⟨a, rfl⟩ := qv_int hv (by decide)
    rw [if_pos g, rd hsc (show 1 < 4 by decide), q_obS, rd hsc (show 2 < 4 by decide), q_obS, c1, q_cIS, q_obS] at E
    dsimp only at E
    rw [rd s1 (show 1 < 4 by decide), q_obS, rd s1 (show 2 < 4 by decide), q_obS, c2, q_cIS, q_obS] at E
    dsimp only at E
    rw [if_pos rfl] at E
    exact ⟨σ', E, R⟩
  rw [if_neg g] at E
  clear g
  by_cases g : t = nI 21
  · obtain ⟨v, σ1, σ', c1, c2, s1, hv, R⟩ := law_op (o_keep hV (xs (i + 1))) hF hsc
    obtain ⟨a, rfl⟩ := qv_int hv (by decide)
    rw [if_pos g, rd hsc (show 1 < 4 by decide), q_obS, c1, q_cIS, q_obS] at E
    dsimp only at E
    rw [rd s1 (show 1 < 4 by decide), q_obS, c2, q_cIS, q_obS] at E
    dsimp only at E
    rw [if_pos rfl] at E
    exact ⟨σ', E, R⟩
  rw [if_neg g] at E
  clear g
  by_cases g : t = nI 22
  · obtain ⟨v, σ1, σ', c1, c2, s1, hv, R⟩ := law_op (o_again hV (xs (i + 1))) hF hsc
    obtain ⟨a, rfl⟩ := qv_int hv (by decide)
    rw [if_pos g, rd hsc (show 1 < 4 by decide), q_obS, c1, q_cIS, q_obS] at E
    dsimp only at E
    rw [rd s1 (show 1 < 4 by decide), q_obS, c2, q_cIS, q_obS] at E
    dsimp only at E
    rw [if_pos rfl] at E
    exact ⟨σ', E, R⟩
  rw [if_neg g] at E
  clear g
  by_cases g : t = nI 23
  · obtain ⟨v, σ1, σ', c1, c2, s1, hv, R⟩ := law_op (o_count hV (xs (i + 1))) hF hsc
    obtain ⟨a, rfl⟩ := qv_int hv (by decide)
    rw [if_pos g, rd hsc (show 1 < 4 by decide), q_obS, c1, q_cIS, q_obS] at E
    dsimp only at E
    rw [rd s1 (show 1 < 4 by decide), q_obS, c2, q_cIS, q_obS] at E
    dsimp only at E
    rw [if_pos rfl] at E
    exact ⟨σ', E, R⟩
  rw [if_neg g] at E
  clear g
  by_cases g : t = nI 24
  · obtain ⟨v, σ1, σ', c1, c2, s1, hv, R⟩ := law_op (o_trace hV) hF hsc
    obtain ⟨a, rfl⟩ := qv_long hv
    rw [if_pos g, c1, q_cLS, q_obS] at E
    dsimp only at E
    rw [c2, q_cLS, q_obS] at E
    dsimp only at E
    rw [if_pos (show lg_cmp a a = nI 0 from (lg_cmp_eq a a).mpr rfl)] at E
    exact ⟨σ', E, R⟩
  rw [if_neg g] at E
  exact ⟨σ, E, hI, by omega, by omega⟩
theorem law_loop (hH : ∀ {σ : qH} {x : Nat}, QV σ x → QF σ → QO σ x 47 48 []) (hB : ∀ {σ : qH} {x : Nat}, QV σ x → ∀ w, QO σ x 104 109 [.int w]) (hA : ∀ {σ : qH} {x : Nat}, QV σ x → ∀ f, QO σ x 121 122 [.int f]) {x b L : Nat} {xs : Nat → Int32} (hL : L ≤ 256) :
    ∀ d i σ, i ≤ 300 → L ≤ i + 4 * d + 3 → IL σ x b L xs → ∃ σ', q_run 159 18 [(0, .ref b), (1, .ref x), (2, .ref (x + 24)), (3, .int (nI i))] [] σ = some (some (.int (nI 1)), σ') ∧ σ'.2.1 ≤ σ.2.1 + 2 * d ∧ σ'.2.2 ≤ σ.2.2 + 40 * d
  | d, i, σ, hi, hd, hI => by
    by_cases h : i + 4 ≤ L
    · obtain ⟨σ1, E, hI1, z1, w1⟩ := law_step hH hB hA hI hL h
      match d, hd with
      | 0, hd => omega
      | d + 1, hd =>
        obtain ⟨σ2, E2, z2, w2⟩ := law_loop hH hB hA hL d (i + 4) σ1 (by omega) (by omega) hI1
        exact ⟨σ2, by rw [E, e_159_704, nI_add, E2], by omega, by omega⟩
    · refine ⟨σ, ?_, by omega, by omega⟩
      have e1 : (nI L - nI 4).toInt = (L : Int) - 4 := by rw [pk_sub_toInt (by omega) (by decide)]; rfl
      have e2 : (nI i).toInt = (i : Int) := nI_toInt (by omega)
      rw [e_159_18, l_kind hI.2.2, q_obS, if_pos (by rw [Int32.lt_iff_toInt_lt, e1, e2]; omega)]
