/-! ===== the law, out of the calls that are left ===== -/
theorem law_all (hH : ∀ {σ : qH} {x : Nat}, QV σ x → QF σ → QO σ x 47 48 []) (hB : ∀ {σ : qH} {x : Nat}, QV σ x → ∀ w, QO σ x 104 109 [.int w]) (hA : ∀ {σ : qH} {x : Nat}, QV σ x → ∀ f, QO σ x 121 122 [.int f]) :
    ∀ (z b L : Nat) (xs : Nat → Int32), b < z → L ≤ 256 → ∃ σ1, q_run 159 0 [(0, .ref b)] [] (q_init z b L xs) = some (some (.int 1), σ1) ∧ σ1.2.1 ≤ z + 600000 ∧ σ1.2.2 ≤ 7302250 := by
  intro z b L xs hb hL
  obtain ⟨σ, E, hI, h1, h2⟩ := law_begin z b L xs hb
  obtain ⟨σ2, E2, z2, w2⟩ := law_loop hH hB hA hL 64 0 σ (by decide) (by omega) hI
  exact ⟨σ2, by rw [E, E2]; rfl, by omega, by omega⟩
