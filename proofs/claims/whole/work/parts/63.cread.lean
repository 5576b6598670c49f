/-! ===== the class's reader: the whole text ===== -/
def rAns (σ : qH) (x ρ n : Nat) (o : Option qR) : pR → Prop
  | .inl s => s ≤ n ∧ ∃ it nm o1 o2 o3 T, o = some (some (.int (nI s)), rH σ x ρ n it nm o1 o2 o3 T)
  | .inr T => WX T ∧ ∃ nm o1 o2 o3, o = some (some (.int (-1)), rH σ x ρ n 32 nm o1 o2 o3 T)
section RA
variable {σ : qH} {x ρ n it nm o1 o2 o3 : Nat} {T : Nat → Nat} {tx : Nat → Nat}
theorem an_num (h : rOk σ x ρ n tx) (hT : WX T) {a : Nat} (ha : a ≤ n) (hm : mdB tx n a = false) (hit : it < 256) (hi32 : it ≠ 32) (hnm : nm ≠ nof it) (hn3 : nm ≤ 3) (ho : o1 < 100) {ok : Nat → Bool} (hok : ∀ v, v < 100 → mbB it nm o1 T v = ok v) {k : Nat → Nat → pR}
    (hk : ∀ v a1, v < 100 → ok v = true → a1 ≤ n → mdB tx n a1 = false → a + 1 ≤ a1 → rAns σ x ρ n (rQ ρ a1 (rH σ x ρ n it (nm + 1) (no1 nm v o1) (no2 nm v o2) (no3 nm v o3) T)) (k v a1)) :
    rAns σ x ρ n (rQ ρ a (rH σ x ρ n it nm o1 o2 o3 T)) (gtN tx n a ok k) := by
  obtain ⟨g1, g2, g3, g4⟩ := nx_spec tx ha
  rw [rq_num h hT ha hm hit hi32 hnm hn3 ho hok]
  unfold gtN
  by_cases c : dgB tx n (nx tx n a) = true ∧ tkV tx n (nx tx n a) < 100 ∧ ok (tkV tx n (nx tx n a)) = true
  · rw [if_pos c, if_pos c]
    have hl := (dgB_t c.1).1
    obtain ⟨d1, d2, -, -⟩ := de_spec tx (show nx tx n a + 1 ≤ n by omega)
    exact hk _ _ c.2.1 c.2.2 d2 (md_de (by omega)) (by omega)
  · rw [if_neg c, if_neg c]
    exact ⟨g2, it, nm, o1, o2, o3, T, rfl⟩
theorem an_semi (h : rOk σ x ρ n tx) (hT : WX T) {a : Nat} (ha : a ≤ n) (hm : mdB tx n a = false) (hit : it < 256) (hi32 : it ≠ 32) (hn3 : nm ≤ 3) (ho : o1 < 100) (hno : ∀ v, v < 100 → mbB it nm o1 T v = false) {h2 : qH} (hc : q_call 40 [.ref ρ] (rH σ x ρ n it nm o1 o2 o3 T) = some (some (.int (nI 1)), h2)) {k : Nat → pR}
    (hk : ∀ a1, a1 ≤ n → mdB tx n a1 = false → a + 1 ≤ a1 → rAns σ x ρ n (rQ ρ a1 h2) (k a1)) :
    rAns σ x ρ n (rQ ρ a (rH σ x ρ n it nm o1 o2 o3 T)) (gtE tx n a k) := by
  obtain ⟨g1, g2, g3, g4⟩ := nx_spec tx ha
  rw [rq_semi h hT ha hm hit hi32 hn3 ho hno hc]
  unfold gtE
  by_cases c : nx tx n a < n ∧ tx (nx tx n a) = 59
  · rw [if_pos c, if_pos c]
    exact hk _ (by omega) (md_s (decide_eq_false (by omega))) (by omega)
  · rw [if_neg c, if_neg c]
    exact ⟨g2, it, nm, o1, o2, o3, T, rfl⟩
end RA
theorem c_prs {σ : qH} {x ρ n : Nat} {tx : Nat → Nat} (h : rOk σ x ρ n tx) : ∀ d a nm o1 o2 o3 (T : Nat → Nat), n < a + d → a ≤ n → mdB tx n a = false → WX T → nm ≤ 3 → o1 < 100 → rAns σ x ρ n (rQ ρ a (rH σ x ρ n 32 nm o1 o2 o3 T)) (prs tx n d a T) := by
  intro d
  induction d with
  | zero => intro a nm o1 o2 o3 T h1 h2; omega
  | succ d ih =>
    intro a nm o1 o2 o3 T hd ha hm hT hn3 ho
    obtain ⟨g1, g2, g3, g4⟩ := nx_spec tx ha
    have t0 := hT.1.1
    have t1 := hT.1.2.1
    have t4 := hT.2
    unfold prs
    by_cases hs : nx tx n a < n
    · rw [if_pos hs]
      obtain ⟨y1, y2⟩ := rq_let (σ := σ) (x := x) (ρ := ρ) (nm := nm) (o1 := o1) (o2 := o2) (o3 := o3) h hT ha hm hs hn3 ho
      have bad : letB T (tx (nx tx n a)) = false → rAns σ x ρ n (rQ ρ a (rH σ x ρ n 32 nm o1 o2 o3 T)) (.inl (nx tx n a)) := fun w => by
        obtain ⟨i, j, e⟩ := y2 w
        exact ⟨g2, i, j, o1, o2, o3, T, e⟩
      have hs1 : nx tx n a + 1 ≤ n := by omega
      have hmd : ∀ c, tx (nx tx n a) = c → c < 48 ∨ 57 < c → mdB tx n (nx tx n a + 1) = false := fun c e w => md_s (decide_eq_false (by omega))
      by_cases c1 : tx (nx tx n a) = 114
      · rw [if_pos c1]
        by_cases c2 : T 0 = 5
        · rw [if_pos c2]; exact bad (by rw [c1]; exact decide_eq_false (by omega))
        · rw [if_neg c2, y1 (by rw [c1]; exact decide_eq_true (by omega)), c1]
          refine an_num h hT hs1 (hmd _ c1 (by decide)) (by decide) (by decide) (by decide) (by decide) ho (fun _ _ => rfl) fun v a1 v1 v2 v3 v4 v5 => ?_
          refine an_num h hT v3 v4 (by decide) (by decide) (by decide) (by decide) v1 (fun _ _ => rfl) fun w a2 w1 w2 w3 w4 w5 => ?_
          show rAns σ x ρ n (rQ ρ a2 (rH σ x ρ n 114 2 v w o3 T)) _
          have hv := okI_t v2
          have hw := okI_t w2
          refine an_semi h hT w3 w4 (by decide) (by decide) (by decide) v1 (fun _ _ => rfl) (ct_endR hT (by omega) v1 w1) fun a3 z1 z2 z3 => ?_
          exact ih a3 2 v w o3 _ (by omega) z1 z2 (hT.rm c2 hv (by omega)) (by decide) v1
      · rw [if_neg c1]
        by_cases c2 : tx (nx tx n a) = 100
        · rw [if_pos c2, y1 (by rw [c2]; rfl), c2]
          refine an_num h hT hs1 (hmd _ c2 (by decide)) (by decide) (by decide) (by decide) (by decide) ho (ok := okI 0 (T 0)) (fun v _ => by
            show (true && (okI 0 (T 0) v && true)) = _
            rw [Bool.true_and, Bool.and_true]) fun v a1 v1 v2 v3 v4 v5 => ?_
          refine an_num h hT v3 v4 (by decide) (by decide) (by decide) (by decide) v1 (fun _ _ => rfl) fun w a2 w1 w2 w3 w4 w5 => ?_
          show rAns σ x ρ n (rQ ρ a2 (rH σ x ρ n 100 2 v w o3 T)) _
          have hv := okI_t v2
          have w2' : (okI 0 (T 0) w && !(w == v)) = true := w2
          rw [Bool.and_eq_true] at w2'
          have hw := okI_t w2'.1
          have hne : v ≠ w := fun e => by
            have := w2'.2
            rw [e] at this; simp at this
          refine an_semi h hT w3 w4 (by decide) (by decide) (by decide) v1 (fun _ _ => rfl) (ct_endD hT (by omega) (by omega) hne) fun a3 z1 z2 z3 => ?_
          exact ih a3 2 v w o3 _ (by omega) z1 z2 (hT.dr hv.2 hw.2 hne) (by decide) v1
        · rw [if_neg c2]
          by_cases c3 : tx (nx tx n a) = 102
          · rw [if_pos c3]
            by_cases c4 : T 1 = 5
            · rw [if_pos c4]; exact bad (by rw [c3]; exact decide_eq_false (by omega))
            · rw [if_neg c4, y1 (by rw [c3]; exact decide_eq_true (by omega)), c3]
              refine an_num h hT hs1 (hmd _ c3 (by decide)) (by decide) (by decide) (by decide) (by decide) ho (fun _ _ => rfl) fun v a1 v1 v2 v3 v4 v5 => ?_
              refine an_num h hT v3 v4 (by decide) (by decide) (by decide) (by decide) v1 (fun _ _ => rfl) fun w a2 w1 w2 w3 w4 w5 => ?_
              refine an_num h hT w3 w4 (by decide) (by decide) (by decide) (by decide) v1 (fun _ _ => rfl) fun u a3 u1 u2 u3 u4 u5 => ?_
              show rAns σ x ρ n (rQ ρ a3 (rH σ x ρ n 102 3 v w u T)) _
              have hv := okI_t v2
              have hw := okI_t w2
              have hu := okI_t u2
              refine an_semi h hT u3 u4 (by decide) (by decide) (by decide) v1 (fun _ _ => rfl) (ct_endF hT (by omega) (by omega) w1 u1) fun a4 z1 z2 z3 => ?_
              exact ih a4 3 v w u _ (by omega) z1 z2 (hT.fl c4 hv.2 hw hu.2) (by decide) v1
          · rw [if_neg c3]
            by_cases c4 : tx (nx tx n a) = 110
            · rw [if_pos c4]
              by_cases c5 : T 4 = 1
              · rw [if_pos c5]; exact bad (by rw [c4]; exact decide_eq_false (by omega))
              · rw [if_neg c5, y1 (by rw [c4]; exact decide_eq_true (by omega)), c4]
                refine an_num h hT hs1 (hmd _ c4 (by decide)) (by decide) (by decide) (by decide) (by decide) ho (ok := okI 1 100) (fun v hv => by
                  show (true && decide (1 ≤ v)) = decide (1 ≤ v ∧ v < 100)
                  rw [Bool.true_and]
                  exact dec_and _ _ (by omega)) fun v a1 v1 v2 v3 v4 v5 => ?_
                show rAns σ x ρ n (rQ ρ a1 (rH σ x ρ n 110 1 v o2 o3 T)) _
                have hv := okI_t v2
                refine an_semi h hT v3 v4 (by decide) (by decide) (by decide) v1 (fun _ _ => rfl) ct_endL fun a2 z1 z2 z3 => ?_
                exact ih a2 1 v o2 o3 _ (by omega) z1 z2 (hT.nf hv) (by decide) v1
            · rw [if_neg c4]
              exact bad (by unfold letB; rw [if_neg c2, if_neg c3, if_neg c4, if_neg c1])
    · rw [if_neg hs]
      exact ⟨hT, nm, o1, o2, o3, by rw [rq_end h ha (by omega) (by decide), if_pos rfl]⟩
