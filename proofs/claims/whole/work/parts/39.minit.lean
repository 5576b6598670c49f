/-! ===== the reference's constructor; the law begins ===== -/
def MI (D : Nat → qE) (x : Nat) : Prop := (∃ z : Nat → Int32, D 0 = mC x 0 z ∧ z 0 = nI 0 ∧ z 1 = nI 0 ∧ z 2 = nI 0) ∧ D 1 = iA 120 (fun _ => 0) ∧ D 2 = iA 35 (layN (fun _ => 0) T0 35) ∧ (∃ f, D 3 = iF 35 f) ∧ D 4 = iA 22 (begP T0) ∧ D 5 = iF 220 (fun _ => 0) ∧ D 6 = iF 44 (fun _ => 0) ∧ D 7 = .inr (3, (2, .inl (fun j => nI (keptN (fun _ => false) j).toNat))) ∧ D 8 = iA 12 (fun _ => 0) ∧ D 9 = iF 22 (fun _ => 0) ∧ D 10 = lF 49 (fun _ => 0) ∧ D 11 = lF 49 (fun _ => 0)
theorem m_init {f0 : Nat → Option qE} {σ : qH} {x s : Nat} {C : Nat → qE} (h : HS f0 σ x 1 C s) (hc : C 0 = .inl (7, q_dfl 7)) : ∃ σ' D, q_call 17 [.ref x] σ = some (none, σ') ∧ HS f0 σ' x 12 D (s + 610) ∧ MI D x := by
  have E := k_17 (h.at 0 (by decide) hc)
  rw [e_17_0] at E
  obtain ⟨g1, C1, e1, H1, c1, d1⟩ := HS.newaU h 1 120 (by decide)
  replace H1 : HS f0 g1 x 2 C1 _ := H1
  rw [e1, q_obS, (h).1] at E
  have F1_0 := (d1 0 (by decide)).trans hc
  obtain ⟨g2, C2, e2, H2, c2, d2⟩ := HS.putU H1 0 (by decide) F1_0 (j := 1) (t := 2) (y := .ref (x + 1)) (show 1 < 19 by decide) rfl
  rw [e2, q_obS] at E
  have F2_1 := (d2 1 (by decide)).trans c1
  obtain ⟨g3, C3, e3, H3, c3, d3⟩ := HS.newaU H2 1 35 (by decide)
  replace H3 : HS f0 g3 x 3 C3 _ := H3
  rw [e3, q_obS, (H2).1] at E
  have F3_1 := (d3 1 (by decide)).trans F2_1
  have F3_0 := (d3 0 (by decide)).trans c2
  obtain ⟨g4, C4, e4, H4, c4, d4⟩ := HS.putU H3 0 (by decide) F3_0 (j := 3) (t := 2) (y := .ref (x + 2)) (show 3 < 19 by decide) rfl
  rw [e4, q_obS] at E
  have F4_1 := (d4 1 (by decide)).trans F3_1
  have F4_2 := (d4 2 (by decide)).trans c3
  obtain ⟨g5, C5, e5, H5, c5, d5⟩ := HS.newaU H4 1 35 (by decide)
  replace H5 : HS f0 g5 x 4 C5 _ := H5
  rw [e5, q_obS, (H4).1] at E
  have F5_1 := (d5 1 (by decide)).trans F4_1
  have F5_2 := (d5 2 (by decide)).trans F4_2
  have F5_0 := (d5 0 (by decide)).trans c4
  obtain ⟨g6, C6, e6, H6, c6, d6⟩ := HS.putU H5 0 (by decide) F5_0 (j := 4) (t := 2) (y := .ref (x + 3)) (show 4 < 19 by decide) rfl
  rw [e6, q_obS] at E
  have F6_1 := (d6 1 (by decide)).trans F5_1
  have F6_2 := (d6 2 (by decide)).trans F5_2
  have F6_3 := (d6 3 (by decide)).trans c5
  obtain ⟨g7, C7, e7, H7, c7, d7⟩ := HS.newaU H6 1 22 (by decide)
  replace H7 : HS f0 g7 x 5 C7 _ := H7
  rw [e7, q_obS, (H6).1] at E
  have F7_1 := (d7 1 (by decide)).trans F6_1
  have F7_2 := (d7 2 (by decide)).trans F6_2
  have F7_3 := (d7 3 (by decide)).trans F6_3
  have F7_0 := (d7 0 (by decide)).trans c6
  obtain ⟨g8, C8, e8, H8, c8, d8⟩ := HS.putU H7 0 (by decide) F7_0 (j := 5) (t := 2) (y := .ref (x + 4)) (show 5 < 19 by decide) rfl
  rw [e8, q_obS] at E
  have F8_1 := (d8 1 (by decide)).trans F7_1
  have F8_2 := (d8 2 (by decide)).trans F7_2
  have F8_3 := (d8 3 (by decide)).trans F7_3
  have F8_4 := (d8 4 (by decide)).trans c7
  obtain ⟨g9, C9, e9, H9, c9, d9⟩ := HS.newaU H8 1 220 (by decide)
  replace H9 : HS f0 g9 x 6 C9 _ := H9
  rw [e9, q_obS, (H8).1] at E
  have F9_1 := (d9 1 (by decide)).trans F8_1
  have F9_2 := (d9 2 (by decide)).trans F8_2
  have F9_3 := (d9 3 (by decide)).trans F8_3
  have F9_4 := (d9 4 (by decide)).trans F8_4
  have F9_0 := (d9 0 (by decide)).trans c8
  obtain ⟨g10, C10, e10, H10, c10, d10⟩ := HS.putU H9 0 (by decide) F9_0 (j := 6) (t := 2) (y := .ref (x + 5)) (show 6 < 19 by decide) rfl
  rw [e10, q_obS] at E
  have F10_1 := (d10 1 (by decide)).trans F9_1
  have F10_2 := (d10 2 (by decide)).trans F9_2
  have F10_3 := (d10 3 (by decide)).trans F9_3
  have F10_4 := (d10 4 (by decide)).trans F9_4
  have F10_5 := (d10 5 (by decide)).trans c9
  obtain ⟨g11, C11, e11, H11, c11, d11⟩ := HS.newaU H10 1 44 (by decide)
  replace H11 : HS f0 g11 x 7 C11 _ := H11
  rw [e11, q_obS, (H10).1] at E
  have F11_1 := (d11 1 (by decide)).trans F10_1
  have F11_2 := (d11 2 (by decide)).trans F10_2
  have F11_3 := (d11 3 (by decide)).trans F10_3
  have F11_4 := (d11 4 (by decide)).trans F10_4
  have F11_5 := (d11 5 (by decide)).trans F10_5
  have F11_0 := (d11 0 (by decide)).trans c10
  obtain ⟨g12, C12, e12, H12, c12, d12⟩ := HS.putU H11 0 (by decide) F11_0 (j := 8) (t := 2) (y := .ref (x + 6)) (show 8 < 19 by decide) rfl
  rw [e12, q_obS] at E
  have F12_1 := (d12 1 (by decide)).trans F11_1
  have F12_2 := (d12 2 (by decide)).trans F11_2
  have F12_3 := (d12 3 (by decide)).trans F11_3
  have F12_4 := (d12 4 (by decide)).trans F11_4
  have F12_5 := (d12 5 (by decide)).trans F11_5
  have F12_6 := (d12 6 (by decide)).trans c11
  obtain ⟨g13, C13, e13, H13, c13, d13⟩ := HS.newaU H12 3 2 (by decide)
  replace H13 : HS f0 g13 x 8 C13 _ := H13
  rw [e13, q_obS, (H12).1] at E
  have F13_1 := (d13 1 (by decide)).trans F12_1
  have F13_2 := (d13 2 (by decide)).trans F12_2
  have F13_3 := (d13 3 (by decide)).trans F12_3
  have F13_4 := (d13 4 (by decide)).trans F12_4
  have F13_5 := (d13 5 (by decide)).trans F12_5
  have F13_6 := (d13 6 (by decide)).trans F12_6
  have F13_0 := (d13 0 (by decide)).trans c12
  obtain ⟨g14, C14, e14, H14, c14, d14⟩ := HS.putU H13 0 (by decide) F13_0 (j := 9) (t := 2) (y := .ref (x + 7)) (show 9 < 19 by decide) rfl
  rw [e14, q_obS] at E
  have F14_1 := (d14 1 (by decide)).trans F13_1
  have F14_2 := (d14 2 (by decide)).trans F13_2
  have F14_3 := (d14 3 (by decide)).trans F13_3
  have F14_4 := (d14 4 (by decide)).trans F13_4
  have F14_5 := (d14 5 (by decide)).trans F13_5
  have F14_6 := (d14 6 (by decide)).trans F13_6
  have F14_7 := (d14 7 (by decide)).trans c13
  obtain ⟨g15, C15, e15, H15, c15, d15⟩ := HS.newaU H14 1 12 (by decide)
  replace H15 : HS f0 g15 x 9 C15 _ := H15
  rw [e15, q_obS, (H14).1] at E
  have F15_1 := (d15 1 (by decide)).trans F14_1
  have F15_2 := (d15 2 (by decide)).trans F14_2
  have F15_3 := (d15 3 (by decide)).trans F14_3
  have F15_4 := (d15 4 (by decide)).trans F14_4
  have F15_5 := (d15 5 (by decide)).trans F14_5
  have F15_6 := (d15 6 (by decide)).trans F14_6
  have F15_7 := (d15 7 (by decide)).trans F14_7
  have F15_0 := (d15 0 (by decide)).trans c14
  obtain ⟨g16, C16, e16, H16, c16, d16⟩ := HS.putU H15 0 (by decide) F15_0 (j := 10) (t := 2) (y := .ref (x + 8)) (show 10 < 19 by decide) rfl
  rw [e16, q_obS] at E
  have F16_1 := (d16 1 (by decide)).trans F15_1
  have F16_2 := (d16 2 (by decide)).trans F15_2
  have F16_3 := (d16 3 (by decide)).trans F15_3
  have F16_4 := (d16 4 (by decide)).trans F15_4
  have F16_5 := (d16 5 (by decide)).trans F15_5
  have F16_6 := (d16 6 (by decide)).trans F15_6
  have F16_7 := (d16 7 (by decide)).trans F15_7
  have F16_8 := (d16 8 (by decide)).trans c15
  obtain ⟨g17, C17, e17, H17, c17, d17⟩ := HS.newaU H16 1 22 (by decide)
  replace H17 : HS f0 g17 x 10 C17 _ := H17
  rw [e17, q_obS, (H16).1] at E
  have F17_1 := (d17 1 (by decide)).trans F16_1
  have F17_2 := (d17 2 (by decide)).trans F16_2
  have F17_3 := (d17 3 (by decide)).trans F16_3
  have F17_4 := (d17 4 (by decide)).trans F16_4
  have F17_5 := (d17 5 (by decide)).trans F16_5
  have F17_6 := (d17 6 (by decide)).trans F16_6
  have F17_7 := (d17 7 (by decide)).trans F16_7
  have F17_8 := (d17 8 (by decide)).trans F16_8
  have F17_0 := (d17 0 (by decide)).trans c16
  obtain ⟨g18, C18, e18, H18, c18, d18⟩ := HS.putU H17 0 (by decide) F17_0 (j := 16) (t := 2) (y := .ref (x + 9)) (show 16 < 19 by decide) rfl
  rw [e18, q_obS] at E
  have F18_1 := (d18 1 (by decide)).trans F17_1
  have F18_2 := (d18 2 (by decide)).trans F17_2
  have F18_3 := (d18 3 (by decide)).trans F17_3
  have F18_4 := (d18 4 (by decide)).trans F17_4
  have F18_5 := (d18 5 (by decide)).trans F17_5
  have F18_6 := (d18 6 (by decide)).trans F17_6
  have F18_7 := (d18 7 (by decide)).trans F17_7
  have F18_8 := (d18 8 (by decide)).trans F17_8
  have F18_9 := (d18 9 (by decide)).trans c17
  obtain ⟨g19, C19, e19, H19, c19, d19⟩ := HS.newaU H18 2 49 (by decide)
  replace H19 : HS f0 g19 x 11 C19 _ := H19
  rw [e19, q_obS, (H18).1] at E
  have F19_1 := (d19 1 (by decide)).trans F18_1
  have F19_2 := (d19 2 (by decide)).trans F18_2
  have F19_3 := (d19 3 (by decide)).trans F18_3
  have F19_4 := (d19 4 (by decide)).trans F18_4
  have F19_5 := (d19 5 (by decide)).trans F18_5
  have F19_6 := (d19 6 (by decide)).trans F18_6
  have F19_7 := (d19 7 (by decide)).trans F18_7
  have F19_8 := (d19 8 (by decide)).trans F18_8
  have F19_9 := (d19 9 (by decide)).trans F18_9
  have F19_0 := (d19 0 (by decide)).trans c18
  obtain ⟨g20, C20, e20, H20, c20, d20⟩ := HS.putU H19 0 (by decide) F19_0 (j := 17) (t := 2) (y := .ref (x + 10)) (show 17 < 19 by decide) rfl
  rw [e20, q_obS] at E
  have F20_1 := (d20 1 (by decide)).trans F19_1
  have F20_2 := (d20 2 (by decide)).trans F19_2
  have F20_3 := (d20 3 (by decide)).trans F19_3
  have F20_4 := (d20 4 (by decide)).trans F19_4
  have F20_5 := (d20 5 (by decide)).trans F19_5
  have F20_6 := (d20 6 (by decide)).trans F19_6
  have F20_7 := (d20 7 (by decide)).trans F19_7
  have F20_8 := (d20 8 (by decide)).trans F19_8
  have F20_9 := (d20 9 (by decide)).trans F19_9
  have F20_10 := (d20 10 (by decide)).trans c19
  obtain ⟨g21, C21, e21, H21, c21, d21⟩ := HS.newaU H20 2 49 (by decide)
  replace H21 : HS f0 g21 x 12 C21 _ := H21
  rw [e21, q_obS, (H20).1] at E
  have F21_1 := (d21 1 (by decide)).trans F20_1
  have F21_2 := (d21 2 (by decide)).trans F20_2
  have F21_3 := (d21 3 (by decide)).trans F20_3
  have F21_4 := (d21 4 (by decide)).trans F20_4
  have F21_5 := (d21 5 (by decide)).trans F20_5
  have F21_6 := (d21 6 (by decide)).trans F20_6
  have F21_7 := (d21 7 (by decide)).trans F20_7
  have F21_8 := (d21 8 (by decide)).trans F20_8
  have F21_9 := (d21 9 (by decide)).trans F20_9
  have F21_10 := (d21 10 (by decide)).trans F20_10
  have F21_0 := (d21 0 (by decide)).trans c20
  obtain ⟨g22, C22, e22, H22, c22, d22⟩ := HS.putU H21 0 (by decide) F21_0 (j := 18) (t := 2) (y := .ref (x + 11)) (show 18 < 19 by decide) rfl
  rw [e22, q_obS] at E
  have F22_1 := (d22 1 (by decide)).trans F21_1
  have F22_2 := (d22 2 (by decide)).trans F21_2
  have F22_3 := (d22 3 (by decide)).trans F21_3
  have F22_4 := (d22 4 (by decide)).trans F21_4
  have F22_5 := (d22 5 (by decide)).trans F21_5
  have F22_6 := (d22 6 (by decide)).trans F21_6
  have F22_7 := (d22 7 (by decide)).trans F21_7
  have F22_8 := (d22 8 (by decide)).trans F21_8
  have F22_9 := (d22 9 (by decide)).trans F21_9
  have F22_10 := (d22 10 (by decide)).trans F21_10
  have F22_11 := (d22 11 (by decide)).trans c21
  have M0 : g22.1 x = some (mC x 0 (fun _ => 0)) := H22.at 0 (by decide) c22
  have M2 : g22.1 (x + 2) = some (iA 35 (fun _ => 0)) := H22.at 2 (by decide) F22_2
  have M3 : g22.1 (x + 3) = some (iF 35 (fun _ => 0)) := H22.at 3 (by decide) F22_3
  have M4 : g22.1 (x + 4) = some (iA 22 (fun _ => 0)) := H22.at 4 (by decide) F22_4
  have M7 : g22.1 (x + 7) = some (.inr (3, (2, .inl (fun j => nI ((fun _ => false : Nat → Bool) j).toNat)))) := H22.at 7 (by decide) F22_7
  have HH : HS f0 g22 x 12 C22 (s + 610) := H22
  have E' : q_call 17 [.ref x] σ = q_ob (q_cI (q_call 15 [.ref x] g22)) none fun p23 => q_ob (q_cV (q_call 16 [.ref x] p23.2)) none fun h24 => some (none, h24) := E
  have K0 : ∀ {e w}, (q_upd (q_upd g22 (x + 3) e) x (mC x 0 w)).1 x = some (mC x 0 w) := fun {e w} => u_s ..
  have K2 : ∀ {e w}, (q_upd (q_upd g22 (x + 3) e) x w).1 (x + 2) = some (iA 35 (fun _ => 0)) := fun {e w} => (u_n _ _ (by omega)).trans ((u_n _ _ (by omega)).trans M2)
  have K3 : ∀ {e w}, (q_upd (q_upd g22 (x + 3) e) x w).1 (x + 3) = some e := fun {e w} => (u_n _ _ (by omega)).trans (u_s ..)
  have K4 : ∀ {e w}, (q_upd (q_upd g22 (x + 3) e) x w).1 (x + 4) = some (iA 22 (fun _ => 0)) := fun {e w} => (u_n _ _ (by omega)).trans ((u_n _ _ (by omega)).trans M4)
  have K7 : ∀ {e w}, (q_upd (q_upd g22 (x + 3) e) x w).1 (x + 7) = some (.inr (3, (2, .inl (fun j => nI ((fun _ => false : Nat → Bool) j).toNat)))) := fun {e w} => (u_n _ _ (by omega)).trans ((u_n _ _ (by omega)).trans M7)
  rw [m_reads0 M0 M3, m_nextE K0 (show (0 : Int32) ≤ nI 0 by decide), q_cVS, q_obS, u_u, e_15_38, m_sort K0, q_obS] at E'
  generalize hz : upI (upI (upI (upI (upI (fun _ => (0 : Int32)) 3 (nI 0)) 5 (upI (fun _ => (0 : Int32)) 3 (nI 0) 3)) 4 (nI 0)) 6 (-1)) 3 (upI (fun _ => (0 : Int32)) 3 (nI 0) 3 + nI 0) = z at E'
  rw [if_pos (by rw [← hz]; rfl), q_cIS, q_obS] at E'
  dsimp only at E'
  rw [m_begins K0 K2 K3 (fun j hj => draft0_i _ hj) K4 (fun j hj => rfl) K7, q_cVS, q_obS] at E'
  refine ⟨_, _, E', (((((HH.upd (k := 3) (by decide) _).upd (k := 0) (by decide) _).upd (k := 2) (by decide) _).upd (k := 4) (by decide) _).upd (k := 0) (by decide) _).upd (k := 7) (by decide) _, ⟨_, rfl, by rw [← hz]; rfl, rfl, rfl⟩, F22_1, rfl, ⟨_, rfl⟩, rfl, F22_5, F22_6, rfl, F22_8, F22_9, F22_10, F22_11⟩
