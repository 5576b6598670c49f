/-! ===== the relation between the pure heap and the machine's, and the rows that make or change a cell ===== -/
def q_tys (cy : Nat → ClassId) : List (ClassId × FieldType) := [(cy 0, .char), (cy 1, .int), (cy 2, .long), (cy 3, .boolean), (cy 4, .object RX0)]
def q_cell (D : va_G) (cy : Nat → ClassId) (lo : Nat) (U : State) (H : Heap) (a : Nat) (e : qE) : Prop := match e with
  | .inl o => va_at D vwCl (a, .inr o) H ∧ lo ≤ a
  | .inr x => (x.1 = 9 ∧ ∃ f, x.2.2 = .inl f ∧ va_X a x.2.1 f U H) ∨ (x.1 < 5 ∧ va_at D vwCl (a, .inl (cy x.1, x.2)) H ∧ lo ≤ a)
def q_W (D : va_G) (cy : Nat → ClassId) (lo : Nat) (σ : qH) (U : State) (H : Heap) : Prop := H.size = σ.2.1 ∧ ∀ (a : Nat) (e : qE), σ.1 a = some e → q_cell D cy lo U H a e
def q_KK (D : va_G) (cy : Nat → ClassId) (U : State) : Prop := va_K D vwCl (q_tys cy) U ∧ (∀ w ∈ q_nest, va_Nw w U) ∧ va_AO RX0 U
theorem q_cell.lt {D : va_G} {cy : Nat → ClassId} {lo : Nat} {U : State} {H : Heap} {a : Nat} {e : qE} (h : q_cell D cy lo U H a e) : a < H.size := by
  cases e with
  | inl o => exact h.1.lt
  | inr x =>
    rcases h with ⟨-, f, -, scr, h1, -⟩ | ⟨-, h1, -⟩
    · exact (Array.getElem?_eq_some_iff.mp h1).1
    · exact h1.lt
theorem q_cell.kept {D : va_G} {cy : Nat → ClassId} {lo : Nat} {U : State} {H H1 : Heap} {a : Nat} {e : qE} (h : q_cell D cy lo U H a e) (hq : H1[a]? = H[a]?) : q_cell D cy lo U H1 a e := by
  cases e with
  | inl o => exact ⟨h.1.kept hq, h.2⟩
  | inr x =>
    rcases h with ⟨h0, f, h1, h2⟩ | ⟨h0, h1, h2⟩
    · exact Or.inl ⟨h0, f, h1, h2.kept hq⟩
    · exact Or.inr ⟨h0, h1.kept hq, h2⟩
theorem q_cell.moved {D : va_G} {cy : Nat → ClassId} {lo : Nat} {u U : State} {H : Heap} {a : Nat} {e : qE} (hvm : u.vm.Alike U.vm) (h : q_cell D cy lo u H a e) : q_cell D cy lo U H a e := by
  cases e with
  | inl o => exact h
  | inr x =>
    rcases h with ⟨h0, f, h1, h2⟩ | h
    · exact Or.inl ⟨h0, f, h1, h2.moved hvm⟩
    · exact Or.inr h
theorem q_W.moved {D : va_G} {cy : Nat → ClassId} {lo : Nat} {σ : qH} {u U : State} {H : Heap} (hvm : u.vm.Alike U.vm) (h : q_W D cy lo σ u H) : q_W D cy lo σ U H := ⟨h.1, fun a e he => (h.2 a e he).moved hvm⟩
theorem q_W.upd {D : va_G} {cy : Nat → ClassId} {lo : Nat} {σ : qH} {U : State} {H H1 : Heap} {a : Nat} {e : qE} (h : q_W D cy lo σ U H) (hz : H1.size = H.size) (ho : ∀ q : Nat, q ≠ a → H1[q]? = H[q]?) (he : q_cell D cy lo U H1 a e) : q_W D cy lo (q_upd σ a e) U H1 := by
  refine ⟨hz.trans h.1, fun b e' hb => ?_⟩
  unfold q_upd at hb
  dsimp only at hb
  split at hb
  · next hba => cases hb; rw [hba]; exact he
  · next hba => exact (h.2 b e' hb).kept (ho b hba)
theorem q_W.new {D : va_G} {cy : Nat → ClassId} {lo n : Nat} {σ : qH} {U : State} {H H1 : Heap} {e : qE} (h : q_W D cy lo σ U H) (hz : H1.size = H.size + 1) (ho : ∀ q : Nat, q < H.size → H1[q]? = H[q]?) (he : q_cell D cy lo U H1 H.size e) : q_W D cy lo (q_new σ e n) U H1 := by
  refine ⟨by rw [hz, h.1]; rfl, fun b e' hb => ?_⟩
  unfold q_new at hb
  dsimp only at hb
  split at hb
  · next hba => cases hb; rw [hba, ← h.1]; exact he
  · next hba => exact (h.2 b e' hb).kept (ho b (h.2 b e' hb).lt)
theorem q_W.same {D : va_G} {cy : Nat → ClassId} {lo : Nat} {σ : qH} {U : State} {H H1 : Heap} (h : q_W D cy lo σ U H) (e : H1 = H) : q_W D cy lo σ U H1 := e ▸ h
theorem q_cls_at : ∀ ci, ci < 8 → vwCl[ci]? = some (q_cls ci) := fun ci h => match ci, h with
  | 0, _ => rfl
  | 1, _ => rfl
  | 2, _ => rfl
  | 3, _ => rfl
  | 4, _ => rfl
  | 5, _ => rfl
  | 6, _ => rfl
  | 7, _ => rfl
  | n + 8, h => absurd h (by omega)
def q_lp (ci : Nat) : List Nat := match ci with
  | 0 => [1102, 1104, 1106, 1108, 1110, 1112]
  | 1 => [1152, 1154, 1156, 1158, 1160, 1162, 1164]
  | 2 => [1128, 1130, 1132]
  | 3 => [1060, 1062, 1064, 1066, 1068, 1070, 1072, 1074, 1076, 1078]
  | 4 => [2021, 2023, 2025, 2027, 2029, 2031, 2033, 2035, 2037]
  | 5 => [1180, 1182, 1184, 1186, 1188]
  | 6 => [1204, 1206, 1208, 1210, 1212, 1214, 1216, 1218, 1220, 1222, 1224]
  | _ => [4002, 4004, 4006, 4008, 4010, 4012, 4014, 4016, 4018, 4020, 4022, 4024, 4026, 4028, 4030, 4032, 4034, 4036, 4038]
def q_layok (ci : Nat) : Bool := (List.range (q_cls ci).2.2).all fun j => q_gd ((q_lp ci).getD j 0) (u_lay (q_cls ci).1 (q_cls ci).2.1 j)
set_option maxRecDepth 100000 in
theorem q_layok_all : (List.range 8).all q_layok = true := by decide +kernel
theorem q_lays (ci : Nat) (h : ci < 8) : ∀ w ∈ u_ws (q_cls ci).1 (q_cls ci).2.1 (q_cls ci).2.2, w ∈ q_WS := by
  intro w hw
  have h1 := List.all_eq_true.mp q_layok_all ci (List.mem_range.mpr h)
  obtain ⟨j, hj, rfl⟩ := List.mem_map.mp hw
  exact q_gd_in (List.all_eq_true.mp h1 j hj)
def q_ftok (ci : Nat) : Bool := (List.range (q_cls ci).2.2).all fun j => decide (parseFieldDescriptor ((q_cls ci).2.1 j).2.2.1 = some (q_fty ci j)) && decide (defaultValue (q_fty ci j) = vp_V (q_dfl ci) j) && (List.range (q_cls ci).2.2).all fun b => decide (j = b ∨ ((q_cls ci).2.1 j).2.1 ≠ ((q_cls ci).2.1 b).2.1)
set_option maxRecDepth 100000 in
theorem q_ftok_all : (List.range 8).all q_ftok = true := by decide +kernel
theorem q_fts (ci : Nat) (h : ci < 8) : (∀ k, k < (q_cls ci).2.2 → parseFieldDescriptor ((q_cls ci).2.1 k).2.2.1 = some (q_fty ci k)) ∧ (∀ k, k < (q_cls ci).2.2 → defaultValue (q_fty ci k) = vp_V (q_dfl ci) k) ∧ (∀ a, a < (q_cls ci).2.2 → ∀ b, b < (q_cls ci).2.2 → a ≠ b → ((q_cls ci).2.1 a).2.1 ≠ ((q_cls ci).2.1 b).2.1) := by
  have h1 := List.all_eq_true.mp q_ftok_all ci (List.mem_range.mpr h)
  refine ⟨fun k hk => ?_, fun k hk => ?_, fun a ha b hb hab => ?_⟩
  · have h2 := List.all_eq_true.mp h1 k (List.mem_range.mpr hk)
    rw [Bool.and_eq_true, Bool.and_eq_true] at h2
    exact of_decide_eq_true h2.1.1
  · have h2 := List.all_eq_true.mp h1 k (List.mem_range.mpr hk)
    rw [Bool.and_eq_true, Bool.and_eq_true] at h2
    exact of_decide_eq_true h2.1.2
  · have h2 := List.all_eq_true.mp h1 a (List.mem_range.mpr ha)
    rw [Bool.and_eq_true, Bool.and_eq_true] at h2
    rcases of_decide_eq_true (List.all_eq_true.mp h2.2 b (List.mem_range.mpr hb)) with h3 | h3
    · exact absurd h3 hab
    · exact h3
theorem q_objw : q_gd 1018 (.instanceMethod objectInit) = true ∧ q_gd 1019 (.code objectInit ⟨#[0xb1]⟩ 1 none) = true := by decide +kernel
theorem q_one {D : va_G} {cl : List vw_C} {q : Nat × va_E} {H : Heap} (h : va_at D cl q H) : va_P D cl [q] H := by
  intro k x hk
  cases k with
  | zero => cases hk; exact h
  | succ k => simp at hk
section QR
variable {p : Program} {l : Launch} {e : Env} {R : Room} {s : State} {m : MethodId} {args : Array Value} {below : List Frame} {meth : Method} {c : Code} {H : Heap} {locs : List Loc} {cells slots : Nat} {Q : State → Prop}
variable {cc : ByteArray} {pc : Nat} {ls : Array Slot} {rest : List Value} {D : va_G} {cy : Nat → ClassId} {A : Nat → Prop} {a : Nat} {H0 : Heap}
theorem q_rget (hx : p.tables.exec = Jvm.exec) (hb : c.code = cc) {own : String} {ci j index : Nat} (hts : ∀ w ∈ q_WS, w.before args s = true) (hown : s.vm.findClass own = some m.cls) (hK : va_K D vwCl (q_tys cy) s) {fs : List Value} (hat : va_at D vwCl (a, .inr (ci, fs)) H) (hci : ci < 8) (hj : j < (q_cls ci).2.2)
    (hlink : (Cond.fieldLink own index ((q_cls ci).2.1 j).1 ((q_cls ci).2.1 j).2.1 ((q_cls ci).2.1 j).2.2.1) ∈ q_WS) {v : Value} (hv : fs[j]? = some v) (hdg : decode cc pc = .ok (.getfield index, 3))
    (kk : W p l e R s m args below meth c H locs cells slots Q (F0 m (pc + 3) ls (v :: rest))) : W p l e R s m args below meth c H locs cells slots Q (F0 m pc ls (.ref a :: rest)) :=
  va_get (ws := [(a, .inr (ci, fs))]) (C := (q_cls ci).1) (T := (q_cls ci).2.1) (N := (q_cls ci).2.2) hx hb hts (q_lays ci hci) hown hK (q_one hat) 0 rfl (q_cls_at ci hci) j hj (hts _ hlink) (fun _ h => h) hv hdg kk
theorem q_rput (hx : p.tables.exec = Jvm.exec) (hb : c.code = cc) {own : String} {ci j index : Nat} (hts : ∀ w ∈ q_WS, w.before args s = true) (hown : s.vm.findClass own = some m.cls) (hK : va_K D vwCl (q_tys cy) s) {fs : List Value} (hat : va_at D vwCl (a, .inr (ci, fs)) H) (hS : va_S A H0 H locs) (ha : A a) (hci : ci < 8) (hj : j < (q_cls ci).2.2)
    (hlink : (Cond.fieldLink own index ((q_cls ci).2.1 j).1 ((q_cls ci).2.1 j).2.1 ((q_cls ci).2.1 j).2.2.1) ∈ q_WS) {v : Value} (hfin : ((q_cls ci).2.1 j).2.2.2 = true → meth.name = "<init>" ∧ ((q_cls ci).2.1 j).1 = own) (hn : narrow (q_fty ci j) v = v) (hfit : fits (q_fty ci j) v = true) (hl : j < fs.length) (hdg : decode cc pc = .ok (.putfield index, 3))
    (kk : ∀ (H1 : Heap) (locs1 : List Loc), va_at D vwCl (a, .inr (ci, fs.set j v)) H1 → H1.size = H.size → (∀ q : Nat, q ≠ a → H1[q]? = H[q]?) → va_S A H0 H1 locs1 → W p l e R s m args below meth c H1 locs1 cells slots Q (F0 m (pc + 3) ls rest)) : W p l e R s m args below meth c H locs cells slots Q (F0 m pc ls (v :: .ref a :: rest)) := by
  obtain ⟨hft, -, hnm⟩ := q_fts ci hci
  have hc := q_cls_at ci hci
  have hlays := u_lays (args := args) (s := s) hts (q_lays ci hci) hj
  have hap := va_apart (own := own) (D := D) (cl := vwCl) (tys := q_tys cy) hts (q_lays ci hci) (q_fty ci) hft hnm hK hc
  obtain ⟨r, h1, cell, q1, q2, q3, q4⟩ := hat
  have hr : r = q_cls ci := Option.some.inj (h1.symm.trans hc)
  subst hr
  obtain ⟨hSl, hfc, kC, hkC, hkind⟩ := hK.1 ci _ hc
  obtain ⟨cf, kf, fi, f, hi, hsl⟩ := hSl j hj
  have hst := (u_facts hfc hkC hlays hi).1
  have fin : ∀ (H1 : Heap), H1[a]? = some (cell.setSlot f.slot v) → H1.size = H.size → (∀ q, q ≠ a → H1[q]? = H[q]?) → W p l e R s m args below meth c H1 (locs ++ [⟨a, f.slot⟩]) cells slots Q (F0 m (pc + 3) ls rest) := by
    intro H1 e1 e2 e3
    rw [hsl] at e1 ⊢
    exact kk H1 _ ⟨_, hc, t_OB.to (V := updV (vp_V fs) j v) ⟨_, e1, q2, q3, t_set q4 hap hj v⟩ (fun i _ => vp_updV_set hl v i)⟩ e2 e3 (hS.put e2 e3 ha)
  by_cases hf : ((q_cls ci).2.1 j).2.2.2 = true
  · obtain ⟨hin, hdecl⟩ := hfin hf
    have hlay := hts _ (q_lays ci hci _ (u_in_lay hj))
    unfold u_lay at hlay
    rw [if_pos hf] at hlay
    have hcf : m.cls = cf := by
      obtain ⟨_, _, c', _, _, _, -, -, hf', -, -, -, hown2, -⟩ := Cond.laysFinal_spec hlay
      have e1 : c' = cf := by have := hi.symm.trans hf'; simp at this; exact this.1.symm
      rw [hdecl] at hown2
      rw [← e1]; exact Option.some.inj (hown.symm.trans hown2)
    have h6 := u_fits hfc hkC hkind (Or.inr hlay) hi (hft j hj) hn hfit
    exact W.putFinK hx hb hown (hts _ hlink) hi hst hcf hin (by rw [q2]; exact h6) q1 q3 (by rw [hsl]; exact k2_hasslot (q4 j hj)) rfl rfl hdg fin
  · have hlay := hts _ (q_lays ci hci _ (u_in_lay hj))
    unfold u_lay at hlay
    rw [if_neg hf] at hlay
    have h6 := u_store hfc hkC hkind hlay hi (hft j hj) hn hfit
    exact W.putK hx hb (f := f) ⟨hown, hts _ hlink, ⟨_, _, _, hi⟩, hst⟩ (by rw [q2]; exact h6) q1 q3 (by rw [hsl]; exact k2_hasslot (q4 j hj)) rfl rfl hdg fin
theorem q_rnew (hx : p.tables.exec = Jvm.exec) (hb : c.code = cc) {own : String} {ci index : Nat} (hts : ∀ w ∈ q_WS, w.before args s = true) (hown : s.vm.findClass own = some m.cls) (hK : va_K D vwCl (q_tys cy) s) (hS : va_S A H0 H locs) (hci : ci < 8)
    (hcl : Cond.classLink own index (q_cls ci).1 ∈ q_WS) (hinst : Cond.instantiable (q_cls ci).1 (q_cls ci).2.2 ∈ q_WS) (hini : Cond.initialized (q_cls ci).1 ∈ q_WS) (hcells : cells + 1 ≤ R.cells) (hslots : slots + (q_cls ci).2.2 ≤ R.slots) (hdg : decode cc pc = .ok (.new index, 3))
    (kk : ∀ H1 : Heap, va_at D vwCl (H.size, .inr (ci, q_dfl ci)) H1 → H1.size = H.size + 1 → (∀ q : Nat, q < H.size → H1[q]? = H[q]?) → va_S A H0 H1 locs → W p l e R s m args below meth c H1 locs (cells + 1) (slots + (q_cls ci).2.2) Q (F0 m (pc + 3) ls (.ref H.size :: rest))) : W p l e R s m args below meth c H locs cells slots Q (F0 m pc ls rest) := by
  obtain ⟨hft, hdf, -⟩ := q_fts ci hci
  have hc := q_cls_at ci hci
  have hKn := hK.1 ci _ hc
  refine W.newcK hx hb hown (hts _ hcl) (hts _ hinst) (hts _ hini) rfl hdg hcells hslots hKn.2.1 rfl fun H1 kC hkC e1 z1 o1 => ?_
  exact kk H1 ⟨_, hc, (u_born (q_fty ci) hts (q_lays ci hci) hKn hkC e1 hft).to hdf⟩ z1 o1 ⟨Nat.le_trans hS.1 (by omega), fun x h1 h2 => (o1 x (Nat.lt_of_lt_of_le h1 hS.1)).trans (hS.2.1 x h1 h2), hS.2.2⟩
theorem q_rnewa (hx : p.tables.exec = Jvm.exec) (hb : c.code = cc) {k : Nat} (hk : k < 4) {atype : ArrayType} (hty : newarray.typeOf atype = q_akt k) (hts : ∀ w ∈ q_WS, w.before args s = true) (harr : Cond.arrayClass (newarray.typeOf atype) ∈ q_WS) (hK : va_K D vwCl (q_tys cy) s) (hS : va_S A H0 H locs)
    {n : Int32} (hn : ¬ n < 0) (hbig : ¬ 60000 < n.toNatClampNeg) (hcells : cells + 1 ≤ R.cells) (hslots : slots + n.toNatClampNeg ≤ R.slots) (hdg : decode cc pc = .ok (.newarray atype, 2))
    (kk : ∀ H1 : Heap, va_at D vwCl (H.size, .inl (cy k, q_zero k n.toNatClampNeg)) H1 → H1.size = H.size + 1 → (∀ q : Nat, q < H.size → H1[q]? = H[q]?) → va_S A H0 H1 locs → W p l e R s m args below meth c H1 locs (cells + 1) (slots + n.toNatClampNeg) Q (F0 m (pc + 2) ls (.ref H.size :: rest))) : W p l e R s m args below meth c H locs cells slots Q (F0 m pc ls (.int n :: rest)) := by
  refine va_newaK hx hb (hts _ harr) rfl hdg rfl hn rfl ?_ hcells hslots rfl fun H1 cA e1 z1 o1 hAr hNm => ?_
  · rw [hty]
    have h8 : componentBytes (q_akt k) ≤ 8 := by
      match k, hk with
      | 0, _ => decide
      | 1, _ => decide
      | 2, _ => decide
      | 3, _ => decide
    exact Nat.le_trans (Nat.mul_le_mul (Nat.not_lt.mp hbig) h8) (by decide)
  · rw [hty] at e1 hAr hNm
    have hcy : cA = cy k ∧ vp_cell (cy k) (q_zero k n.toNatClampNeg) = arrV (cy k) n.toNatClampNeg (fun _ => defaultValue (q_akt k)) := by
      match k, hk with
      | 0, _ => exact ⟨Option.some.inj (hNm.symm.trans (hK.2 0 _ rfl).2), rfl⟩
      | 1, _ => exact ⟨Option.some.inj (hNm.symm.trans (hK.2 1 _ rfl).2), rfl⟩
      | 2, _ => exact ⟨Option.some.inj (hNm.symm.trans (hK.2 2 _ rfl).2), rfl⟩
      | 3, _ => exact ⟨Option.some.inj (hNm.symm.trans (hK.2 3 _ rfl).2), rfl⟩
    obtain ⟨rfl, hv⟩ := hcy
    exact kk H1 (by show H1[H.size]? = some (vp_cell _ _); rw [hv]; exact e1) z1 o1 ⟨Nat.le_trans hS.1 (by omega), fun x h1 h2 => (o1 x (Nat.lt_of_lt_of_le h1 hS.1)).trans (hS.2.1 x h1 h2), hS.2.2⟩
theorem q_rnewq (hx : p.tables.exec = Jvm.exec) (hb : c.code = cc) {own : String} {index : Nat} (hts : ∀ w ∈ q_WS, w.before args s = true) (hown : s.vm.findClass own = some m.cls) (hcl : Cond.classLink own index RX0 ∈ q_WS) (hover : va_AO RX0 s) (hK : va_K D vwCl (q_tys cy) s) (hS : va_S A H0 H locs)
    {n : Int32} (hn : ¬ n < 0) (hbig : ¬ 60000 < n.toNatClampNeg) (hcells : cells + 1 ≤ R.cells) (hslots : slots + n.toNatClampNeg ≤ R.slots) (hdg : decode cc pc = .ok (.anewarray index, 3))
    (kk : ∀ H1 : Heap, va_at D vwCl (H.size, .inl (cy 4, q_zero 4 n.toNatClampNeg)) H1 → H1.size = H.size + 1 → (∀ q : Nat, q < H.size → H1[q]? = H[q]?) → va_S A H0 H1 locs → W p l e R s m args below meth c H1 locs (cells + 1) (slots + n.toNatClampNeg) Q (F0 m (pc + 3) ls (.ref H.size :: rest))) : W p l e R s m args below meth c H locs cells slots Q (F0 m pc ls (.int n :: rest)) := by
  refine W.anew hx hb hown (hts _ hcl) (va_AO.use hover) rfl hdg rfl hn (by omega) hcells hslots fun cA kA comp f1 f2 f3 f4 => ?_
  generalize hH1 : H.push ({ cls := cA, slots := Array.replicate n.toNatClampNeg .null, vm := .none } : Cell) = H1
  have z1 : H1.size = H.size + 1 := by rw [← hH1, Array.size_push]
  have e1 : H1[H.size]? = some (arrV cA n.toNatClampNeg (fun _ => .null)) := by rw [← hH1, Array.getElem?_push_size, ← arrV_new]
  have o1 : ∀ q : Nat, q < H.size → H1[q]? = H[q]? := fun q hq => by rw [← hH1, Array.getElem?_push, if_neg (Nat.ne_of_lt hq)]
  obtain ⟨_, _, _, _, _, g4⟩ := (hK.2 4 _ rfl).2
  have hcy : cA = cy 4 := Option.some.inj (f1.symm.trans g4)
  subst hcy
  exact kk H1 e1 z1 o1 ⟨Nat.le_trans hS.1 (by omega), fun x h1 h2 => (o1 x (Nat.lt_of_lt_of_le h1 hS.1)).trans (hS.2.1 x h1 h2), hS.2.2⟩
theorem q_riast (hx : p.tables.exec = Jvm.exec) (hb : c.code = cc) (hK : va_K D vwCl (q_tys cy) s) {n : Nat} {f : Nat → Int32} (hat : va_at D vwCl (a, .inl (cy 1, (n, .inl f))) H) (hS : va_S A H0 H locs) (ha : A a) {i : Int32} {x : Int32} (hin : ¬ (i < 0 ∨ n ≤ i.toNatClampNeg)) (hdg : decode cc pc = .ok (.iastore, 1))
    (kk : ∀ (H1 : Heap) (locs1 : List Loc), va_at D vwCl (a, .inl (cy 1, (n, .inl (upd f i.toNatClampNeg x)))) H1 → H1.size = H.size → (∀ q : Nat, q ≠ a → H1[q]? = H[q]?) → va_S A H0 H1 locs1 → W p l e R s m args below meth c H1 locs1 cells slots Q (F0 m (pc + 1) ls rest)) : W p l e R s m args below meth c H locs cells slots Q (F0 m pc ls (.int x :: .int i :: .ref a :: rest)) := by
  refine W.iast hx hb hat ((hK.2 1 _ rfl).1 n (fun j => .int (f j))) (fun q => by cases q) (by show ¬ (i < 0 ∨ (arrV _ _ _).slots.size ≤ _); rw [arrV_size]; exact hin) rfl rfl hdg fun H1 e z oq => ?_
  refine kk H1 _ ?_ z oq (hS.put z oq ha)
  show H1[a]? = some (vp_cell _ _)
  rw [e]
  rw [vp_cell_i, vp_cell_i, arrV_store]
  congr 2
  funext q
  by_cases hq : q = i.toNatClampNeg
  · subst hq
    simp [updV, upd]
    try rfl
  · simp [updV, upd, hq]
theorem q_rcast (hx : p.tables.exec = Jvm.exec) (hb : c.code = cc) (hK : va_K D vwCl (q_tys cy) s) {n : Nat} {f : Nat → Int32} (hat : va_at D vwCl (a, .inl (cy 0, (n, .inl f))) H) (hS : va_S A H0 H locs) (ha : A a) {i : Int32} {x : Int32} (hin : ¬ (i < 0 ∨ n ≤ i.toNatClampNeg)) (hdg : decode cc pc = .ok (.castore, 1))
    (kk : ∀ (H1 : Heap) (locs1 : List Loc), va_at D vwCl (a, .inl (cy 0, (n, .inl (upd f i.toNatClampNeg (vp_nar .char x))))) H1 → H1.size = H.size → (∀ q : Nat, q ≠ a → H1[q]? = H[q]?) → va_S A H0 H1 locs1 → W p l e R s m args below meth c H1 locs1 cells slots Q (F0 m (pc + 1) ls rest)) : W p l e R s m args below meth c H locs cells slots Q (F0 m pc ls (.int x :: .int i :: .ref a :: rest)) := by
  refine W.cast hx hb hat ((hK.2 0 _ rfl).1 n (fun j => .int (f j))) (fun q => by cases q) (by show ¬ (i < 0 ∨ (arrV _ _ _).slots.size ≤ _); rw [arrV_size]; exact hin) rfl rfl hdg fun H1 e z oq => ?_
  refine kk H1 _ ?_ z oq (hS.put z oq ha)
  show H1[a]? = some (vp_cell _ _)
  rw [e]
  rw [vp_cell_i, vp_cell_i, arrV_store]
  congr 2
  funext q
  by_cases hq : q = i.toNatClampNeg
  · subst hq
    simp [updV, upd, vp_nar]
    try rfl
  · simp [updV, upd, vp_nar, hq]
theorem q_rzast (hx : p.tables.exec = Jvm.exec) (hb : c.code = cc) (hK : va_K D vwCl (q_tys cy) s) {n : Nat} {f : Nat → Int32} (hat : va_at D vwCl (a, .inl (cy 3, (n, .inl f))) H) (hS : va_S A H0 H locs) (ha : A a) {i : Int32} {x : Int32} (hin : ¬ (i < 0 ∨ n ≤ i.toNatClampNeg)) (hdg : decode cc pc = .ok (.bastore, 1))
    (kk : ∀ (H1 : Heap) (locs1 : List Loc), va_at D vwCl (a, .inl (cy 3, (n, .inl (upd f i.toNatClampNeg (vp_nar .boolean x))))) H1 → H1.size = H.size → (∀ q : Nat, q ≠ a → H1[q]? = H[q]?) → va_S A H0 H1 locs1 → W p l e R s m args below meth c H1 locs1 cells slots Q (F0 m (pc + 1) ls rest)) : W p l e R s m args below meth c H locs cells slots Q (F0 m pc ls (.int x :: .int i :: .ref a :: rest)) := by
  refine W.zast hx hb hat ((hK.2 3 _ rfl).1 n (fun j => .int (f j))) (fun q => by cases q) (by show ¬ (i < 0 ∨ (arrV _ _ _).slots.size ≤ _); rw [arrV_size]; exact hin) rfl rfl hdg fun H1 e z oq => ?_
  refine kk H1 _ ?_ z oq (hS.put z oq ha)
  show H1[a]? = some (vp_cell _ _)
  rw [e]
  rw [vp_cell_i, vp_cell_i, arrV_store]
  congr 2
  funext q
  by_cases hq : q = i.toNatClampNeg
  · subst hq
    simp [updV, upd, vp_nar]
    try rfl
  · simp [updV, upd, vp_nar, hq]
theorem q_rlast (hx : p.tables.exec = Jvm.exec) (hb : c.code = cc) (hK : va_K D vwCl (q_tys cy) s) {n : Nat} {f : Nat → Int64} (hat : va_at D vwCl (a, .inl (cy 2, (n, .inr (.inl f)))) H) (hS : va_S A H0 H locs) (ha : A a) {i : Int32} {x : Int64} (hin : ¬ (i < 0 ∨ n ≤ i.toNatClampNeg)) (hdg : decode cc pc = .ok (.lastore, 1))
    (kk : ∀ (H1 : Heap) (locs1 : List Loc), va_at D vwCl (a, .inl (cy 2, (n, .inr (.inl (vp_updL f i.toNatClampNeg x))))) H1 → H1.size = H.size → (∀ q : Nat, q ≠ a → H1[q]? = H[q]?) → va_S A H0 H1 locs1 → W p l e R s m args below meth c H1 locs1 cells slots Q (F0 m (pc + 1) ls rest)) : W p l e R s m args below meth c H locs cells slots Q (F0 m pc ls (.long x :: .int i :: .ref a :: rest)) := by
  refine W.last hx hb hat ((hK.2 2 _ rfl).1 n (fun j => .long (f j))) (fun q => by cases q) (by show ¬ (i < 0 ∨ (arrV _ _ _).slots.size ≤ _); rw [arrV_size]; exact hin) rfl rfl hdg fun H1 e z oq => ?_
  refine kk H1 _ ?_ z oq (hS.put z oq ha)
  show H1[a]? = some (vp_cell _ _)
  rw [e]
  rw [vp_cell_l, vp_cell_l, arrV_store]
  congr 2
  funext q
  by_cases hq : q = i.toNatClampNeg
  · subst hq
    simp [updV, vp_updL]
    try rfl
  · simp [updV, vp_updL, hq]
theorem q_raast (hx : p.tables.exec = Jvm.exec) (hb : c.code = cc) (hK : va_K D vwCl (q_tys cy) s) {n v : Nat} {f : Nat → Option Nat} {vs : List Value} (hat : va_at D vwCl (a, .inl (cy 4, (n, .inr (.inr (.inr (.inr f)))))) H) (hS : va_S A H0 H locs) (ha : A a) (hv : va_at D vwCl (v, .inr (0, vs)) H) {i : Int32} (hin : ¬ (i < 0 ∨ n ≤ i.toNatClampNeg)) (hdg : decode cc pc = .ok (.aastore, 1))
    (kk : ∀ (H1 : Heap) (locs1 : List Loc), va_at D vwCl (a, .inl (cy 4, (n, .inr (.inr (.inr (.inr (va_up f i.toNatClampNeg (some v)))))))) H1 → H1.size = H.size → (∀ q : Nat, q ≠ a → H1[q]? = H[q]?) → va_S A H0 H1 locs1 → W p l e R s m args below meth c H1 locs1 cells slots Q (F0 m (pc + 1) ls rest)) : W p l e R s m args below meth c H locs cells slots Q (F0 m pc ls (.ref v :: .int i :: .ref a :: rest)) := by
  have hlt : i.toNatClampNeg < n := Nat.not_le.mp fun q => hin (Or.inr q)
  have h0 : ¬ i < 0 := fun q => hin (Or.inl q)
  obtain ⟨r', hr', cellV, g1, g2, g3, -⟩ := hv
  have hcls := (hK.1 0 _ (q_cls_at 0 (by decide))).2
  obtain ⟨kA, comp, k1, k2, k3, -⟩ := (hK.2 4 _ rfl).2
  have hcomp : comp = D.1 0 := Option.some.inj (k3.symm.trans hcls.1)
  subst hcomp
  obtain ⟨kC, hkC, -⟩ := hcls.2
  refine W.aast hx hb hat (fun q h => by cases h) (fun h => by cases h) k1 k2 rfl hkC ⟨h0, by show _ < (arrV _ _ _).slots.size; rw [arrV_size]; exact hlt⟩ g1 (fun q h => by rw [g3] at h; cases h) (by rw [g2]; exact hkC) (by rw [g2]; exact va_assign hcls) rfl rfl hdg fun H1 e z oq => ?_
  refine kk H1 _ ?_ z oq (hS.put z oq ha)
  show H1[a]? = some (vp_cell _ _)
  rw [e]
  rw [vp_cell_q, vp_cell_q, arrV_store]
  congr 2
  funext q
  by_cases hq : q = i.toNatClampNeg
  · subst hq
    simp [updV, va_up, va_rf]
  · simp [updV, va_up, hq]
end QR
