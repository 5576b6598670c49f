/-! ===== every method of the tables, and the law's entry ===== -/
theorem q_Mets (l : Launch) (D : va_G) (cy : Nat → ClassId) (lo : Nat) : ∀ k, k < 159 → ∀ As σ v σ1, q_call k As σ = some (v, σ1) → lo ≤ σ.2.1 → q_okm (q_ms k) = true ∧ q_Mt l D cy lo k As σ v σ1 ∧ q_le σ σ1 := by
  intro k
  induction k using Nat.strongRecOn with
  | _ k ih =>
    intro hk As σ v σ1 h hlo
    obtain ⟨h1, h2⟩ := q_all_ok k hk
    exact ⟨h1, q_Met_of l h1 h2 (fun j hj As σ v σ1 => ih j hj (by omega) As σ v σ1) h hlo, q_le_all k _ _ _ _ h⟩
theorem q_instw : (List.range 8).all (fun ci => q_gd ([1083, 1136, 1116, 1021, 2000, 1168, 1013, 3177].getD ci 0) (.instantiable (q_cls ci).1 (q_cls ci).2.2)) = true := by decide +kernel
theorem q_arrw : q_gd 1081 (.arrayClass .char) = true ∧ q_gd 1191 (.arrayClass .int) = true ∧ q_gd 1192 (.arrayClass .long) = true ∧ q_gd 4041 (.arrayClass .boolean) = true := by decide +kernel
theorem q_nestw : q_nest = [1022, 1084, 1123, 1137, 1169, 2006, 2095, 2104, 2111, 2144, 2163, 2164, 2167, 2173, 2178, 2183, 2187, 2216, 3037, 3038, 3039, 3040, 3088, 3105, 3109].filterMap q_wd := by decide +kernel
theorem q_aow : q_wd 1122 = some (.arrayOver (.object RX0)) := by decide +kernel
theorem q_nest_tbl {w : Cond} (h : w ∈ q_nest) : w ∈ lw_tbl := by
  rw [q_nestw] at h
  obtain ⟨i, -, hi⟩ := List.mem_filterMap.mp h
  exact q_wd_in hi
/-- the pure heap at the law's entry: the script alone -/
def q_init (z b L : Nat) (xs : Nat → Int32) : qH := (fun a => if a = b then some (.inr (9, (L, .inl xs))) else none, z, 0)
theorem q_arr0 {s : State} {args : Array Value} {t : FieldType} (ht : (Cond.arrayClass t).before args s = true) : ∃ c, ArrOfT s c t ∧ s.vm.findClass ("[" ++ t.toString) = some c := by
  obtain ⟨c, k, comp, h1, h2, h3⟩ := Cond.arrayClass_spec ht
  exact ⟨c, fun n z => ⟨fun k h => (by cases h), k, h2, comp, h3⟩, h1⟩
theorem q_start {s : State} {b : Nat} (hts : ∀ w ∈ lw_tbl, w.before #[Value.ref b] s = true) : ∃ (D : va_G) (cy : Nat → ClassId), q_KK D cy s := by
  have hws : ∀ w ∈ q_WS, w.before #[Value.ref b] s = true := fun w hw => hts w (List.mem_filter.mp hw).1
  have hcl : ∀ ci, ∃ (cC : ClassId) (iS : Nat → Nat), ci < 8 → u_Kn s (q_cls ci).1 (q_cls ci).2.1 (q_cls ci).2.2 cC iS := by
    intro ci
    by_cases h : ci < 8
    · obtain ⟨cC, iS, hk⟩ := u_known hws (q_lays ci h) (hws _ (q_gd_in (List.all_eq_true.mp q_instw ci (List.mem_range.mpr h))))
      exact ⟨cC, iS, fun _ => hk⟩
    · exact ⟨0, fun _ => 0, fun g => absurd g h⟩
  obtain ⟨a1, a2, a3, a4⟩ := q_arrw
  obtain ⟨c0, b0, d0⟩ := q_arr0 (hws _ (q_gd_in a1))
  obtain ⟨c1, b1, d1⟩ := q_arr0 (hws _ (q_gd_in a2))
  obtain ⟨c2, b2, d2⟩ := q_arr0 (hws _ (q_gd_in a3))
  obtain ⟨c3, b3, d3⟩ := q_arr0 (hws _ (q_gd_in a4))
  have hov := hts _ (q_wd_in q_aow)
  obtain ⟨comp, c4, k4, f1, -, f2, f3, f4⟩ := Cond.arrayOver_spec hov
  refine ⟨(fun ci => Classical.choose (hcl ci), fun ci => Classical.choose (Classical.choose_spec (hcl ci))), fun k => match k with
    | 0 => c0
    | 1 => c1
    | 2 => c2
    | 3 => c3
    | _ => c4, ⟨fun ci q hq => ?_, fun k q hk => ?_⟩, fun w hw => ?_, va_AO.of hov⟩
  · have hlt : ci < 8 := (List.getElem?_eq_some_iff.mp hq).1
    rw [q_cls_at ci hlt] at hq
    cases hq
    exact Classical.choose_spec (Classical.choose_spec (hcl ci)) hlt
  · have hlt : k < 5 := (List.getElem?_eq_some_iff.mp hk).1
    match k, hlt with
    | 0, _ => cases hk; exact ⟨b0, d0⟩
    | 1, _ => cases hk; exact ⟨b1, d1⟩
    | 2, _ => cases hk; exact ⟨b2, d2⟩
    | 3, _ => cases hk; exact ⟨b3, d3⟩
    | 4, _ => cases hk; exact ⟨fun N z => ⟨(fun k h => by cases h), k4, f2, comp, f3⟩, k4, comp, f2, f3, f1, f4⟩
  · obtain ⟨a, i, x, h, rfl⟩ := q_nest_kind hw
    exact va_Nw.of rfl (hts _ (q_nest_tbl hw))
/-! THE CLAIM OUT OF ONE WALK OF THE LAW'S BODY. Your part is whole_start (and what it stands on); all else here is the same for every law, but numbers. -/
def R_law : String := "PlushFlocksLaw"
def lw_P (b : Addr) (xs : List Int32) (args : Array Value) (s : State) : Prop := args = #[.ref b] ∧ s.IntsAt b xs ∧ xs.length ≤ 256 ∧ (Jvm.Cond.and given_1 narrow_1).before args s = true
def lw_Q (_ : Array Value) (s : State) (o : Outcome) (t : State) : Prop := o = .returned (some (.int 1)) ∧ Framed s o t [] 600000 7302250
def lw_Z (below : List Frame) (a : Array Value) (s : State) : State → Prop := fun t => ∃ o, t.status = .running ∧ Ended t below o ∧ lw_Q a s o t
/-- the law's own end, with 1 on the stack, nothing written that was there before, its room as the claim has it -/
theorem lw_ret {p : Program} {l : Launch} {e : Env} {s : State} {m : MethodId} {below : List Frame} {meth : Method} {c : Code} {b : Nat} (hx : p.tables.exec = Jvm.exec) (hb : c.code = code) (hr : meth.sig.returnType = ret) (hlocks : meth.locks = false) {pc : Nat} {H : Heap} {ls : Array Slot} (hdg : decode code pc = .ok (.ireturn, 1)) : W p l e room_1 s m #[Value.ref b] below meth c H [] 600000 7302250 (lw_Z below #[Value.ref b] s) (F0 m pc ls [.int 1]) := by
  intro T hT X
  obtain ⟨fs, hret, hrun, hended, hW, hframe⟩ := X.leave (v := some (.int 1)) (hlocks := hlocks) (fun h => by rw [hr] at h; cases h)
  have hmeth' : T.vm.method? m = some meth := X.method'
  refine ⟨T.setFrames fs, ?_, .returned (some (.int 1)), hrun, hended, rfl, ⟨_, rfl⟩, hW, hframe⟩
  jvm_step X.here [X.here.top, hx, hb, hdg, hmeth', hr, ret, narrow_b1]
  (try refine ⟨rfl, ?_⟩); (try refine ⟨rfl, ?_⟩)
  first | (intro acts; rw [hret _ acts rfl rfl rfl]) | rw [hret _ _ rfl rfl rfl]
  exact Steps.refl _
/-- what holds at the law's entry: the machine, the code, the tables' words (any of lw_tbl by 'hts w (by decide +kernel)'), the script of L ints xs at the cell b, what the Statement gives of the start (any of its parts by flat_of_before) -/
def lw_At (p : Program) (s : State) (m : MethodId) (meth : Method) (c : Code) (b L : Nat) (xs : Nat → Int32) : Prop :=
  p.tables.exec = Jvm.exec ∧ c.code = code ∧ meth.sig.returnType = ret ∧ c.maxLocals = 4 ∧ s.vm.findClass R_law = some m.cls ∧ (∀ w ∈ lw_tbl, w.before #[Value.ref b] s = true) ∧ va_X b L xs s s.heap ∧ b < s.heap.size ∧ meth.locks = false ∧ (Jvm.Cond.and given_1 narrow_1).before #[Value.ref b] s = true
/-- where the law ends with 1 -/
theorem q_lawend {p : Program} {l : Launch} {e : Env} {s : State} {m : MethodId} {below : List Frame} {meth : Method} {c : Code} {b : Nat} {D : va_G} {cy : Nat → ClassId} (hx : p.tables.exec = Jvm.exec) (hb : c.code = code) (hr : meth.sig.returnType = ret) (hlocks : meth.locks = false) {σ1 : qH} (hz : σ1.2.1 ≤ s.heap.size + 600000 ∧ σ1.2.2 ≤ 7302250)
    {pc : Nat} {L0 : qL} {st : List Value} {σ : qH} (hst : q_step 159 qm_159.2.2.2 q_call pc L0 st σ = some (.inl (some (.int 1), σ1))) :
    q_Wk p l e room_1 s m #[Value.ref b] below meth c (lw_Z below #[Value.ref b] s) 4 D cy s.heap.size s.heap.size 0 pc L0 st σ := by
  have hok := q_oc_159
  unfold q_step q_F at hst
  split at hst
  · cases hst
  next en hen =>
  have hoke := List.all_eq_true.mp hok _ (q_lookup_mem hen)
  obtain ⟨ins, nx, kp, ax, cv, sw⟩ := en
  obtain ⟨hd0, hx0⟩ := q_and hoke
  have hdec : decode code pc = .ok (ins, nx - pc) := of_decide_eq_true hd0
  dsimp only at hst hx0
  intro H locs ls cells slots hl0 hw hS hcl hsl
  generalize q_keep kp L0 = L at hst
  have hinv : ∀ {nx : Nat} {ax : List Nat} {L : qL} {st : List Value}, q_inv 159 q_call none q_K nx ax L st σ = some (.inl (some (.int 1), σ1)) → False := by
    intro nx ax L st h
    obtain ⟨-, -, -, v, σ1, -, h⟩ := q_inv_some h
    cases h
  cases ins
  case ireturn =>
    dsimp only [q_okx] at hx0
    obtain ⟨h1, h2⟩ := q_and hx0
    obtain ⟨hdg, rfl⟩ := q_dec hdec h1
    dsimp only [q_G] at hst
    split at hst
    · obtain ⟨hov, hst⟩ := q_bt_some hst
      cases hst
      refine va_forget (fun q hq => hS.2.2 q hq) ?_
      refine W.widen (k := 600000) (n := 7302250) (by omega) (by omega) ?_
      exact lw_ret hx hb hr hlocks hdg
    · cases hst
  case lreturn => dsimp only [q_G] at hst; split at hst <;> cases hst
  case areturn => dsimp only [q_G] at hst; split at hst <;> cases hst
  case return_ => dsimp only [q_G] at hst; split at hst <;> cases hst
  all_goals exfalso; dsimp only [q_G] at hst
  all_goals first
    | (cases hst; done)
    | exact hinv hst
    | (obtain ⟨_, _, h2⟩ := q_ob_some hst; cases h2; done)
    | ((repeat' split at hst) <;> first | (cases hst; done) | (obtain ⟨_, _, h2⟩ := q_ob_some hst; cases h2; done) | (rw [q_sw_eq] at hst; cases hst; done))
    | (rcases q_bt_or hst with h | h <;> first | (cases h; done) | exact hinv h | (split at h <;> first | (cases h; done) | (obtain ⟨_, h2⟩ := q_bt_some h; cases h2; done)) | (rcases q_bt_or h with h | h <;> first | (cases h; done) | exact hinv h | (split at h <;> first | (cases h; done) | (obtain ⟨_, h2⟩ := q_bt_some h; cases h2; done))))
theorem q_whole_of (hp : ∀ (z b L : Nat) (xs : Nat → Int32), b < z → L ≤ 256 → ∃ σ1, q_run 159 0 [(0, .ref b)] [] (q_init z b L xs) = some (some (.int 1), σ1) ∧ σ1.2.1 ≤ z + 600000 ∧ σ1.2.2 ≤ 7302250)
    {p : Program} {e : Env} {s : State} {m : MethodId} {below : List Frame} {meth : Method} {c : Code} (l : Launch) {b L : Nat} {xs : Nat → Int32} (hL : L ≤ 256) (C0 : lw_At p s m meth c b L xs) : W p l e room_1 s m #[Value.ref b] below meth c s.heap [] 0 0 (lw_Z below #[Value.ref b] s) (entryFrame m ([Value.ref b] : List Value).toArray 4) := by
  obtain ⟨hx, hb, hr, hml, hown, hts, hX, hbl, hlocks, hgv⟩ := C0
  obtain ⟨D, cy, hKK⟩ := q_start hts
  obtain ⟨σ1, hrun, hz1, hz2⟩ := hp s.heap.size b L xs hbl hL
  obtain ⟨n, hit⟩ := (q_rn0_iff (some (.int 1), σ1)).mp hrun
  have C1 : q_Cx p room_1 s m #[Value.ref b] meth c 159 qm_159 D cy s.heap.size := ⟨hx, hb, hml, hown, fun w hw => hts w (List.mem_filter.mp hw).1, hKK, Nat.le_refl _, fun e => absurd e (by decide), Nat.le_of_ble_eq_true rfl, Nat.le_of_ble_eq_true rfl⟩
  rw [lg_entry_eq]
  have hl := lv_entry ([.ref b]) (n := 4) (Nat.le_of_ble_eq_true rfl)
  have hw : q_W D cy s.heap.size (q_init s.heap.size b L xs) s s.heap := by
    refine ⟨rfl, fun a e ha => ?_⟩
    unfold q_init at ha
    dsimp only at ha
    split at ha
    · next hab => cases ha; subst hab; exact Or.inl ⟨rfl, xs, rfl, hX⟩
    · cases ha
  exact q_sound_W (l := l) (z0 := s.heap.size) (w0 := 0) (r0 := (some (.int 1), σ1)) C1 q_oc_159 (fun j hj => q_Mets l D cy s.heap.size j hj) (fun pc L st σ hst => q_lawend hx hb hr hlocks ⟨hz1, hz2⟩ hst) ⟨hz1, by show σ1.2.2 ≤ 0 + 7302250; omega⟩ n _ _ _ _ hit s.heap [] _ 0 0 hl hw va_S.rf (by show 0 + s.heap.size = s.heap.size; omega) rfl
