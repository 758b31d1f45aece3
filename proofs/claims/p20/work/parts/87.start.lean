/-! THE CLAIM OUT OF ONE WALK OF THE LAW'S BODY. Your part is whole_start (and what it stands on); all else here is the same for every law, but numbers. -/
def R_law : String := "PumpHouseLaw"
def lw_P (b : Addr) (xs : List Int32) (args : Array Value) (s : State) : Prop := args = #[.ref b] ∧ s.IntsAt b xs ∧ xs.length ≤ 2048 ∧ (Jvm.Cond.and given_1 narrow_1).before args s = true
def lw_Q (_ : Array Value) (s : State) (o : Outcome) (t : State) : Prop := o = .returned (some (.int 1)) ∧ Framed s o t [] 600000 7302250
def lw_Z (below : List Frame) (a : Array Value) (s : State) : State → Prop := fun t => ∃ o, t.status = .running ∧ Ended t below o ∧ lw_Q a s o t
/-- the law's own end, with 1 on the stack, nothing written that was there before, its room as the claim has it -/
theorem lw_ret {p : Program} {l : Launch} {e : Env} {s : State} {m : MethodId} {below : List Frame} {meth : Method} {c : Code} {b : Nat} (hx : p.tables.exec = Jvm.exec) (hb : c.code = code) (hr : meth.sig.returnType = ret) (hlocks : meth.locks = false) {pc : Nat} {H : Heap} {ls : Array Slot} (hdg : decode code pc = .ok (.ireturn, 1)) : W p l e room_1 s m #[Value.ref b] below meth c H [] 600000 7302250 (lw_Z below #[Value.ref b] s) (F0 m pc ls [.int 1]) := by
  intro T hT X
  obtain ⟨fs, hret, hrun, hended, hW, hframe⟩ := X.leave (v := some (.int 1)) (hlocks := hlocks) (fun h => by rw [hr] at h; cases h)
  have hmeth' : T.vm.method? m = some meth := X.method'
  refine ⟨T.setFrames fs, ?_, .returned (some (.int 1)), hrun, hended, rfl, ⟨_, rfl⟩, hW, hframe⟩
  jvm_step X.here [X.here.top, hx, hb, hdg, hmeth', hr, ret, narrow_b1]
  (try refine ⟨rfl, ?_⟩); (try refine ⟨rfl, ?_⟩)
  first | (intro acts; rw [hret _ acts rfl rfl rfl]) | rw [hret _ _ rfl rfl rfl]
  exact Steps.refl _
/-- what holds at the law's entry: the machine, the code, the tables' words (any of lw_tbl by 'hts w (by decide +kernel)'), the script of L ints xs at the cell b, what the Statement gives of the start (any of its parts by flat_of_before) -/
def lw_At (p : Program) (s : State) (m : MethodId) (meth : Method) (c : Code) (b L : Nat) (xs : Nat → Int32) : Prop :=
  p.tables.exec = Jvm.exec ∧ c.code = code ∧ meth.sig.returnType = ret ∧ c.maxLocals = 4 ∧ s.vm.findClass R_law = some m.cls ∧ (∀ w ∈ lw_tbl, w.before #[Value.ref b] s = true) ∧ va_X b L xs s s.heap ∧ b < s.heap.size ∧ meth.locks = false ∧ (Jvm.Cond.and given_1 narrow_1).before #[Value.ref b] s = true
theorem kg_AA_spec {s : State} (h : kg_AA s) : ∃ comp c k, s.vm.findClass (FieldType.array .int).toString = some comp ∧ s.vm.classes[c]? = some k ∧ k.kind = .array comp (.array .int) ∧ s.vm.findClass ("[" ++ (FieldType.array .int).toString) = some c := by
  unfold kg_AA Cond.before Cond.holds at h
  simp only [Cond.value, beq_iff_eq] at h
  cases hc : s.vm.findClass (FieldType.array .int).toString with
  | none => rw [hc] at h; simp at h
  | some comp =>
    rw [hc] at h
    simp only [Option.bind_some, Option.bind_eq_some_iff, Option.map_eq_some_iff] at h
    obtain ⟨c, hi, k, hk, hb⟩ := h
    obtain ⟨hlt, hp, -⟩ := Array.findIdx?_eq_some_iff_getElem.mp hi
    have hkk : s.vm.classes[c] = k := (Array.getElem?_eq_some_iff.mp hk).2
    rw [hkk] at hp
    cases hkind : k.kind with
    | array component ty =>
      rw [hkind] at hb hp
      simp at hb hp
      exact ⟨comp, c, k, rfl, hk, by rw [hkind, hp, hb.1], hb.2⟩
    | _ => rw [hkind] at hb; simp at hb
theorem rq1 : 7 ≤ room_1.frames := Nat.le_of_ble_eq_true rfl
theorem rq2 : 33 * 7 ≤ room_1.locals := Nat.le_of_ble_eq_true rfl
theorem rq3 : 600000 ≤ room_1.cells := Nat.le_of_ble_eq_true rfl
theorem rq4 : 7302250 ≤ room_1.slots := Nat.le_of_ble_eq_true rfl
set_option maxRecDepth 100000 in
set_option maxHeartbeats 4000000 in
/-- THE LAW, from its entry -/
theorem whole_start {p : Program} {e : Env} {s : State} {m : MethodId} {below : List Frame} {meth : Method} {c : Code} (l : Launch) {b L : Nat} {xs : Nat → Int32} (hL : L ≤ 2048) (C0 : lw_At p s m meth c b L xs) : W p l e room_1 s m #[Value.ref b] below meth c s.heap [] 0 0 (lw_Z below #[Value.ref b] s) (entryFrame m ([Value.ref b] : List Value).toArray 4) := by
  obtain ⟨hx, hb, hr, hml, hown, hts, hX, hbl, hlocks, hgv⟩ := id C0
  obtain ⟨c0, i0, k0⟩ := u_known (C := RX0) (T := TX0) (N := 3) (n := 3) hts wx_0 (hts (.instantiable RX0 3) (by first | exact List.mem_of_getElem? (i := 60) rfl | decide +kernel))
  obtain ⟨c1, i1, k1⟩ := u_known (C := RX1) (T := TX1) (N := 6) (n := 6) hts wx_1 (hts (.instantiable RX1 6) (by first | exact List.mem_of_getElem? (i := 81) rfl | decide +kernel))
  obtain ⟨c2, i2, k2⟩ := u_known (C := RX2) (T := TX2) (N := 3) (n := 3) hts wx_2 (hts (.instantiable RX2 3) (by first | exact List.mem_of_getElem? (i := 119) rfl | decide +kernel))
  obtain ⟨c3, i3, k3⟩ := u_known (C := RX3) (T := TX3) (N := 12) (n := 12) hts wx_3 (hts (.instantiable RX3 12) (by first | exact List.mem_of_getElem? (i := 113) rfl | decide +kernel))
  obtain ⟨c4, i4, k4⟩ := u_known (C := RX4) (T := TX4) (N := 10) (n := 10) hts wx_4 (hts (.instantiable RX4 10) (by first | exact List.mem_of_getElem? (i := 52) rfl | decide +kernel))
  obtain ⟨c5, i5, k5⟩ := u_known (C := RX5) (T := TX5) (N := 33) (n := 33) hts wx_5 (hts (.instantiable RX5 33) (by first | exact List.mem_of_getElem? (i := 527) rfl | decide +kernel))
  obtain ⟨dC, dI, hKc⟩ : ∃ (dC : Nat → ClassId) (dI : Nat → Nat → Nat), ∀ (k : Nat) (q : vw_C), vwCl[k]? = some q → u_Kn s q.1 q.2.1 q.2.2 (dC k) (dI k) := by
    refine ⟨fun k => if k = 0 then c0 else if k = 1 then c1 else if k = 2 then c2 else if k = 3 then c3 else if k = 4 then c4 else c5, fun k => if k = 0 then i0 else if k = 1 then i1 else if k = 2 then i2 else if k = 3 then i3 else if k = 4 then i4 else i5, ?_⟩
    intro k q hq
    match k, hq with
    | 0, hq => cases hq; exact k0
    | 1, hq => cases hq; exact k1
    | 2, hq => cases hq; exact k2
    | 3, hq => cases hq; exact k3
    | 4, hq => cases hq; exact k4
    | 5, hq => cases hq; exact k5
    | k + 6, hq => simp [vwCl] at hq
  obtain ⟨cI, kI, mI, a1, a2, a3⟩ := Cond.arrayClass_spec (hts (.arrayClass .int) (by first | exact List.mem_of_getElem? (i := 77) rfl | decide +kernel))
  obtain ⟨cZ, kZ, mZ, b1, b2, b3⟩ := Cond.arrayClass_spec (hts (.arrayClass .boolean) (by first | exact List.mem_of_getElem? (i := 660) rfl | decide +kernel))
  obtain ⟨mS, cS, kS, s1, -, s3, s4, s5⟩ := Cond.arrayOver_spec (hts (.arrayOver (.object "PumpHouse$Station")) (by first | exact List.mem_of_getElem? (i := 79) rfl | decide +kernel))
  have hAA : kg_AA s := hts (.arrayOver (.array .int)) (by first | exact List.mem_of_getElem? (i := 112) rfl | decide +kernel)
  obtain ⟨mA, cA, kA, d1, d2, d3, d4⟩ := kg_AA_spec hAA
  have hK : va_K (dC, dI) vwCl (kg_tys (cI, cZ, cS, cA)) s := by
    refine ⟨hKc, fun k q hq => ?_⟩
    match k, hq with
    | 0, hq => cases hq; exact ⟨fun n z => ⟨fun k h => (by cases h), kI, a2, mI, a3⟩, a1⟩
    | 1, hq => cases hq; exact ⟨fun n z => ⟨fun k h => (by cases h), kZ, b2, mZ, b3⟩, b1⟩
    | 2, hq => cases hq; exact ⟨fun n z => ⟨fun k h => (by cases h), kS, s3, mS, s4⟩, ⟨kS, mS, s3, s4, s1, s5⟩⟩
    | 3, hq => cases hq; exact ⟨fun n z => ⟨fun k h => (by cases h), kA, d2, mA, d3⟩, d4⟩
    | k + 4, hq => simp at hq
  have hT : kg_T ((dC, dI), (cI, cZ, cS, cA), s.heap.size) s := ⟨hK, va_Nw.of rfl (hts (.methodLinkNest RX0 28 yX4_contains RX4) (by first | exact List.mem_of_getElem? (i := 210) rfl | decide +kernel)), va_Nw.of rfl (hts (.methodLinkNest RX2 36 yX4_closeGap RX4) (by first | exact List.mem_of_getElem? (i := 325) rfl | decide +kernel)), va_Nw.of rfl (hts (.methodLinkNest RX1 35 yX4_closeGap RX4) (by first | exact List.mem_of_getElem? (i := 404) rfl | decide +kernel)), va_Nw.of rfl (hts (.methodLinkNest RX4 9 yX0_init RX4) (by first | exact List.mem_of_getElem? (i := 61) rfl | decide +kernel)), va_Nw.of rfl (hts (.methodLinkNest RX3 11 yX2_init RX4) (by first | exact List.mem_of_getElem? (i := 120) rfl | decide +kernel)), va_AO.of (hts (.arrayOver (.object "PumpHouse$Station")) (by first | exact List.mem_of_getElem? (i := 79) rfl | decide +kernel)), hAA⟩
  have main : kg_G (p, l, e, room_1, s, m, #[Value.ref b], below, meth, c, lw_Z below #[Value.ref b] s, 600000, 7302250) ((dC, dI), (cI, cZ, cS, cA), s.heap.size) mL_law 0 0 0 [.ref b] [] [] (fun _ _ => 0) (fun _ _ => .inr (0, [])) := by
    refine k_new (pc := 0) (k := 4) (i := 0) (ci := 4) (ty := tyX4) (fs := [.null, .null, .null, .null, .null, .null, iv 0, iv 0, iv 0, iv 0]) (fun h => nomatch h) rfl wx_4 tyX4_ok (by first | exact List.mem_of_getElem? (i := 51) rfl | decide +kernel) (by first | exact List.mem_of_getElem? (i := 52) rfl | decide +kernel) (by first | exact List.mem_of_getElem? (i := 41) rfl | decide +kernel) (fun j hj => by rcases (show j = 0 ∨ j = 1 ∨ j = 2 ∨ j = 3 ∨ j = 4 ∨ j = 5 ∨ j = 6 ∨ j = 7 ∨ j = 8 ∨ j = 9 by omega) with rfl | rfl | rfl | rfl | rfl | rfl | rfl | rfl | rfl | rfl <;> rfl) (Nat.le_of_ble_eq_true rfl) (Nat.le_of_ble_eq_true rfl) dL_law_0 (fun q4 => ?_)
    refine k_dup (pc := 3) dL_law_3 rfl ?_
    refine k_callI (pc := 4) (Y' := mX4_init) (As := []) (st := [.ref q4]) (c_X4_init l (ku_at _ _ _ _) (ku_at _ _ _ _)) gL_law_X4_init rfl (by first | exact List.mem_of_getElem? (i := 41) rfl | decide +kernel) (by first | exact List.mem_of_getElem? (i := 53) rfl | decide +kernel) (by first | exact List.mem_of_getElem? (i := 54) rfl | decide +kernel) rfl (na := 0) rfl (by decide +kernel) (by decide) (by decide) (Nat.le_of_ble_eq_true rfl) (Nat.le_of_ble_eq_true rfl) (Nat.le_of_ble_eq_true rfl) dL_law_4 (fun dm' ad1 ce' hp => ?_)
    obtain ⟨rfl, h4, rfl⟩ := hp
    refine k_astore_n (pc := 7) (ls' := [.ref b, .ref q4]) dL_law_7 (Nat.le_of_ble_eq_true rfl) (Nat.le_of_ble_eq_true rfl) rfl ?_
    refine k_new (pc := 8) (k := 5) (i := 0) (ci := 5) (ty := tyX5) (fs := [iv 0, iv 0, iv 0, iv 0, iv 0, .null, .null, .null, .null, .null, .null, .null, .null, .null, .null, iv 0, .null, .null, .null, .null, .null, iv 0, .null, .null, .null, .null, iv 0, .null, .null, .null, .null, .null, .null]) (by decide +kernel) rfl wx_5 tyX5_ok (by first | exact List.mem_of_getElem? (i := 526) rfl | decide +kernel) (by first | exact List.mem_of_getElem? (i := 527) rfl | decide +kernel) (by first | exact List.mem_of_getElem? (i := 47) rfl | decide +kernel) (fun j hj => by rcases (show j = 0 ∨ j = 1 ∨ j = 2 ∨ j = 3 ∨ j = 4 ∨ j = 5 ∨ j = 6 ∨ j = 7 ∨ j = 8 ∨ j = 9 ∨ j = 10 ∨ j = 11 ∨ j = 12 ∨ j = 13 ∨ j = 14 ∨ j = 15 ∨ j = 16 ∨ j = 17 ∨ j = 18 ∨ j = 19 ∨ j = 20 ∨ j = 21 ∨ j = 22 ∨ j = 23 ∨ j = 24 ∨ j = 25 ∨ j = 26 ∨ j = 27 ∨ j = 28 ∨ j = 29 ∨ j = 30 ∨ j = 31 ∨ j = 32 by omega) with rfl | rfl | rfl | rfl | rfl | rfl | rfl | rfl | rfl | rfl | rfl | rfl | rfl | rfl | rfl | rfl | rfl | rfl | rfl | rfl | rfl | rfl | rfl | rfl | rfl | rfl | rfl | rfl | rfl | rfl | rfl | rfl | rfl <;> rfl) (Nat.le_of_ble_eq_true rfl) (Nat.le_of_ble_eq_true rfl) dL_law_8 (fun q5 => ?_)
    refine k_dup (pc := 11) dL_law_11 rfl ?_
    refine k_callI (pc := 12) (Y' := mX5_init) (As := []) (st := [.ref q5]) (c_X5_init l (ku_at _ _ _ _) (ku_at _ _ _ _) (fun k i hi => (ku_ne _ _ (fun z => (mg_cnt_small hi).2 z.1)).trans (mg_mk_congr (mg_cnt_small hi).1 (mg_cnt_small hi).2 (fun k' i' _ h5 => ku_ne _ _ (fun z => h5 z.1))).symm)) gL_law_X5_init rfl (by first | exact List.mem_of_getElem? (i := 47) rfl | decide +kernel) (by first | exact List.mem_of_getElem? (i := 528) rfl | decide +kernel) (by first | exact List.mem_of_getElem? (i := 529) rfl | decide +kernel) rfl (na := 0) rfl (by decide +kernel) (by decide) (by decide) (Nat.le_of_ble_eq_true rfl) (Nat.le_of_ble_eq_true rfl) (Nat.le_of_ble_eq_true rfl) dL_law_12 (fun dm' ad2 ce' hp => ?_)
    obtain ⟨rfl, ⟨h5, hag⟩, rfl⟩ := hp
    refine k_astore_n (pc := 15) (ls' := [.ref b, .ref q4, .ref q5]) dL_law_15 (Nat.le_of_ble_eq_true rfl) (Nat.le_of_ble_eq_true rfl) rfl ?_
    refine k_iconst (pc := 16) (v := 0) dL_law_16 (by decide +kernel) ?_
    refine k_istore_n (pc := 17) (ls' := [.ref b, .ref q4, .ref q5, iv 0]) dL_law_17 (Nat.le_of_ble_eq_true rfl) (Nat.le_of_ble_eq_true rfl) rfl ?_
    have e4 : ad2 4 0 = q4 := (hag 4 0 (by decide) (by decide)).trans ((ku_ne _ _ (by omega)).trans h4)
    subst e4
    subst h5
    refine k_toG (b := true) (g := qms6) (post := fun v _ => v = some 1) (fun k i hi => ⟨mg_in hi, rfl⟩) (Nat.le_of_ble_eq_true rfl) (Nat.le_of_ble_eq_true rfl) (fun _ v g H locs la pc _ hd _ hv _ hS => ?_) (law_main hL hX hbl (Nat.not_le.mpr hbl))
    subst hv
    exact va_forget (fun q hq => hS.2.2 q hq) (lw_ret hx hb hr hlocks (hd 1 rfl))
  rw [entry_eq m [Value.ref b] (List.forall_mem_cons.mpr ⟨rfl, (fun _ h => nomatch h)⟩) 4]
  exact main ⟨hx, hb, hml, hown, hts, hT, ⟨rq1, rq2, rq3, rq4⟩, Nat.le_refl _, fun h => absurd h (by decide)⟩ s.heap [] _ (fun k q h => by simp [kw] at h) ⟨fun i j p q h => by simp [kw] at h, fun k q h => by simp [kw] at h⟩ va_S.rf (mg_entry [Value.ref b] (Nat.le_of_ble_eq_true rfl) (List.forall_mem_cons.mpr ⟨rfl, (fun _ h => nomatch h)⟩))
