/-! ===== the world while it is made: its cells by kind and instance, more and more of them ===== -/
def kr (ad : Nat → Nat → Nat) (ce : Nat → Nat → va_E) (q : Nat × Nat) : Nat × va_E := (ad q.1 q.2, ce q.1 q.2)
def ku {α : Type} (f : Nat → Nat → α) (k i : Nat) (v : α) : Nat → Nat → α := fun k' i' => if k' = k ∧ i' = i then v else f k' i'
theorem ku_at {α : Type} (f : Nat → Nat → α) (k i : Nat) (v : α) : ku f k i v k i = v := if_pos ⟨rfl, rfl⟩
theorem ku_ne {α : Type} (f : Nat → Nat → α) {k i k' i' : Nat} (v : α) (h : ¬ (k' = k ∧ i' = i)) : ku f k i v k' i' = f k' i' := if_neg h
def kw (dm : List (Nat × Nat)) (ad : Nat → Nat → Nat) (ce : Nat → Nat → va_E) : va_W := dm.map (kr ad ce)
theorem kw_app {dm : List (Nat × Nat)} {ad : Nat → Nat → Nat} {ce : Nat → Nat → va_E} {k i q : Nat} {e : va_E} (h : (k, i) ∉ dm) : kw (dm ++ [(k, i)]) (ku ad k i q) (ku ce k i e) = kw dm ad ce ++ [(q, e)] := by
  unfold kw
  rw [List.map_append]
  congr 1
  · apply List.map_congr_left
    intro p hp
    have hne : ¬ (p.1 = k ∧ p.2 = i) := fun z => h (by rw [← z.1, ← z.2]; exact hp)
    unfold kr
    rw [ku_ne _ _ hne, ku_ne _ _ hne]
  · simp [kr, ku_at]
theorem kw_at {dm : List (Nat × Nat)} {ad : Nat → Nat → Nat} {ce : Nat → Nat → va_E} {k i : Nat} (h : (k, i) ∈ dm) : ∃ n : Nat, dm[n]? = some (k, i) ∧ (kw dm ad ce)[n]? = some (ad k i, ce k i) := by
  obtain ⟨n, hn⟩ := List.getElem?_of_mem h
  refine ⟨n, hn, ?_⟩
  unfold kw
  rw [List.getElem?_map, hn]
  rfl
theorem kw_set {dm : List (Nat × Nat)} {ad : Nat → Nat → Nat} {ce : Nat → Nat → va_E} {k i n : Nat} {e : va_E} {A : Nat → Prop} (hD : va_D A (kw dm ad ce)) (h : dm[n]? = some (k, i)) : (kw dm ad ce).set n (ad k i, e) = kw dm ad (ku ce k i e) := by
  apply List.ext_getElem?
  intro m
  have hl : n < (kw dm ad ce).length := by unfold kw; rw [List.length_map]; exact (List.getElem?_eq_some_iff.mp h).1
  have hat : (kw dm ad ce)[n]? = some (ad k i, ce k i) := by unfold kw; rw [List.getElem?_map, h]; rfl
  by_cases hm : m = n
  · subst hm
    rw [List.getElem?_set_self hl]
    unfold kw
    rw [List.getElem?_map, h]
    simp [kr, ku_at]
  · rw [List.getElem?_set_ne (fun z => hm z.symm)]
    cases hq : dm[m]? with
    | none => unfold kw; rw [List.getElem?_map, List.getElem?_map, hq]; rfl
    | some q =>
      have hat' : (kw dm ad ce)[m]? = some (ad q.1 q.2, ce q.1 q.2) := by unfold kw; rw [List.getElem?_map, hq]; rfl
      have hne : ¬ (q.1 = k ∧ q.2 = i) := fun z => hm (hD.1 m n _ _ hat' hat (by rw [z.1, z.2]))
      rw [hat']
      unfold kw
      rw [List.getElem?_map, hq]
      simp [kr, ku, hne]
/-- the made world is the joint world -/
theorem kw_to {D : va_G} {dm : List (Nat × Nat)} {ad : Nat → Nat → Nat} {ce : Nat → Nat → va_E} {cs : ClassId × ClassId × ClassId × ClassId} {b : Bool} {B : Nat} {g : mg_F} {H : Heap} (h : ∀ k i, i < mg_cnt b k → (k, i) ∈ dm ∧ ce k i = mg_mk (ad, cs) k i (g k i)) (hP : va_P D vwCl (kw dm ad ce) H) (hD : va_D (fun q => B ≤ q) (kw dm ad ce)) : mg_P (D, (ad, cs), b, B) g H ∧ mg_A (ad, cs) b B := by
  refine ⟨fun n x hx => ?_, fun q q' hq hq' e => ?_, fun q hq => ?_⟩
  · unfold mg_ws at hx
    rw [List.getElem?_map] at hx
    cases hq : (mg_all b)[n]? with
    | none => rw [hq] at hx; cases hx
    | some q =>
      rw [hq] at hx
      cases hx
      obtain ⟨h1, h2⟩ := h q.1 q.2 (mg_in' (List.mem_of_getElem? hq))
      obtain ⟨m, -, hm⟩ := kw_at (ad := ad) (ce := ce) h1
      have := hP m _ hm
      rw [h2] at this
      exact this
  · obtain ⟨h1, -⟩ := h q.1 q.2 (mg_in' hq)
    obtain ⟨h2, -⟩ := h q'.1 q'.2 (mg_in' hq')
    obtain ⟨m, hm0, hm⟩ := kw_at (ad := ad) (ce := ce) h1
    obtain ⟨m', hm0', hm'⟩ := kw_at (ad := ad) (ce := ce) h2
    have := hD.1 m m' _ _ hm hm' e
    subst this
    exact Option.some.inj (hm0.symm.trans hm0')
  · obtain ⟨h1, -⟩ := h q.1 q.2 (mg_in' hq)
    obtain ⟨m, -, hm⟩ := kw_at (ad := ad) (ce := ce) h1
    exact hD.2 m _ hm
/-! ===== the judgement while the world is made ===== -/
/-- tables, array classes, least address -/
abbrev kg_Zt : Type := va_G × (ClassId × ClassId × ClassId × ClassId) × Nat
abbrev kg_tys (cs : ClassId × ClassId × ClassId × ClassId) : List (ClassId × FieldType) := [(cs.1, .int), (cs.2.1, .boolean), (cs.2.2.1, .object "PumpHouse$Station"), (cs.2.2.2, .array .int)]
def kg_AA (U : State) : Prop := (Cond.arrayOver (.array .int)).before #[] U = true
/-- what the tables say, for making and for running -/
def kg_T (Z : kg_Zt) (U : State) : Prop := va_K Z.1 vwCl (kg_tys Z.2.1) U ∧ va_Nw (.methodLinkNest RX0 28 yX4_contains RX4) U ∧ va_Nw (.methodLinkNest RX2 36 yX4_closeGap RX4) U ∧ va_Nw (.methodLinkNest RX1 35 yX4_closeGap RX4) U ∧ va_Nw (.methodLinkNest RX4 9 yX0_init RX4) U ∧ va_Nw (.methodLinkNest RX3 11 yX2_init RX4) U ∧ va_AO "PumpHouse$Station" U ∧ kg_AA U
abbrev kg_W (K : mg_Kt) (cells slots : Nat) (H : Heap) (locs : List Loc) (pc : Nat) (la : Array Slot) (st : List Value) : Prop :=
  W K.1 K.2.1 K.2.2.1 K.2.2.2.1 K.2.2.2.2.1 K.2.2.2.2.2.1 K.2.2.2.2.2.2.1 K.2.2.2.2.2.2.2.1 K.2.2.2.2.2.2.2.2.1 K.2.2.2.2.2.2.2.2.2.1 H locs cells slots K.2.2.2.2.2.2.2.2.2.2.1 (F0 K.2.2.2.2.2.1 pc la st)
def kg_Fx (K : mg_Kt) (Z : kg_Zt) (Y : mg_Yt) : Prop :=
  K.1.tables.exec = Jvm.exec ∧ K.2.2.2.2.2.2.2.2.2.1.code = Y.1 ∧ K.2.2.2.2.2.2.2.2.2.1.maxLocals = Y.2.2.1 ∧ K.2.2.2.2.1.vm.findClass Y.2.1.cls = some K.2.2.2.2.2.1.cls ∧ (∀ w ∈ Y.2.2.2.2.1, w.before K.2.2.2.2.2.2.1 K.2.2.2.2.1 = true) ∧
  kg_T Z K.2.2.2.2.1 ∧ (Y.2.2.2.2.2 ≤ K.2.2.2.1.frames ∧ 33 * Y.2.2.2.2.2 ≤ K.2.2.2.1.locals ∧ K.2.2.2.2.2.2.2.2.2.2.2.1 ≤ K.2.2.2.1.cells ∧ K.2.2.2.2.2.2.2.2.2.2.2.2 ≤ K.2.2.2.1.slots) ∧ (Z.2.2 ≤ K.2.2.2.2.1.heap.size ∧ (Y.2.1.name = "<init>" → K.2.2.2.2.2.2.2.2.1.name = "<init>"))
/-- K's own cells and slots are the most that may be made -/
def kg_G (K : mg_Kt) (Z : kg_Zt) (Y : mg_Yt) (cells slots pc : Nat) (ls st : List Value) (dm : List (Nat × Nat)) (ad : Nat → Nat → Nat) (ce : Nat → Nat → va_E) : Prop :=
  kg_Fx K Z Y → ∀ (H : Heap) (locs : List Loc) (la : Array Slot), va_P Z.1 vwCl (kw dm ad ce) H → va_D (fun q => Z.2.2 ≤ q) (kw dm ad ce) → va_S (fun q => Z.2.2 ≤ q) K.2.2.2.2.1.heap H locs → mg_L la Y.2.2.1 ls → kg_W K cells slots H locs pc la st
def kg_rm (d mc ms : Nat) : Room := { frames := d, cells := mc, slots := ms, locals := 33 * d }
def kg_Qc (Z : kg_Zt) (post : List (Nat × Nat) → (Nat → Nat → Nat) → (Nat → Nat → va_E) → Prop) : Array Value → State → Outcome → State → Prop := fun _ st o t => ∃ dm ad ce, o = .returned none ∧ post dm ad ce ∧ va_P Z.1 vwCl (kw dm ad ce) t.heap ∧ va_D (fun q => Z.2.2 ≤ q) (kw dm ad ce) ∧ va_F (fun q => Z.2.2 ≤ q) st t
/-- a constructor's contract -/
def kg_C (l : Launch) (Z : kg_Zt) (Y : mg_Yt) (mc ms : Nat) (As : List Value) (dm : List (Nat × Nat)) (ad : Nat → Nat → Nat) (ce : Nat → Nat → va_E) (post : List (Nat × Nat) → (Nat → Nat → Nat) → (Nat → Nat → va_E) → Prop) : Prop :=
  Met l Y.2.1 Y.2.2.2.2.1 (kg_rm Y.2.2.2.2.2 mc ms) (fun a U => a = As.toArray ∧ kg_T Z U ∧ va_P Z.1 vwCl (kw dm ad ce) U.heap ∧ va_D (fun q => Z.2.2 ≤ q) (kw dm ad ce) ∧ Z.2.2 ≤ U.heap.size) (kg_Qc Z post) mc ms (fun q => Z.2.2 ≤ q)
theorem kg_AA.moved {u U : State} (hvm : u.vm.Alike U.vm) (h : kg_AA u) : kg_AA U := by
  unfold kg_AA Cond.before Cond.holds at h ⊢
  simp only [Cond.value, beq_iff_eq] at h ⊢
  cases hc : u.vm.findClass (FieldType.array .int).toString with
  | none => rw [hc] at h; simp at h
  | some comp =>
    rw [hc] at h
    simp only [Option.bind_some, Option.bind_eq_some_iff, Option.map_eq_some_iff] at h
    obtain ⟨c, hi, k, hk, hb⟩ := h
    obtain ⟨k', hk', he⟩ := hvm.2.2 _ _ hk
    rw [hvm.findClass, hc]
    simp only [Option.bind_some, Option.bind_eq_some_iff, Option.map_eq_some_iff]
    refine ⟨c, ?_, k', hk', ?_⟩
    · rw [hvm.findIdx?_eq _ (fun _ => rfl)]
      exact hi
    · rw [he, hvm.findClass]
      exact hb
theorem kg_T.moved {Z : kg_Zt} {s U : State} (h : kg_T Z s) (hW : s.WarmedH U.vm) : kg_T Z U :=
  ⟨va_K.moved hW.alike h.1, va_Nw.warmM hW h.2.1, va_Nw.warmM hW h.2.2.1, va_Nw.warmM hW h.2.2.2.1, va_Nw.warmM hW h.2.2.2.2.1, va_Nw.warmM hW h.2.2.2.2.2.1, va_AO.moved hW.alike h.2.2.2.2.2.2.1, h.2.2.2.2.2.2.2.moved hW.alike⟩
theorem kg_T.same {Z : kg_Zt} {s U : State} (h : kg_T Z s) (e : s.vm = U.vm) : kg_T Z U :=
  ⟨va_K.moved (by rw [e]; exact Vm.Alike.refl U.vm) h.1, va_Nw.same rfl e h.2.1, va_Nw.same rfl e h.2.2.1, va_Nw.same rfl e h.2.2.2.1, va_Nw.same rfl e h.2.2.2.2.1, va_Nw.same rfl e h.2.2.2.2.2.1, va_AO.moved (by rw [e]; exact Vm.Alike.refl U.vm) h.2.2.2.2.2.2.1, h.2.2.2.2.2.2.2.moved (by rw [e]; exact Vm.Alike.refl U.vm)⟩
