/-! ===== the judgement over the joint world ===== -/
abbrev mg_Kt : Type := Program × Launch × Env × Room × State × MethodId × Array Value × List Frame × Method × Code × (State → Prop) × Nat × Nat
/-- tables, classes, with the reference's cells or not, the least address -/
abbrev mg_Zt : Type := va_G × mg_E × Bool × Nat
/-- a method: bytes, name, locals, answer's type, words, depth -/
abbrev mg_Yt : Type := ByteArray × MethodName × Nat × Option FieldType × List Cond × Nat
abbrev rv (Z : mg_Zt) (k i : Nat) : Value := .ref (Z.2.1.1 k i)
/-- what the tables say -/
def mg_T (Z : mg_Zt) (U : State) : Prop := va_K Z.1 vwCl (mg_tys Z.2.1) U ∧ mg_A Z.2.1 Z.2.2.1 Z.2.2.2 ∧ va_Nw (.methodLinkNest RX0 28 yX4_contains RX4) U ∧ va_Nw (.methodLinkNest RX2 36 yX4_closeGap RX4) U ∧ va_Nw (.methodLinkNest RX1 35 yX4_closeGap RX4) U
def mg_P (Z : mg_Zt) (g : mg_F) (H : Heap) : Prop := va_P Z.1 vwCl (mg_ws Z.2.1 Z.2.2.1 g) H
def mg_S (Z : mg_Zt) (H0 H : Heap) (locs : List Loc) : Prop := va_S (fun q => Z.2.2.2 ≤ q) H0 H locs
def mg_L (la : Array Slot) (nL : Nat) (ls : List Value) : Prop := la.size = nL ∧ lv_wf la ∧ ∀ (i : Nat) (v : Value), ls[i]? = some v → la[i]? = some (.val v) ∧ v.category = 1
def mg_val (v : Option Nat) : Option Value := v.map (fun n => iv n)
def mg_rt (ret : Option FieldType) (v : Option Nat) : Prop := match ret, v with
  | none, none => True
  | some ty, some n => narrow ty (iv n) = iv n ∧ (ty = .int ∨ ty = .boolean)
  | _, _ => False
/-- W at a frame of the method, with locals and stack as lists -/
abbrev mg_W (K : mg_Kt) (H : Heap) (locs : List Loc) (pc : Nat) (la : Array Slot) (st : List Value) : Prop :=
  W K.1 K.2.1 K.2.2.1 K.2.2.2.1 K.2.2.2.2.1 K.2.2.2.2.2.1 K.2.2.2.2.2.2.1 K.2.2.2.2.2.2.2.1 K.2.2.2.2.2.2.2.2.1 K.2.2.2.2.2.2.2.2.2.1 H locs K.2.2.2.2.2.2.2.2.2.2.2.1 K.2.2.2.2.2.2.2.2.2.2.2.2 K.2.2.2.2.2.2.2.2.2.2.1 (F0 K.2.2.2.2.2.1 pc la st)
/-- what stands fast while the method runs -/
def mg_Fx (K : mg_Kt) (Z : mg_Zt) (Y : mg_Yt) (post : Option Nat → mg_F → Prop) : Prop :=
  K.1.tables.exec = Jvm.exec ∧ K.2.2.2.2.2.2.2.2.2.1.code = Y.1 ∧ K.2.2.2.2.2.2.2.2.2.1.maxLocals = Y.2.2.1 ∧ K.2.2.2.2.1.vm.findClass Y.2.1.cls = some K.2.2.2.2.2.1.cls ∧ (∀ w ∈ Y.2.2.2.2.1, w.before K.2.2.2.2.2.2.1 K.2.2.2.2.1 = true) ∧
  mg_T Z K.2.2.2.2.1 ∧ (Y.2.2.2.2.2 ≤ K.2.2.2.1.frames ∧ 33 * Y.2.2.2.2.2 ≤ K.2.2.2.1.locals ∧ K.2.2.2.2.2.2.2.2.2.2.2.1 ≤ K.2.2.2.1.cells ∧ K.2.2.2.2.2.2.2.2.2.2.2.2 ≤ K.2.2.2.1.slots) ∧
  ∀ (v : Option Nat) (g : mg_F) (H : Heap) (locs : List Loc) (la : Array Slot) (pc : Nat), (v = none → decode Y.1 pc = .ok (.return_, 1)) → (∀ n, v = some n → decode Y.1 pc = .ok (.ireturn, 1)) → mg_rt Y.2.2.2.1 v → post v g → mg_P Z g H → mg_S Z K.2.2.2.2.1.heap H locs → mg_W K H locs pc la (mg_val v).toList
def mg_G (K : mg_Kt) (Z : mg_Zt) (Y : mg_Yt) (post : Option Nat → mg_F → Prop) (pc : Nat) (ls st : List Value) (g : mg_F) : Prop :=
  mg_Fx K Z Y post → ∀ (H : Heap) (locs : List Loc) (la : Array Slot), mg_P Z g H → mg_S Z K.2.2.2.2.1.heap H locs → mg_L la Y.2.2.1 ls → mg_W K H locs pc la st
def mg_rm (d : Nat) : Room := { frames := d, cells := 0, slots := 0, locals := 33 * d }
def mg_Qc (Z : mg_Zt) (Y : mg_Yt) (post : Option Nat → mg_F → Prop) : Array Value → State → Outcome → State → Prop := fun _ st o t => ∃ (v : Option Nat) (g' : mg_F), o = .returned (mg_val v) ∧ mg_rt Y.2.2.2.1 v ∧ post v g' ∧ mg_P Z g' t.heap ∧ va_F (fun q => Z.2.2.2 ≤ q) st t
/-- a method's contract over the joint world: its numbers g become g', its answer v, as post says -/
def mg_C (l : Launch) (Z : mg_Zt) (Y : mg_Yt) (As : List Value) (g : mg_F) (post : Option Nat → mg_F → Prop) : Prop :=
  Met l Y.2.1 Y.2.2.2.2.1 (mg_rm Y.2.2.2.2.2) (fun a U => a = As.toArray ∧ mg_T Z U ∧ mg_P Z g U.heap ∧ Z.2.2.2 ≤ U.heap.size)
    (mg_Qc Z Y post) 0 0 (fun q => Z.2.2.2 ≤ q)
theorem mg_T.moved {Z : mg_Zt} {s U : State} (h : mg_T Z s) (hW : s.WarmedH U.vm) : mg_T Z U :=
  ⟨va_K.moved hW.alike h.1, h.2.1, va_Nw.warmM hW h.2.2.1, va_Nw.warmM hW h.2.2.2.1, va_Nw.warmM hW h.2.2.2.2⟩
theorem mg_narI (n : Nat) : narrow .int (iv n) = iv n := rfl
theorem mg_narZ {n : Nat} (h : n < 2) : narrow .boolean (iv n) = iv n := by
  rcases (show n = 0 ∨ n = 1 by omega) with rfl | rfl <;> decide +kernel
theorem mg_fitZ {n : Nat} (h : n < 2) : fits .boolean (iv n) = true := by
  rcases (show n = 0 ∨ n = 1 by omega) with rfl | rfl <;> decide +kernel
theorem mg_entry (As : List Value) {n : Nat} (hl : As.length ≤ n) (hc : ∀ v ∈ As, v.category = 1) : mg_L ((As.map Slot.val ++ List.replicate (n - As.length) Slot.unset).toArray) n As := by
  have key : ∀ (i : Nat) (x : Slot), (As.map Slot.val ++ List.replicate (n - As.length) Slot.unset).toArray[i]? = some x → (∃ v, x = .val v ∧ As[i]? = some v) ∨ x = .unset := by
    intro i x h
    rw [List.getElem?_toArray] at h
    by_cases q : i < As.length
    · rw [List.getElem?_append_left (by simpa using q), List.getElem?_map] at h
      cases ha : As[i]? with
      | none => rw [ha] at h; cases h
      | some v => rw [ha] at h; cases h; exact Or.inl ⟨v, rfl, rfl⟩
    · rw [List.getElem?_append_right (by simpa using Nat.le_of_not_lt q)] at h
      exact Or.inr (List.eq_of_mem_replicate (List.mem_of_getElem? h))
  refine ⟨by simp; omega, ⟨?_, ?_⟩, ?_⟩
  · intro i v h hcat
    rcases key i _ h with ⟨w, e, hw⟩ | e
    · cases e
      have := hc v (List.mem_of_getElem? hw)
      omega
    · cases e
  · intro i h
    rcases key i _ h with ⟨w, e, _⟩ | e <;> cases e
  · intro i v h
    refine ⟨?_, hc v (List.mem_of_getElem? h)⟩
    rw [List.getElem?_toArray, List.getElem?_append_left (by simpa using (List.getElem?_eq_some_iff.mp h).1), List.getElem?_map, h]
    rfl
/-- the contract out of a walk -/
theorem mg_C.of {l : Launch} {Z : mg_Zt} {Y : mg_Yt} {As : List Value} {g : mg_F} {post : Option Nat → mg_F → Prop} {ws' : List Cond} (hy : plainName Y.2.1.cls = true) (hw : Y.2.2.2.2.1 = Cond.code Y.2.1 Y.1 Y.2.2.1 Y.2.2.2.1 :: ws') (hl : As.length ≤ Y.2.2.1) (hc : ∀ v ∈ As, v.category = 1)
    (body : ∀ K : mg_Kt, mg_G K Z Y post 0 As [] g) : mg_C l Z Y As g post := by
  refine Met.ofW (cc := Y.1) (maxL := Y.2.2.1) (ret := Y.2.2.2.1) hy hw ?_
  intro p e s m args below meth c s₁ B hml hv
  obtain ⟨rfl, hT, hP, hB⟩ := hv
  have hts := atoms_spec (ws := Y.2.2.2.2.1) B.pre
  have hown : s.vm.findClass Y.2.1.cls = some m.cls := findClass_of_methodNamed B.named
  have hlocks := B.notSynchronized
  have hcat : ∀ v ∈ As, v.category = 1 := hc
  rw [entry_eq m As hcat Y.2.2.1]
  refine body (p, l, e, _, s, m, As.toArray, below, meth, c, _, 0, 0) ⟨B.exec, B.bytes, hml, hown, hts, hT, ⟨Nat.le_refl _, Nat.le_refl _, Nat.zero_le _, Nat.zero_le _⟩, ?_⟩ s.heap [] _ hP ⟨Nat.le_refl _, fun _ _ _ => rfl, fun _ h => by cases h⟩ ?_
  · intro v g' H locs la pc hd1 hd2 hrt hpost hP' hS'
    have hq : ∀ t : State, t.heap = H → s.WarmedH t.vm → mg_Qc Z Y post As.toArray s (.returned (mg_val v)) t :=
      fun t ht _ => ⟨v, g', rfl, hrt, hpost, by rw [ht]; exact hP', va_S.F hS' ht⟩
    cases v with
    | none =>
      cases hr : Y.2.2.2.1 with
      | none => exact W.vret (Qc := mg_Qc Z Y post) B.exec B.bytes (by rw [B.returns]; exact hr) hq (fun q hq' => hS'.2.2 q hq') (hd1 rfl)
      | some ty => rw [hr] at hrt; exact hrt.elim
    | some n =>
      cases hr : Y.2.2.2.1 with
      | none => rw [hr] at hrt; exact hrt.elim
      | some ty =>
        rw [hr] at hrt
        exact W.zret (Qc := mg_Qc Z Y post) (ty := ty) B.exec B.bytes (by rw [B.returns]; exact hr) hrt.1 hq (fun q hq' => hS'.2.2 q hq') (hd2 n rfl)
  · exact mg_entry As hl hc
/-- the list of locals with one made another, or one more -/
def mg_sv (ls : List Value) (i : Nat) (v : Value) : List Value := if i < ls.length then ls.set i v else ls ++ [v]
def mg_pr (ls : List Value) : List (Nat × Value) := (List.range ls.length).filterMap (fun i => ls[i]?.map (fun v => (i, v)))
theorem mg_pr_mem {ls : List Value} {i : Nat} {v : Value} : (i, v) ∈ mg_pr ls ↔ ls[i]? = some v := by
  unfold mg_pr
  rw [List.mem_filterMap]
  constructor
  · rintro ⟨j, hj, h⟩
    cases hq : ls[j]? with
    | none => rw [hq] at h; cases h
    | some w => rw [hq] at h; cases h; exact hq
  · intro h
    exact ⟨i, List.mem_range.mpr (List.getElem?_eq_some_iff.mp h).1, by rw [h]; rfl⟩
theorem mg_L.has {la : Array Slot} {nL : Nat} {ls : List Value} (h : mg_L la nL ls) : lv_has la nL (mg_pr ls) := ⟨h.1, h.2.1, fun q hq => (h.2.2 q.1 q.2 (mg_pr_mem.mp hq)).1⟩
theorem mg_L.back {la la' : Array Slot} {nL : Nat} {ls : List Value} {i : Nat} {v : Value} {x : List (Nat × Value)} (h : mg_L la nL ls) (hx : ∀ q ∈ mg_pr ls, q ∈ x) (hle : i ≤ ls.length) (hc : v.category = 1) (h' : lv_has la' nL ((i, v) :: x.filter (fun q => !(q.1 == i) && !(q.1 + 1 == i && q.2.category == 2)))) : mg_L la' nL (mg_sv ls i v) := by
  refine ⟨h'.1, h'.2.1, fun j w hj => ?_⟩
  by_cases e : j = i
  · subst e
    have hw : w = v := by
      unfold mg_sv at hj
      split at hj
      · rw [List.getElem?_set_self (by assumption)] at hj
        exact (Option.some.inj hj).symm
      · rw [List.getElem?_append_right (by omega), show j - ls.length = 0 by omega] at hj
        exact (Option.some.inj hj).symm
    subst hw
    exact ⟨h'.2.2 _ List.mem_cons_self, hc⟩
  · have ho : ls[j]? = some w := by
      unfold mg_sv at hj
      split at hj
      · rw [List.getElem?_set_ne (fun q => e q.symm)] at hj
        exact hj
      · by_cases q : j < ls.length
        · rw [List.getElem?_append_left q] at hj
          exact hj
        · exfalso
          have := (List.getElem?_eq_some_iff.mp hj).1
          rw [List.length_append] at this
          simp at this
          omega
    have hcw := (h.2.2 j w ho).2
    refine ⟨h'.2.2 (j, w) (List.mem_cons_of_mem _ (List.mem_filter.mpr ⟨hx _ (mg_pr_mem.mpr ho), ?_⟩)), hcw⟩
    simp [e, hcw]
section MGR
variable {K : mg_Kt} {Z : mg_Zt} {Y : mg_Yt} {post : Option Nat → mg_F → Prop} {pc : Nat} {ls st : List Value} {g : mg_F}
theorem g_iadd {a b : Nat} (hd : decode Y.1 pc = .ok (.iadd, 1)) (kk : mg_G K Z Y post (pc + 1) ls (iv (a + b) :: st) g) : mg_G K Z Y post pc ls (iv b :: iv a :: st) g := by
  intro hF H locs la hP hS hL
  refine lv_iadd hF.1 hF.2.1 hd ?_
  rw [nI_add]
  exact kk hF H locs la hP hS hL
theorem g_isub {a b : Nat} (hs : b ≤ a) (hd : decode Y.1 pc = .ok (.isub, 1)) (kk : mg_G K Z Y post (pc + 1) ls (iv (a - b) :: st) g) : mg_G K Z Y post pc ls (iv b :: iv a :: st) g := by
  intro hF H locs la hP hS hL
  refine lv_isub hF.1 hF.2.1 hd ?_
  rw [mg_sub hs]
  exact kk hF H locs la hP hS hL
theorem g_imul {a b : Nat} (hd : decode Y.1 pc = .ok (.imul, 1)) (kk : mg_G K Z Y post (pc + 1) ls (iv (a * b) :: st) g) : mg_G K Z Y post pc ls (iv b :: iv a :: st) g := by
  intro hF H locs la hP hS hL
  refine lv_imul hF.1 hF.2.1 hd ?_
  rw [mg_mul]
  exact kk hF H locs la hP hS hL
theorem g_iconst {n : Int} {v : Nat} (hd : decode Y.1 pc = .ok (.iconst n, 1)) (hv : Int32.ofInt n = nI v) (kk : mg_G K Z Y post (pc + 1) ls (iv v :: st) g) : mg_G K Z Y post pc ls (st) g := by
  intro hF H locs la hP hS hL
  exact lv_iconst hF.1 hF.2.1 hd hv (kk hF H locs la hP hS hL)
theorem g_bipush {n : Int} {v : Nat} (hd : decode Y.1 pc = .ok (.bipush n, 2)) (hv : (Int8.ofInt n).toInt32 = nI v) (kk : mg_G K Z Y post (pc + 2) ls (iv v :: st) g) : mg_G K Z Y post pc ls (st) g := by
  intro hF H locs la hP hS hL
  exact lv_bipush hF.1 hF.2.1 hd hv (kk hF H locs la hP hS hL)
theorem g_sipush {n : Int} {v : Nat} (hd : decode Y.1 pc = .ok (.sipush n, 3)) (hv : (Int16.ofInt n).toInt32 = nI v) (kk : mg_G K Z Y post (pc + 3) ls (iv v :: st) g) : mg_G K Z Y post pc ls (st) g := by
  intro hF H locs la hP hS hL
  exact lv_sipush hF.1 hF.2.1 hd hv (kk hF H locs la hP hS hL)
theorem g_iload_n {k : Fin 4} {x : Int32} (hd : decode Y.1 pc = .ok (.iload_n k, 1)) (hv : ls[(k : Nat)]? = some (.int x)) (kk : mg_G K Z Y post (pc + 1) ls (.int x :: st) g) : mg_G K Z Y post pc ls (st) g := by
  intro hF H locs la hP hS hL
  exact lv_iload_n hF.1 hF.2.1 hd rfl (hL.2.2 _ _ hv).1 (kk hF H locs la hP hS hL)
theorem g_iload {k : Nat} {x : Int32} (hd : decode Y.1 pc = .ok (.iload k, 2)) (hv : ls[k]? = some (.int x)) (kk : mg_G K Z Y post (pc + 2) ls (.int x :: st) g) : mg_G K Z Y post pc ls (st) g := by
  intro hF H locs la hP hS hL
  exact lv_iload hF.1 hF.2.1 hd (hL.2.2 _ _ hv).1 (kk hF H locs la hP hS hL)
theorem g_aload_n {k : Fin 4} {x : Nat} (hd : decode Y.1 pc = .ok (.aload_n k, 1)) (hv : ls[(k : Nat)]? = some (.ref x)) (kk : mg_G K Z Y post (pc + 1) ls (.ref x :: st) g) : mg_G K Z Y post pc ls (st) g := by
  intro hF H locs la hP hS hL
  exact lv_aload_n hF.1 hF.2.1 hd rfl (hL.2.2 _ _ hv).1 (kk hF H locs la hP hS hL)
theorem g_aload {k : Nat} {x : Nat} (hd : decode Y.1 pc = .ok (.aload k, 2)) (hv : ls[k]? = some (.ref x)) (kk : mg_G K Z Y post (pc + 2) ls (.ref x :: st) g) : mg_G K Z Y post pc ls (st) g := by
  intro hF H locs la hP hS hL
  exact lv_aload hF.1 hF.2.1 hd (hL.2.2 _ _ hv).1 (kk hF H locs la hP hS hL)
theorem g_istore_n {k : Fin 4} {x : Int32} {ls' : List Value} (hd : decode Y.1 pc = .ok (.istore_n k, 1)) (hk : (k : Nat) < Y.2.2.1) (hle : (k : Nat) ≤ ls.length) (he : mg_sv ls (k : Nat) (.int x) = ls') (kk : mg_G K Z Y post (pc + 1) ls' st g) : mg_G K Z Y post pc ls (.int x :: st) g := by
  intro hF H locs la hP hS hL
  subst he
  refine lv_istore_n hF.1 hF.2.1 hd rfl hL.has hk rfl (fun la' h' => ?_)
  exact kk hF H locs la' hP hS (hL.back (fun _ h => h) hle rfl h')
theorem g_istore {k : Nat} {x : Int32} {ls' : List Value} (hd : decode Y.1 pc = .ok (.istore k, 2)) (hk : k < Y.2.2.1) (hle : k ≤ ls.length) (he : mg_sv ls k (.int x) = ls') (kk : mg_G K Z Y post (pc + 2) ls' st g) : mg_G K Z Y post pc ls (.int x :: st) g := by
  intro hF H locs la hP hS hL
  subst he
  refine lv_istore hF.1 hF.2.1 hd  hL.has hk rfl (fun la' h' => ?_)
  exact kk hF H locs la' hP hS (hL.back (fun _ h => h) hle rfl h')
theorem g_astore_n {k : Fin 4} {x : Nat} {ls' : List Value} (hd : decode Y.1 pc = .ok (.astore_n k, 1)) (hk : (k : Nat) < Y.2.2.1) (hle : (k : Nat) ≤ ls.length) (he : mg_sv ls (k : Nat) (.ref x) = ls') (kk : mg_G K Z Y post (pc + 1) ls' st g) : mg_G K Z Y post pc ls (.ref x :: st) g := by
  intro hF H locs la hP hS hL
  subst he
  refine lv_astore_n hF.1 hF.2.1 hd rfl hL.has hk rfl (fun la' h' => ?_)
  exact kk hF H locs la' hP hS (hL.back (fun _ h => h) hle rfl h')
theorem g_astore {k : Nat} {x : Nat} {ls' : List Value} (hd : decode Y.1 pc = .ok (.astore k, 2)) (hk : k < Y.2.2.1) (hle : k ≤ ls.length) (he : mg_sv ls k (.ref x) = ls') (kk : mg_G K Z Y post (pc + 2) ls' st g) : mg_G K Z Y post pc ls (.ref x :: st) g := by
  intro hF H locs la hP hS hL
  subst he
  refine lv_astore hF.1 hF.2.1 hd  hL.has hk rfl (fun la' h' => ?_)
  exact kk hF H locs la' hP hS (hL.back (fun _ h => h) hle rfl h')
theorem g_iinc {k a v : Nat} {n : Int} {ls' : List Value} (hd : decode Y.1 pc = .ok (.iinc k n, 3)) (hk : k < Y.2.2.1) (hv : ls[k]? = some (iv a)) (hn : nI a + Int32.ofInt n = nI v) (he : mg_sv ls k (iv v) = ls') (kk : mg_G K Z Y post (pc + 3) ls' st g) : mg_G K Z Y post pc ls st g := by
  intro hF H locs la hP hS hL
  subst he
  refine lv_iinc (lv := (k, iv a) :: mg_pr ls) (k := 0) (v := nI v) hF.1 hF.2.1 hd ⟨hL.1, hL.2.1, fun q hq => ?_⟩ rfl hn hk rfl (fun la' h' => ?_)
  · rcases List.mem_cons.mp hq with e | h
    · subst e; exact (hL.2.2 k _ hv).1
    · exact hL.has.2.2 q h
  · exact kk hF H locs la' hP hS (hL.back (fun _ h => List.mem_cons_of_mem _ h) (Nat.le_of_lt (List.getElem?_eq_some_iff.mp hv).1) rfl h')
theorem g_dup {v : Value} (hd : decode Y.1 pc = .ok (.dup, 1)) (hc : v.category = 1) (kk : mg_G K Z Y post (pc + 1) ls (v :: v :: st) g) : mg_G K Z Y post pc ls (v :: st) g := by
  intro hF H locs la hP hS hL
  exact lv_dup hF.1 hF.2.1 hd hc (kk hF H locs la hP hS hL)
theorem g_dup2 {v w : Value} (hd : decode Y.1 pc = .ok (.dup2, 1)) (hc : v.category = 1) (hc' : w.category = 1) (kk : mg_G K Z Y post (pc + 1) ls (v :: w :: v :: w :: st) g) : mg_G K Z Y post pc ls (v :: w :: st) g := by
  intro hF H locs la hP hS hL
  exact lv_dup2_11 hF.1 hF.2.1 hd hc hc' (kk hF H locs la hP hS hL)
theorem g_pop {v : Value} (hd : decode Y.1 pc = .ok (.pop, 1)) (hc : v.category = 1) (kk : mg_G K Z Y post (pc + 1) ls st g) : mg_G K Z Y post pc ls (v :: st) g := by
  intro hF H locs la hP hS hL
  exact lv_pop hF.1 hF.2.1 hd hc (kk hF H locs la hP hS hL)
theorem g_goto {off : Int} (tgt : Nat) (hd : decode Y.1 pc = .ok (.goto off, 3)) (ht : (pc : Int) + off = (tgt : Int)) (kk : mg_G K Z Y post tgt ls st g) : mg_G K Z Y post pc ls st g := by
  intro hF H locs la hP hS hL
  exact lv_goto hF.1 hF.2.1 hd ht (kk hF H locs la hP hS hL)
theorem g_icmp_eq {a b : Nat} {off : Int} (tgt : Nat) (hd : decode Y.1 pc = .ok (.if_icmp .eq off, 3)) (ht : (pc : Int) + off = (tgt : Int)) (ha : a < 4294967296) (hb : b < 4294967296) (kt : a = b → mg_G K Z Y post tgt ls st g) (kf : ¬ (a = b) → mg_G K Z Y post (pc + 3) ls st g) : mg_G K Z Y post pc ls (iv b :: iv a :: st) g := by
  intro hF H locs la hP hS hL
  exact lv_icmp_eq hF.1 hF.2.1 hd ht (fun q => kt ((mg_eqI ha hb).mp q) hF H locs la hP hS hL) (fun q => kf (fun z => q ((mg_eqI ha hb).mpr z)) hF H locs la hP hS hL)
theorem g_icmp_ne {a b : Nat} {off : Int} (tgt : Nat) (hd : decode Y.1 pc = .ok (.if_icmp .ne off, 3)) (ht : (pc : Int) + off = (tgt : Int)) (ha : a < 4294967296) (hb : b < 4294967296) (kt : a ≠ b → mg_G K Z Y post tgt ls st g) (kf : a = b → mg_G K Z Y post (pc + 3) ls st g) : mg_G K Z Y post pc ls (iv b :: iv a :: st) g := by
  intro hF H locs la hP hS hL
  exact lv_icmp_ne hF.1 hF.2.1 hd ht (fun q => kt ((not_congr (mg_eqI ha hb)).mp q) hF H locs la hP hS hL) (fun q => kf ((mg_eqI ha hb).mp q) hF H locs la hP hS hL)
theorem g_scmp_lt {a b : Nat} {off : Int} (tgt : Nat) (hd : decode Y.1 pc = .ok (.if_icmp .lt off, 3)) (ht : (pc : Int) + off = (tgt : Int)) (ha : a < 4294967296) (hb : b < 4294967296) (kt : mg_sg a < mg_sg b → mg_G K Z Y post tgt ls st g) (kf : ¬ (mg_sg a < mg_sg b) → mg_G K Z Y post (pc + 3) ls st g) : mg_G K Z Y post pc ls (iv b :: iv a :: st) g := by
  intro hF H locs la hP hS hL
  exact lv_icmp_lt hF.1 hF.2.1 hd ht (fun q => kt ((mg_ltI ha hb).mp q) hF H locs la hP hS hL) (fun q => kf (fun z => q ((mg_ltI ha hb).mpr z)) hF H locs la hP hS hL)
theorem g_icmp_lt {a b : Nat} {off : Int} (tgt : Nat) (hd : decode Y.1 pc = .ok (.if_icmp .lt off, 3)) (ht : (pc : Int) + off = (tgt : Int)) (ha : a < 2147483648) (hb : b < 2147483648) (kt : a < b → mg_G K Z Y post tgt ls st g) (kf : ¬ (a < b) → mg_G K Z Y post (pc + 3) ls st g) : mg_G K Z Y post pc ls (iv b :: iv a :: st) g :=
  g_scmp_lt tgt hd ht (by omega) (by omega) (fun q => kt (by rw [mg_sgs ha, mg_sgs hb] at q; omega)) (fun q => kf (fun z => q (by rw [mg_sgs ha, mg_sgs hb]; omega)))
theorem g_scmp_ge {a b : Nat} {off : Int} (tgt : Nat) (hd : decode Y.1 pc = .ok (.if_icmp .ge off, 3)) (ht : (pc : Int) + off = (tgt : Int)) (ha : a < 4294967296) (hb : b < 4294967296) (kt : mg_sg b ≤ mg_sg a → mg_G K Z Y post tgt ls st g) (kf : ¬ (mg_sg b ≤ mg_sg a) → mg_G K Z Y post (pc + 3) ls st g) : mg_G K Z Y post pc ls (iv b :: iv a :: st) g := by
  intro hF H locs la hP hS hL
  exact lv_icmp_ge hF.1 hF.2.1 hd ht (fun q => kt ((mg_leI hb ha).mp q) hF H locs la hP hS hL) (fun q => kf (fun z => q ((mg_leI hb ha).mpr z)) hF H locs la hP hS hL)
theorem g_icmp_ge {a b : Nat} {off : Int} (tgt : Nat) (hd : decode Y.1 pc = .ok (.if_icmp .ge off, 3)) (ht : (pc : Int) + off = (tgt : Int)) (ha : a < 2147483648) (hb : b < 2147483648) (kt : b ≤ a → mg_G K Z Y post tgt ls st g) (kf : ¬ (b ≤ a) → mg_G K Z Y post (pc + 3) ls st g) : mg_G K Z Y post pc ls (iv b :: iv a :: st) g :=
  g_scmp_ge tgt hd ht (by omega) (by omega) (fun q => kt (by rw [mg_sgs ha, mg_sgs hb] at q; omega)) (fun q => kf (fun z => q (by rw [mg_sgs ha, mg_sgs hb]; omega)))
theorem g_scmp_gt {a b : Nat} {off : Int} (tgt : Nat) (hd : decode Y.1 pc = .ok (.if_icmp .gt off, 3)) (ht : (pc : Int) + off = (tgt : Int)) (ha : a < 4294967296) (hb : b < 4294967296) (kt : mg_sg b < mg_sg a → mg_G K Z Y post tgt ls st g) (kf : ¬ (mg_sg b < mg_sg a) → mg_G K Z Y post (pc + 3) ls st g) : mg_G K Z Y post pc ls (iv b :: iv a :: st) g := by
  intro hF H locs la hP hS hL
  exact lv_icmp_gt hF.1 hF.2.1 hd ht (fun q => kt ((mg_ltI hb ha).mp q) hF H locs la hP hS hL) (fun q => kf (fun z => q ((mg_ltI hb ha).mpr z)) hF H locs la hP hS hL)
theorem g_icmp_gt {a b : Nat} {off : Int} (tgt : Nat) (hd : decode Y.1 pc = .ok (.if_icmp .gt off, 3)) (ht : (pc : Int) + off = (tgt : Int)) (ha : a < 2147483648) (hb : b < 2147483648) (kt : b < a → mg_G K Z Y post tgt ls st g) (kf : ¬ (b < a) → mg_G K Z Y post (pc + 3) ls st g) : mg_G K Z Y post pc ls (iv b :: iv a :: st) g :=
  g_scmp_gt tgt hd ht (by omega) (by omega) (fun q => kt (by rw [mg_sgs ha, mg_sgs hb] at q; omega)) (fun q => kf (fun z => q (by rw [mg_sgs ha, mg_sgs hb]; omega)))
theorem g_scmp_le {a b : Nat} {off : Int} (tgt : Nat) (hd : decode Y.1 pc = .ok (.if_icmp .le off, 3)) (ht : (pc : Int) + off = (tgt : Int)) (ha : a < 4294967296) (hb : b < 4294967296) (kt : mg_sg a ≤ mg_sg b → mg_G K Z Y post tgt ls st g) (kf : ¬ (mg_sg a ≤ mg_sg b) → mg_G K Z Y post (pc + 3) ls st g) : mg_G K Z Y post pc ls (iv b :: iv a :: st) g := by
  intro hF H locs la hP hS hL
  exact lv_icmp_le hF.1 hF.2.1 hd ht (fun q => kt ((mg_leI ha hb).mp q) hF H locs la hP hS hL) (fun q => kf (fun z => q ((mg_leI ha hb).mpr z)) hF H locs la hP hS hL)
theorem g_icmp_le {a b : Nat} {off : Int} (tgt : Nat) (hd : decode Y.1 pc = .ok (.if_icmp .le off, 3)) (ht : (pc : Int) + off = (tgt : Int)) (ha : a < 2147483648) (hb : b < 2147483648) (kt : a ≤ b → mg_G K Z Y post tgt ls st g) (kf : ¬ (a ≤ b) → mg_G K Z Y post (pc + 3) ls st g) : mg_G K Z Y post pc ls (iv b :: iv a :: st) g :=
  g_scmp_le tgt hd ht (by omega) (by omega) (fun q => kt (by rw [mg_sgs ha, mg_sgs hb] at q; omega)) (fun q => kf (fun z => q (by rw [mg_sgs ha, mg_sgs hb]; omega)))
theorem g_if_eq {a : Nat} {off : Int} (tgt : Nat) (hd : decode Y.1 pc = .ok (.ifCond .eq off, 3)) (ht : (pc : Int) + off = (tgt : Int)) (ha : a < 4294967296) (kt : a = 0 → mg_G K Z Y post tgt ls st g) (kf : ¬ (a = 0) → mg_G K Z Y post (pc + 3) ls st g) : mg_G K Z Y post pc ls (iv a :: st) g := by
  intro hF H locs la hP hS hL
  exact lv_if_eq hF.1 hF.2.1 hd ht (fun q => kt ((mg_eqI ha (by omega : (0:Nat) < 4294967296)).mp q) hF H locs la hP hS hL) (fun q => kf (fun z => q ((mg_eqI ha (by omega : (0:Nat) < 4294967296)).mpr z)) hF H locs la hP hS hL)
theorem g_if_ne {a : Nat} {off : Int} (tgt : Nat) (hd : decode Y.1 pc = .ok (.ifCond .ne off, 3)) (ht : (pc : Int) + off = (tgt : Int)) (ha : a < 4294967296) (kt : a ≠ 0 → mg_G K Z Y post tgt ls st g) (kf : a = 0 → mg_G K Z Y post (pc + 3) ls st g) : mg_G K Z Y post pc ls (iv a :: st) g := by
  intro hF H locs la hP hS hL
  exact lv_if_ne hF.1 hF.2.1 hd ht (fun q => kt ((not_congr (mg_eqI ha (by omega : (0:Nat) < 4294967296))).mp q) hF H locs la hP hS hL) (fun q => kf ((mg_eqI ha (by omega : (0:Nat) < 4294967296)).mp q) hF H locs la hP hS hL)
theorem g_sif_lt {a : Nat} {off : Int} (tgt : Nat) (hd : decode Y.1 pc = .ok (.ifCond .lt off, 3)) (ht : (pc : Int) + off = (tgt : Int)) (ha : a < 4294967296) (kt : mg_sg a < 0 → mg_G K Z Y post tgt ls st g) (kf : ¬ (mg_sg a < 0) → mg_G K Z Y post (pc + 3) ls st g) : mg_G K Z Y post pc ls (iv a :: st) g := by
  intro hF H locs la hP hS hL
  exact lv_if_lt hF.1 hF.2.1 hd ht (fun q => kt ((mg_ltI ha (by omega : (0:Nat) < 4294967296)).mp q) hF H locs la hP hS hL) (fun q => kf (fun z => q ((mg_ltI ha (by omega : (0:Nat) < 4294967296)).mpr z)) hF H locs la hP hS hL)
theorem g_sif_ge {a : Nat} {off : Int} (tgt : Nat) (hd : decode Y.1 pc = .ok (.ifCond .ge off, 3)) (ht : (pc : Int) + off = (tgt : Int)) (ha : a < 4294967296) (kt : 0 ≤ mg_sg a → mg_G K Z Y post tgt ls st g) (kf : ¬ (0 ≤ mg_sg a) → mg_G K Z Y post (pc + 3) ls st g) : mg_G K Z Y post pc ls (iv a :: st) g := by
  intro hF H locs la hP hS hL
  exact lv_if_ge hF.1 hF.2.1 hd ht (fun q => kt ((mg_leI (by omega : (0:Nat) < 4294967296) ha).mp q) hF H locs la hP hS hL) (fun q => kf (fun z => q ((mg_leI (by omega : (0:Nat) < 4294967296) ha).mpr z)) hF H locs la hP hS hL)
theorem g_sif_gt {a : Nat} {off : Int} (tgt : Nat) (hd : decode Y.1 pc = .ok (.ifCond .gt off, 3)) (ht : (pc : Int) + off = (tgt : Int)) (ha : a < 4294967296) (kt : 0 < mg_sg a → mg_G K Z Y post tgt ls st g) (kf : ¬ (0 < mg_sg a) → mg_G K Z Y post (pc + 3) ls st g) : mg_G K Z Y post pc ls (iv a :: st) g := by
  intro hF H locs la hP hS hL
  exact lv_if_gt hF.1 hF.2.1 hd ht (fun q => kt ((mg_ltI (by omega : (0:Nat) < 4294967296) ha).mp q) hF H locs la hP hS hL) (fun q => kf (fun z => q ((mg_ltI (by omega : (0:Nat) < 4294967296) ha).mpr z)) hF H locs la hP hS hL)
theorem g_sif_le {a : Nat} {off : Int} (tgt : Nat) (hd : decode Y.1 pc = .ok (.ifCond .le off, 3)) (ht : (pc : Int) + off = (tgt : Int)) (ha : a < 4294967296) (kt : mg_sg a ≤ 0 → mg_G K Z Y post tgt ls st g) (kf : ¬ (mg_sg a ≤ 0) → mg_G K Z Y post (pc + 3) ls st g) : mg_G K Z Y post pc ls (iv a :: st) g := by
  intro hF H locs la hP hS hL
  exact lv_if_le hF.1 hF.2.1 hd ht (fun q => kt ((mg_leI ha (by omega : (0:Nat) < 4294967296)).mp q) hF H locs la hP hS hL) (fun q => kf (fun z => q ((mg_leI ha (by omega : (0:Nat) < 4294967296)).mpr z)) hF H locs la hP hS hL)
theorem g_switchOut {dflt lo hi : Int} {offs : Array Int} {len a : Nat} (tgt : Nat) (hd : decode Y.1 pc = .ok (.tableswitch dflt lo hi offs, len)) (ha : a < 4294967296) (h : mg_sg a < lo ∨ hi < mg_sg a) (ht : (pc : Int) + dflt = (tgt : Int)) (kk : mg_G K Z Y post tgt ls st g) : mg_G K Z Y post pc ls (iv a :: st) g := by
  intro hF H locs la hP hS hL
  exact lv_tableOut hF.1 hF.2.1 hd (by rw [mg_sI ha]; exact h) ht (kk hF H locs la hP hS hL)
theorem g_switchIn {dflt lo hi off : Int} {offs : Array Int} {len a : Nat} (tgt : Nat) (hd : decode Y.1 pc = .ok (.tableswitch dflt lo hi offs, len)) (ha : a < 2147483648) (h1 : lo ≤ (a : Int)) (h2 : (a : Int) ≤ hi) (ho : offs[((a : Int) - lo).toNat]? = some off) (ht : (pc : Int) + off = (tgt : Int)) (kk : mg_G K Z Y post tgt ls st g) : mg_G K Z Y post pc ls (iv a :: st) g := by
  intro hF H locs la hP hS hL
  have e : (nI a).toInt = (a : Int) := nI_toInt ha
  exact lv_tableIn hF.1 hF.2.1 hd (by rw [e]; omega) (by rw [e]; omega) (by rw [e]; exact ho) ht (kk hF H locs la hP hS hL)
theorem g_ret (hd : decode Y.1 pc = .ok (.return_, 1)) (hr : mg_rt Y.2.2.2.1 none) (hp : post none g) : mg_G K Z Y post pc ls [] g := by
  intro hF H locs la hP hS hL
  exact hF.2.2.2.2.2.2.2 none g H locs la pc (fun _ => hd) (fun _ h => by cases h) hr hp hP hS
theorem g_iret {a : Nat} (hd : decode Y.1 pc = .ok (.ireturn, 1)) (hr : mg_rt Y.2.2.2.1 (some a)) (hp : post (some a) g) : mg_G K Z Y post pc ls [iv a] g := by
  intro hF H locs la hP hS hL
  exact hF.2.2.2.2.2.2.2 (some a) g H locs la pc (fun h => by cases h) (fun _ _ => hd) hr hp hP hS
/-- what a cell is, out of the world -/
theorem g_get {own : String} {idx k i ci N j : Nat} {C : String} {T : u_T} {fs : List Value} {v : Value} (hin : i < mg_cnt Z.2.2.1 k) (hm : mg_mk Z.2.1 k i (g k i) = .inr (ci, fs)) (hc : vwCl[ci]? = some (C, T, N)) (hj : j < N) (hlk : Cond.fieldLink Y.2.1.cls idx (T j).1 (T j).2.1 (T j).2.2.1 ∈ Y.2.2.2.2.1) (hws : ∀ w ∈ u_ws C T N, w ∈ Y.2.2.2.2.1) (hv : fs[j]? = some v)
    (hd : decode Y.1 pc = .ok (.getfield idx, 3)) (kk : mg_G K Z Y post (pc + 3) ls (v :: st) g) : mg_G K Z Y post pc ls (rv Z k i :: st) g := by
  intro hF H locs la hP hS hL
  obtain ⟨n, hn⟩ := mg_at hin
  have he := mg_ws_at (E := Z.2.1) (g := g) hn
  rw [hm] at he
  exact va_get hF.1 hF.2.1 hF.2.2.2.2.1 hws hF.2.2.2.1 hF.2.2.2.2.2.1.1 hP n he hc j hj (hF.2.2.2.2.1 _ hlk) (fun _ h => h) hv hd (kk hF H locs la hP hS hL)
theorem g_put {idx k i ci N j a : Nat} {C : String} {T : u_T} {fs : List Value} {ty : FieldType} {ty0 : Nat → FieldType} (hin : i < mg_cnt Z.2.2.1 k) (hm : mg_mk Z.2.1 k i (g k i) = .inr (ci, fs)) (hm' : mg_mk Z.2.1 k i (mg_us (g k i) j a) = .inr (ci, fs.set j (iv a))) (hc : vwCl[ci]? = some (C, T, N)) (hj : j < N) (hlk : Cond.fieldLink Y.2.1.cls idx (T j).1 (T j).2.1 (T j).2.2.1 ∈ Y.2.2.2.2.1) (hws : ∀ w ∈ u_ws C T N, w ∈ Y.2.2.2.2.1)
    (hty : ∀ k, k < N → parseFieldDescriptor (T k).2.2.1 = some (ty0 k)) (hnm : ∀ a, a < N → ∀ b, b < N → a ≠ b → (T a).2.1 ≠ (T b).2.1) (hfin : (T j).2.2.2 = false) (ht : ty0 j = ty) (hn : narrow ty (iv a) = iv a) (hfit : fits ty (iv a) = true) (hl : j < fs.length)
    (hd : decode Y.1 pc = .ok (.putfield idx, 3)) (kk : mg_G K Z Y post (pc + 3) ls st (mg_up g k i j a)) : mg_G K Z Y post pc ls (iv a :: rv Z k i :: st) g := by
  intro hF H locs la hP hS hL
  obtain ⟨n, hn'⟩ := mg_at hin
  have he := mg_ws_at (E := Z.2.1) (g := g) hn'
  rw [hm] at he
  refine va_put hF.1 hF.2.1 hF.2.2.2.2.1 hws ty0 hty hnm hF.2.2.2.1 hF.2.2.2.2.2.1.1 hP (mg_D hF.2.2.2.2.2.1.2.1 g) hS n he hc j hj (hF.2.2.2.2.1 _ hlk) (fun _ h => h) hfin (ty := ty) (by rw [hty j hj, ht]) hn hfit hl hd (fun H1 locs1 hP1 hD1 hS1 => ?_)
  rw [← hm', mg_set hn'] at hP1
  exact kk hF H1 locs1 la hP1 hS1 hL
theorem g_iaload {k i n a : Nat} (hin : i < mg_cnt Z.2.2.1 k) (hm : mg_mk Z.2.1 k i (g k i) = .inl (Z.2.1.2.1, n, .inl (fun j => nI (g k i j)))) (hn : n < 2147483648) (ha : a < n) (hd : decode Y.1 pc = .ok (.iaload, 1)) (kk : mg_G K Z Y post (pc + 1) ls (iv (g k i a) :: st) g) : mg_G K Z Y post pc ls (iv a :: rv Z k i :: st) g := by
  intro hF H locs la hP hS hL
  obtain ⟨q, hq⟩ := mg_at hin
  have he := mg_ws_at (E := Z.2.1) (g := g) hq
  rw [hm] at he
  refine va_iald hF.1 hF.2.1 hF.2.2.2.2.2.1.1 hP q 0 he rfl (vp_in_nI ha hn) hd ?_
  show mg_W K H locs _ la (Value.int (nI (g k i (nI a).toNatClampNeg)) :: st)
  rw [nI_clamp (show a < 2 ^ 31 by omega)]
  exact kk hF H locs la hP hS hL
theorem g_baload {k i n a : Nat} (hin : i < mg_cnt Z.2.2.1 k) (hm : mg_mk Z.2.1 k i (g k i) = .inl (Z.2.1.2.2.1, n, .inl (fun j => nI (g k i j)))) (hn : n < 2147483648) (ha : a < n) (hd : decode Y.1 pc = .ok (.baload, 1)) (kk : mg_G K Z Y post (pc + 1) ls (iv (g k i a) :: st) g) : mg_G K Z Y post pc ls (iv a :: rv Z k i :: st) g := by
  intro hF H locs la hP hS hL
  obtain ⟨q, hq⟩ := mg_at hin
  have he := mg_ws_at (E := Z.2.1) (g := g) hq
  rw [hm] at he
  refine va_zald hF.1 hF.2.1 hF.2.2.2.2.2.1.1 hP q 1 he rfl (vp_in_nI ha hn) hd ?_
  show mg_W K H locs _ la (Value.int (nI (g k i (nI a).toNatClampNeg)) :: st)
  rw [nI_clamp (show a < 2 ^ 31 by omega)]
  exact kk hF H locs la hP hS hL
theorem g_iastore {k i n a v : Nat} (hin : i < mg_cnt Z.2.2.1 k) (hm : ∀ r : Nat → Nat, mg_mk Z.2.1 k i r = .inl (Z.2.1.2.1, n, .inl (fun j => nI (r j)))) (hn : n < 2147483648) (ha : a < n) (hd : decode Y.1 pc = .ok (.iastore, 1)) (kk : mg_G K Z Y post (pc + 1) ls st (mg_up g k i a v)) : mg_G K Z Y post pc ls (iv v :: iv a :: rv Z k i :: st) g := by
  intro hF H locs la hP hS hL
  obtain ⟨q, hq⟩ := mg_at hin
  have he := mg_ws_at (E := Z.2.1) (g := g) hq
  rw [hm] at he
  refine va_iast hF.1 hF.2.1 hF.2.2.2.2.2.1.1 hP (mg_D hF.2.2.2.2.2.1.2.1 g) hS q 0 he rfl (vp_in_nI ha hn) hd (fun H1 locs1 hP1 hD1 hS1 => ?_)
  have e : (upd (fun j => nI (g k i j)) (nI a).toNatClampNeg (nI v)) = fun j => nI (mg_us (g k i) a v j) := by
    rw [nI_clamp (show a < 2 ^ 31 by omega)]
    funext j
    by_cases h : j = a <;> simp [upd, mg_us, h]
  rw [e, ← hm, mg_set hq] at hP1
  exact kk hF H1 locs1 la hP1 hS1 hL
theorem mg_nar1 {v : Nat} (h : v < 2) : vp_nar .boolean (nI v) = nI v := by
  rcases (show v = 0 ∨ v = 1 by omega) with rfl | rfl <;> decide +kernel
theorem g_bastore {k i n a v : Nat} (hin : i < mg_cnt Z.2.2.1 k) (hm : ∀ r : Nat → Nat, mg_mk Z.2.1 k i r = .inl (Z.2.1.2.2.1, n, .inl (fun j => nI (r j)))) (hn : n < 2147483648) (ha : a < n) (hv : v < 2) (hd : decode Y.1 pc = .ok (.bastore, 1)) (kk : mg_G K Z Y post (pc + 1) ls st (mg_up g k i a v)) : mg_G K Z Y post pc ls (iv v :: iv a :: rv Z k i :: st) g := by
  intro hF H locs la hP hS hL
  obtain ⟨q, hq⟩ := mg_at hin
  have he := mg_ws_at (E := Z.2.1) (g := g) hq
  rw [hm] at he
  refine va_zast hF.1 hF.2.1 hF.2.2.2.2.2.1.1 hP (mg_D hF.2.2.2.2.2.1.2.1 g) hS q 1 he rfl (vp_in_nI ha hn) hd (fun H1 locs1 hP1 hD1 hS1 => ?_)
  have e : (upd (fun j => nI (g k i j)) (nI a).toNatClampNeg (vp_nar .boolean (nI v))) = fun j => nI (mg_us (g k i) a v j) := by
    rw [nI_clamp (show a < 2 ^ 31 by omega), mg_nar1 hv]
    funext j
    by_cases h : j = a <;> simp [upd, mg_us, h]
  rw [e, ← hm, mg_set hq] at hP1
  exact kk hF H1 locs1 la hP1 hS1 hL
theorem g_aastation {a : Nat} (ha : a < 24) (hd : decode Y.1 pc = .ok (.aaload, 1)) (kk : mg_G K Z Y post (pc + 1) ls (rv Z 3 a :: st) g) : mg_G K Z Y post pc ls (iv a :: rv Z 18 0 :: st) g := by
  intro hF H locs la hP hS hL
  obtain ⟨q, hq⟩ := mg_at (b := Z.2.2.1) (k := 18) (i := 0) (show 0 < 1 by omega)
  have he := mg_ws_at (E := Z.2.1) (g := g) hq
  refine va_aldq hF.1 hF.2.1 hF.2.2.2.2.2.1.1 hP q 2 (C := "PumpHouse$Station") he rfl (vp_in_nI ha (by omega)) hd ?_
  rw [nI_clamp (show a < 2 ^ 31 by omega)]
  exact kk hF H locs la hP hS hL
theorem g_alen {k i n : Nat} (hin : i < mg_cnt Z.2.2.1 k) (hm : mg_mk Z.2.1 k i (g k i) = .inl (Z.2.1.2.1, n, .inl (fun j => nI (g k i j)))) (hd : decode Y.1 pc = .ok (.arraylength, 1)) (kk : mg_G K Z Y post (pc + 1) ls (iv n :: st) g) : mg_G K Z Y post pc ls (rv Z k i :: st) g := by
  intro hF H locs la hP hS hL
  obtain ⟨q, hq⟩ := mg_at hin
  have he := mg_ws_at (E := Z.2.1) (g := g) hq
  rw [hm] at he
  exact va_alen hF.1 hF.2.1 hF.2.2.2.2.2.1.1 hP q 0 he rfl (v := nI n) rfl hd (kk hF H locs la hP hS hL)
end MGR
