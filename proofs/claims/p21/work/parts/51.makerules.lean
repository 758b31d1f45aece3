/-! ===== rules while the world is made ===== -/
abbrev kmc (K : mg_Kt) : Nat := K.2.2.2.2.2.2.2.2.2.2.2.1
abbrev kms (K : mg_Kt) : Nat := K.2.2.2.2.2.2.2.2.2.2.2.2
/-- how the walk may end -/
def kg_R (K : mg_Kt) (Z : kg_Zt) (Y : mg_Yt) (post : List (Nat × Nat) → (Nat → Nat → Nat) → (Nat → Nat → va_E) → Prop) : Prop :=
  ∀ dm ad ce (H : Heap) (locs : List Loc) (la : Array Slot) (pc : Nat), decode Y.1 pc = .ok (.return_, 1) → post dm ad ce → va_P Z.1 vwCl (kw dm ad ce) H → va_D (fun q => Z.2.2 ≤ q) (kw dm ad ce) → va_S (fun q => Z.2.2 ≤ q) K.2.2.2.2.1.heap H locs → kg_W K (kmc K) (kms K) H locs pc la []
theorem kg_C.of {l : Launch} {Z : kg_Zt} {Y : mg_Yt} {mc ms : Nat} {As : List Value} {dm : List (Nat × Nat)} {ad : Nat → Nat → Nat} {ce : Nat → Nat → va_E} {post : List (Nat × Nat) → (Nat → Nat → Nat) → (Nat → Nat → va_E) → Prop} {ws' : List Cond} (hy : plainName Y.2.1.cls = true) (hw : Y.2.2.2.2.1 = Cond.code Y.2.1 Y.1 Y.2.2.1 Y.2.2.2.1 :: ws') (hr0 : Y.2.2.2.1 = none) (hnm : Y.2.1.name = "<init>") (hl : As.length ≤ Y.2.2.1) (hc : ∀ v ∈ As, v.category = 1)
    (body : ∀ K : mg_Kt, kmc K = mc → kms K = ms → kg_R K Z Y post → kg_G K Z Y 0 0 0 As [] dm ad ce) : kg_C l Z Y mc ms As dm ad ce post := by
  refine Met.ofW (cc := Y.1) (maxL := Y.2.2.1) (ret := Y.2.2.2.1) hy hw ?_
  intro p e s m args below meth c s₁ B hml hv
  obtain ⟨rfl, hT, hP, hD, hB⟩ := hv
  have hts := atoms_spec (ws := Y.2.2.2.2.1) B.pre
  have hown : s.vm.findClass Y.2.1.cls = some m.cls := findClass_of_methodNamed B.named
  have hlocks := B.notSynchronized
  have hin : meth.name = Y.2.1.name := (name_of_methodNamed B.named B.method).1
  rw [entry_eq m As hc Y.2.2.1]
  refine body (p, l, e, _, s, m, As.toArray, below, meth, c, _, mc, ms) rfl rfl ?_ ⟨B.exec, B.bytes, hml, hown, hts, hT, ⟨Nat.le_refl _, Nat.le_refl _, Nat.le_refl _, Nat.le_refl _⟩, hB, fun _ => by rw [← hnm]; exact hin⟩ s.heap [] _ hP hD ⟨Nat.le_refl _, fun _ _ _ => rfl, fun _ h => by cases h⟩ (mg_entry As hl hc)
  intro dm' ad' ce' H locs la pc hd hp hP' hD' hS'
  exact W.vret (Qc := kg_Qc Z post) B.exec B.bytes (by rw [B.returns]; exact hr0) (fun t ht _ => ⟨dm', ad', ce', rfl, hp, by rw [ht]; exact hP', hD', va_S.F hS' ht⟩) (fun q hq' => hS'.2.2 q hq') hd
section KGR
variable {K : mg_Kt} {Z : kg_Zt} {Y Y' : mg_Yt} {cells slots pc : Nat} {ls st : List Value} {dm : List (Nat × Nat)} {ad : Nat → Nat → Nat} {ce : Nat → Nat → va_E}
theorem k_ret {post : List (Nat × Nat) → (Nat → Nat → Nat) → (Nat → Nat → va_E) → Prop} (hR : kg_R K Z Y post) (h1 : cells ≤ kmc K) (h2 : slots ≤ kms K) (hd : decode Y.1 pc = .ok (.return_, 1)) (hp : post dm ad ce) : kg_G K Z Y cells slots pc ls [] dm ad ce := by
  intro hF H locs la hP hD hS hL
  exact W.widen h1 h2 (hR dm ad ce H locs la pc hd hp hP hD hS)
theorem k_iconst {n : Int} {v : Nat} (hd : decode Y.1 pc = .ok (.iconst n, 1)) (hv : Int32.ofInt n = nI v) (kk : kg_G K Z Y cells slots (pc + 1) ls (iv v :: st) dm ad ce) : kg_G K Z Y cells slots pc ls st dm ad ce := by
  intro hF H locs la hP hD hS hL
  exact lv_iconst hF.1 hF.2.1 hd hv (kk hF H locs la hP hD hS hL)
theorem k_bipush {n : Int} {v : Nat} (hd : decode Y.1 pc = .ok (.bipush n, 2)) (hv : (Int8.ofInt n).toInt32 = nI v) (kk : kg_G K Z Y cells slots (pc + 2) ls (iv v :: st) dm ad ce) : kg_G K Z Y cells slots pc ls st dm ad ce := by
  intro hF H locs la hP hD hS hL
  exact lv_bipush hF.1 hF.2.1 hd hv (kk hF H locs la hP hD hS hL)
theorem k_sipush {n : Int} {v : Nat} (hd : decode Y.1 pc = .ok (.sipush n, 3)) (hv : (Int16.ofInt n).toInt32 = nI v) (kk : kg_G K Z Y cells slots (pc + 3) ls (iv v :: st) dm ad ce) : kg_G K Z Y cells slots pc ls st dm ad ce := by
  intro hF H locs la hP hD hS hL
  exact lv_sipush hF.1 hF.2.1 hd hv (kk hF H locs la hP hD hS hL)
theorem k_iload_n {k : Fin 4} {x : Int32} (hd : decode Y.1 pc = .ok (.iload_n k, 1)) (hv : ls[(k : Nat)]? = some (.int x)) (kk : kg_G K Z Y cells slots (pc + 1) ls (.int x :: st) dm ad ce) : kg_G K Z Y cells slots pc ls st dm ad ce := by
  intro hF H locs la hP hD hS hL
  exact lv_iload_n hF.1 hF.2.1 hd rfl (hL.2.2 _ _ hv).1 (kk hF H locs la hP hD hS hL)
theorem k_aload_n {k : Fin 4} {x : Nat} (hd : decode Y.1 pc = .ok (.aload_n k, 1)) (hv : ls[(k : Nat)]? = some (.ref x)) (kk : kg_G K Z Y cells slots (pc + 1) ls (.ref x :: st) dm ad ce) : kg_G K Z Y cells slots pc ls st dm ad ce := by
  intro hF H locs la hP hD hS hL
  exact lv_aload_n hF.1 hF.2.1 hd rfl (hL.2.2 _ _ hv).1 (kk hF H locs la hP hD hS hL)
theorem k_istore_n {k : Fin 4} {x : Int32} {ls' : List Value} (hd : decode Y.1 pc = .ok (.istore_n k, 1)) (hk : (k : Nat) < Y.2.2.1) (hle : (k : Nat) ≤ ls.length) (he : mg_sv ls (k : Nat) (.int x) = ls') (kk : kg_G K Z Y cells slots (pc + 1) ls' st dm ad ce) : kg_G K Z Y cells slots pc ls (.int x :: st) dm ad ce := by
  intro hF H locs la hP hD hS hL
  subst he
  refine lv_istore_n hF.1 hF.2.1 hd rfl hL.has hk rfl (fun la' h' => ?_)
  exact kk hF H locs la' hP hD hS (hL.back (fun _ h => h) hle rfl h')
theorem k_astore_n {k : Fin 4} {x : Nat} {ls' : List Value} (hd : decode Y.1 pc = .ok (.astore_n k, 1)) (hk : (k : Nat) < Y.2.2.1) (hle : (k : Nat) ≤ ls.length) (he : mg_sv ls (k : Nat) (.ref x) = ls') (kk : kg_G K Z Y cells slots (pc + 1) ls' st dm ad ce) : kg_G K Z Y cells slots pc ls (.ref x :: st) dm ad ce := by
  intro hF H locs la hP hD hS hL
  subst he
  refine lv_astore_n hF.1 hF.2.1 hd rfl hL.has hk rfl (fun la' h' => ?_)
  exact kk hF H locs la' hP hD hS (hL.back (fun _ h => h) hle rfl h')
theorem k_iinc {k a v : Nat} {n : Int} {ls' : List Value} (hd : decode Y.1 pc = .ok (.iinc k n, 3)) (hk : k < Y.2.2.1) (hv : ls[k]? = some (iv a)) (hn : nI a + Int32.ofInt n = nI v) (he : mg_sv ls k (iv v) = ls') (kk : kg_G K Z Y cells slots (pc + 3) ls' st dm ad ce) : kg_G K Z Y cells slots pc ls st dm ad ce := by
  intro hF H locs la hP hD hS hL
  subst he
  refine lv_iinc (lv := (k, iv a) :: mg_pr ls) (k := 0) (v := nI v) hF.1 hF.2.1 hd ⟨hL.1, hL.2.1, fun q hq => ?_⟩ rfl hn hk rfl (fun la' h' => ?_)
  · rcases List.mem_cons.mp hq with e | h
    · subst e; exact (hL.2.2 k _ hv).1
    · exact hL.has.2.2 q h
  · exact kk hF H locs la' hP hD hS (hL.back (fun _ h => List.mem_cons_of_mem _ h) (Nat.le_of_lt (List.getElem?_eq_some_iff.mp hv).1) rfl h')
theorem k_dup {v : Value} (hd : decode Y.1 pc = .ok (.dup, 1)) (hc : v.category = 1) (kk : kg_G K Z Y cells slots (pc + 1) ls (v :: v :: st) dm ad ce) : kg_G K Z Y cells slots pc ls (v :: st) dm ad ce := by
  intro hF H locs la hP hD hS hL
  exact lv_dup hF.1 hF.2.1 hd hc (kk hF H locs la hP hD hS hL)
theorem k_goto {off : Int} (tgt : Nat) (hd : decode Y.1 pc = .ok (.goto off, 3)) (ht : (pc : Int) + off = (tgt : Int)) (kk : kg_G K Z Y cells slots tgt ls st dm ad ce) : kg_G K Z Y cells slots pc ls st dm ad ce := by
  intro hF H locs la hP hD hS hL
  exact lv_goto hF.1 hF.2.1 hd ht (kk hF H locs la hP hD hS hL)
theorem k_icmp_ge {a b : Nat} {off : Int} (tgt : Nat) (hd : decode Y.1 pc = .ok (.if_icmp .ge off, 3)) (ht : (pc : Int) + off = (tgt : Int)) (ha : a < 2147483648) (hb : b < 2147483648) (kt : b ≤ a → kg_G K Z Y cells slots tgt ls st dm ad ce) (kf : ¬ b ≤ a → kg_G K Z Y cells slots (pc + 3) ls st dm ad ce) : kg_G K Z Y cells slots pc ls (iv b :: iv a :: st) dm ad ce := by
  intro hF H locs la hP hD hS hL
  exact lv_icmp_ge hF.1 hF.2.1 hd ht (fun q => kt ((nI_leI hb ha).mp q) hF H locs la hP hD hS hL) (fun q => kf (fun z => q ((nI_leI hb ha).mpr z)) hF H locs la hP hD hS hL)
theorem k_objInit {idx a : Nat} (h1 : Cond.methodLink Y.2.1.cls idx objectInit ∈ Y.2.2.2.2.1) (h2 : Cond.instanceMethod objectInit ∈ Y.2.2.2.2.1) (h3 : Cond.code objectInit ⟨#[0xb1]⟩ 1 none ∈ Y.2.2.2.2.1) (hdp : 1 ≤ Y.2.2.2.2.2) (hst : (st.map fun v => v.category).sum ≤ 8) (hd : decode Y.1 pc = .ok (.invokespecial idx, 3)) (kk : kg_G K Z Y cells slots (pc + 3) ls st dm ad ce) : kg_G K Z Y cells slots pc ls (.ref a :: st) dm ad ce := by
  intro hF H locs la hP hD hS hL
  have hr := hF.2.2.2.2.2.2.1
  refine W.objInit hF.1 hF.2.1 hF.2.2.2.1 (hF.2.2.2.2.1 _ h1) (hF.2.2.2.2.1 _ h2) (hF.2.2.2.2.1 _ h3) rfl (by rw [hF.2.2.1]; exact hL.1) rfl hd (by omega) ?_ ?_
  · show 2 * 0 + _ + 12 ≤ _
    omega
  · exact kk hF H locs la hP hD hS hL
theorem k_new {idx k i ci N : Nat} {C : String} {T : u_T} {ty : Nat → FieldType} {fs : List Value} (hni : (k, i) ∉ dm) (hc : vwCl[ci]? = some (C, T, N)) (hws : ∀ w ∈ u_ws C T N, w ∈ Y.2.2.2.2.1) (hty : ∀ k, k < N → parseFieldDescriptor (T k).2.2.1 = some (ty k)) (hcl : Cond.classLink Y.2.1.cls idx C ∈ Y.2.2.2.2.1) (hins : Cond.instantiable C N ∈ Y.2.2.2.2.1) (hini : Cond.initialized C ∈ Y.2.2.2.2.1) (hfs : ∀ j, j < N → defaultValue (ty j) = vp_V fs j)
    (h1 : cells + 1 ≤ kmc K) (h2 : slots + N ≤ kms K) (hd : decode Y.1 pc = .ok (.new idx, 3)) (kk : ∀ q : Nat, kg_G K Z Y (cells + 1) (slots + N) (pc + 3) ls (.ref q :: st) (dm ++ [(k, i)]) (ku ad k i q) (ku ce k i (.inr (ci, fs)))) : kg_G K Z Y cells slots pc ls st dm ad ce := by
  intro hF H locs la hP hD hS hL
  have hr := hF.2.2.2.2.2.2.1
  refine va_new hF.1 hF.2.1 hF.2.2.2.2.1 hws ty hty hF.2.2.2.1 (hF.2.2.2.2.1 _ hcl) (hF.2.2.2.2.1 _ hins) (hF.2.2.2.2.1 _ hini) hF.2.2.2.2.2.1.1 hP hD hS (fun q h => Nat.le_trans hF.2.2.2.2.2.2.2.1 h) hc hfs (Nat.le_trans h1 hr.2.2.1) (Nat.le_trans h2 hr.2.2.2) hd (fun q H1 hP1 hD1 hS1 => ?_)
  rw [← kw_app hni] at hP1 hD1
  exact kk q hF H1 locs la hP1 hD1 hS1 hL
theorem k_newI {k i n : Nat} (hni : (k, i) ∉ dm) (har : Cond.arrayClass .int ∈ Y.2.2.2.2.1) (hn : n ≤ 100000) (h1 : cells + 1 ≤ kmc K) (h2 : slots + n ≤ kms K) (hd : decode Y.1 pc = .ok (.newarray .int, 2)) (kk : ∀ q : Nat, kg_G K Z Y (cells + 1) (slots + n) (pc + 2) ls (.ref q :: st) (dm ++ [(k, i)]) (ku ad k i q) (ku ce k i (.inl (Z.2.1.1, n, .inl (fun _ => nI 0))))) : kg_G K Z Y cells slots pc ls (iv n :: st) dm ad ce := by
  intro hF H locs la hP hD hS hL
  have hr := hF.2.2.2.2.2.2.1
  have hK := hF.2.2.2.2.2.1.1
  refine va_newa hF.1 hF.2.1 (atype := .int) (ty := .int) (hF.2.2.2.2.1 _ har) rfl hK hP hD hS (fun q h => Nat.le_trans hF.2.2.2.2.2.2.2.1 h) (N' := n) (a0 := (n, .inl (fun _ => nI 0))) (fun cA => rfl) (nI_pos (by omega)) (nI_clamp (by omega)) (show n * 4 ≤ _ by omega) (Nat.le_trans h1 hr.2.2.1) (Nat.le_trans h2 hr.2.2.2) hd (fun q cA H1 hK1 hP1 hD1 hS1 => ?_)
  have e1 : va_RA K.2.2.2.2.1 cA .int := (hK1.2 4 (cA, .int) rfl).2
  have e2 : va_RA K.2.2.2.2.1 Z.2.1.1 .int := (hK.2 0 (Z.2.1.1, .int) rfl).2
  have e : cA = Z.2.1.1 := Option.some.inj (Eq.trans (Eq.symm e1) e2)
  subst e
  rw [← kw_app hni] at hP1 hD1
  exact kk q hF H1 locs la hP1 hD1 hS1 hL
theorem k_newZ {k i n : Nat} (hni : (k, i) ∉ dm) (har : Cond.arrayClass .boolean ∈ Y.2.2.2.2.1) (hn : n ≤ 100000) (h1 : cells + 1 ≤ kmc K) (h2 : slots + n ≤ kms K) (hd : decode Y.1 pc = .ok (.newarray .boolean, 2)) (kk : ∀ q : Nat, kg_G K Z Y (cells + 1) (slots + n) (pc + 2) ls (.ref q :: st) (dm ++ [(k, i)]) (ku ad k i q) (ku ce k i (.inl (Z.2.1.2.1, n, .inl (fun _ => nI 0))))) : kg_G K Z Y cells slots pc ls (iv n :: st) dm ad ce := by
  intro hF H locs la hP hD hS hL
  have hr := hF.2.2.2.2.2.2.1
  have hK := hF.2.2.2.2.2.1.1
  refine va_newa hF.1 hF.2.1 (atype := .boolean) (ty := .boolean) (hF.2.2.2.2.1 _ har) rfl hK hP hD hS (fun q h => Nat.le_trans hF.2.2.2.2.2.2.2.1 h) (N' := n) (a0 := (n, .inl (fun _ => nI 0))) (fun cA => rfl) (nI_pos (by omega)) (nI_clamp (by omega)) (show n * 1 ≤ _ by omega) (Nat.le_trans h1 hr.2.2.1) (Nat.le_trans h2 hr.2.2.2) hd (fun q cA H1 hK1 hP1 hD1 hS1 => ?_)
  have e1 : va_RA K.2.2.2.2.1 cA .boolean := (hK1.2 4 (cA, .boolean) rfl).2
  have e2 : va_RA K.2.2.2.2.1 Z.2.1.2.1 .boolean := (hK.2 1 (Z.2.1.2.1, .boolean) rfl).2
  have e : cA = Z.2.1.2.1 := Option.some.inj (Eq.trans (Eq.symm e1) e2)
  subst e
  rw [← kw_app hni] at hP1 hD1
  exact kk q hF H1 locs la hP1 hD1 hS1 hL
theorem k_newS {k i n idx : Nat} (hni : (k, i) ∉ dm) (hcl : Cond.classLink Y.2.1.cls idx "PumpHouse$Station" ∈ Y.2.2.2.2.1) (hn : n ≤ 100000) (h1 : cells + 1 ≤ kmc K) (h2 : slots + n ≤ kms K) (hd : decode Y.1 pc = .ok (.anewarray idx, 3)) (kk : ∀ q : Nat, kg_G K Z Y (cells + 1) (slots + n) (pc + 3) ls (.ref q :: st) (dm ++ [(k, i)]) (ku ad k i q) (ku ce k i (.inl (Z.2.1.2.2.1, n, .inr (.inr (.inr (.inr (fun _ => none)))))))) : kg_G K Z Y cells slots pc ls (iv n :: st) dm ad ce := by
  intro hF H locs la hP hD hS hL
  have hr := hF.2.2.2.2.2.2.1
  have hK := hF.2.2.2.2.2.1.1
  refine va_newq hF.1 hF.2.1 hF.2.2.2.1 (hF.2.2.2.2.1 _ hcl) hF.2.2.2.2.2.1.2.2.2.2.2.2.1 hK hP hD hS (fun q h => Nat.le_trans hF.2.2.2.2.2.2.2.1 h) (N' := n) (nI_pos (by omega)) (nI_clamp (by omega)) (by omega) (Nat.le_trans h1 hr.2.2.1) (Nat.le_trans h2 hr.2.2.2) hd (fun q cA H1 hK1 hP1 hD1 hS1 => ?_)
  obtain ⟨-, -, -, -, -, e1⟩ := (hK1.2 4 (cA, .object "PumpHouse$Station") rfl).2
  obtain ⟨-, -, -, -, -, e2⟩ := (hK.2 2 (Z.2.1.2.2.1, .object "PumpHouse$Station") rfl).2
  have e : cA = Z.2.1.2.2.1 := Option.some.inj (Eq.trans (Eq.symm e1) e2)
  subst e
  rw [← kw_app hni] at hP1 hD1
  exact kk q hF H1 locs la hP1 hD1 hS1 hL
theorem k_putF {idx k i ci N j a : Nat} {v : Value} {C : String} {T : u_T} {fs : List Value} {ty : FieldType} {ty0 : Nat → FieldType} (hin : (k, i) ∈ dm) (ha : ad k i = a) (hce : ce k i = .inr (ci, fs)) (hc : vwCl[ci]? = some (C, T, N)) (hj : j < N) (hlk : Cond.fieldLink Y.2.1.cls idx (T j).1 (T j).2.1 (T j).2.2.1 ∈ Y.2.2.2.2.1) (hws : ∀ w ∈ u_ws C T N, w ∈ Y.2.2.2.2.1)
    (hty : ∀ k, k < N → parseFieldDescriptor (T k).2.2.1 = some (ty0 k)) (hnm : ∀ a, a < N → ∀ b, b < N → a ≠ b → (T a).2.1 ≠ (T b).2.1) (hfin : (T j).2.2.2 = true) (hdc : (T j).1 = Y.2.1.cls) (ht : ty0 j = ty) (hn : narrow ty v = v) (hfit : fits ty v = true) (hl : j < fs.length)
    (hd : decode Y.1 pc = .ok (.putfield idx, 3)) (kk : kg_G K Z Y cells slots (pc + 3) ls st dm ad (ku ce k i (.inr (ci, fs.set j v)))) (hini : Y.2.1.name = "<init>" := by rfl) : kg_G K Z Y cells slots pc ls (v :: .ref a :: st) dm ad ce := by
  intro hF H locs la hP hD hS hL
  subst ha
  obtain ⟨n, hn0, he⟩ := kw_at (ad := ad) (ce := ce) hin
  rw [hce] at he
  refine va_putF hF.1 hF.2.1 hF.2.2.2.2.1 hws ty0 hty hnm hF.2.2.2.1 hF.2.2.2.2.2.1.1 hP hD hS n he hc j hj (hF.2.2.2.2.1 _ hlk) (fun _ h => h) hfin (hF.2.2.2.2.2.2.2.2 hini) hdc (ty := ty) (by rw [hty j hj, ht]) hn hfit hl hd (fun H1 locs1 hP1 hD1 hS1 => ?_)
  rw [kw_set hD hn0] at hP1 hD1
  exact kk hF H1 locs1 la hP1 hD1 hS1 hL
theorem k_get {idx k i ci N j a : Nat} {v : Value} {C : String} {T : u_T} {fs : List Value} (hin : (k, i) ∈ dm) (ha : ad k i = a) (hce : ce k i = .inr (ci, fs)) (hc : vwCl[ci]? = some (C, T, N)) (hj : j < N) (hlk : Cond.fieldLink Y.2.1.cls idx (T j).1 (T j).2.1 (T j).2.2.1 ∈ Y.2.2.2.2.1) (hws : ∀ w ∈ u_ws C T N, w ∈ Y.2.2.2.2.1) (hv : fs[j]? = some v)
    (hd : decode Y.1 pc = .ok (.getfield idx, 3)) (kk : kg_G K Z Y cells slots (pc + 3) ls (v :: st) dm ad ce) : kg_G K Z Y cells slots pc ls (.ref a :: st) dm ad ce := by
  intro hF H locs la hP hD hS hL
  subst ha
  obtain ⟨n, hn0, he⟩ := kw_at (ad := ad) (ce := ce) hin
  rw [hce] at he
  exact va_get hF.1 hF.2.1 hF.2.2.2.2.1 hws hF.2.2.2.1 hF.2.2.2.2.2.1.1 hP n he hc j hj (hF.2.2.2.2.1 _ hlk) (fun _ h => h) hv hd (kk hF H locs la hP hD hS hL)
theorem k_aastore {k i s a v n : Nat} {vs : List Value} {f : Nat → Option Nat} (hin : (k, i) ∈ dm) (ha : ad k i = a) (hce : ce k i = .inl (Z.2.1.2.2.1, n, .inr (.inr (.inr (.inr f))))) (hin' : (3, s) ∈ dm) (hv : ad 3 s = v) (hcv : ce 3 s = .inr (3, vs)) (hs : s < n) (hn : n < 2147483648) (hd : decode Y.1 pc = .ok (.aastore, 1))
    (kk : kg_G K Z Y cells slots (pc + 1) ls st dm ad (ku ce k i (.inl (Z.2.1.2.2.1, n, .inr (.inr (.inr (.inr (va_up f s (some v))))))))) : kg_G K Z Y cells slots pc ls (.ref v :: iv s :: .ref a :: st) dm ad ce := by
  intro hF H locs la hP hD hS hL
  subst ha
  subst hv
  obtain ⟨q, hq0, he⟩ := kw_at (ad := ad) (ce := ce) hin
  obtain ⟨q', hq0', he'⟩ := kw_at (ad := ad) (ce := ce) hin'
  rw [hce] at he
  rw [hcv] at he'
  refine va_astq hF.1 hF.2.1 hF.2.2.2.2.2.1.1 hP hD hS q 2 q' 3 (r := (RX3, TX3, 12)) he rfl he' rfl (vp_in_nI hs hn) hd (fun H1 locs1 hP1 hD1 hS1 => ?_)
  rw [nI_clamp (show s < 2 ^ 31 by omega), kw_set hD hq0] at hP1 hD1
  exact kk hF H1 locs1 la hP1 hD1 hS1 hL
/-- behind a constructor -/
theorem kg_after {g0 : JFrame} {As : Array Value} {H : Heap} {locs : List Loc} {la : Array Slot} {mc ms : Nat} {post : List (Nat × Nat) → (Nat → Nat → Nat) → (Nat → Nat → va_E) → Prop} (hF : kg_Fx K Z Y) (hS : va_S (fun q => Z.2.2 ≤ q) K.2.2.2.2.1.heap H locs) (hL : mg_L la Y.2.2.1 ls) (hg : g0 = F0 K.2.2.2.2.2.1 pc la g0.stack)
    (run : va_Run K.1 K.2.1 K.2.2.1 K.2.2.2.1 K.2.2.2.2.1 K.2.2.2.2.2.1 K.2.2.2.2.2.2.1 K.2.2.2.2.2.2.2.1 K.2.2.2.2.2.2.2.2.1 K.2.2.2.2.2.2.2.2.2.1 H locs cells slots mc ms g0 st (kg_Qc Z post As) (fun q => Z.2.2 ≤ q))
    (kk : ∀ dm' ad' ce', post dm' ad' ce' → kg_G K Z Y (cells + mc) (slots + ms) (pc + 3) ls st dm' ad' ce') :
    W K.1 K.2.1 K.2.2.1 K.2.2.2.1 K.2.2.2.2.1 K.2.2.2.2.2.1 K.2.2.2.2.2.2.1 K.2.2.2.2.2.2.2.1 K.2.2.2.2.2.2.2.2.1 K.2.2.2.2.2.2.2.2.2.1 H locs cells slots K.2.2.2.2.2.2.2.2.2.2.1 g0 := by
  intro T hT X
  obtain ⟨v, st₀, t, T', L, h0, X', hL', e1, e2, ⟨dm', ad', ce', hv, hp, hP', hD', hz, hk⟩, go⟩ := run T hT X
  cases hv
  rw [h0] at hz hk
  have hS' : va_S (fun q => Z.2.2 ≤ q) K.2.2.2.2.1.heap T'.heap (locs ++ L) := by
    refine ⟨Nat.le_trans hS.1 (by rw [e1]; exact hz), fun q h1 h2 => ?_, fun q hq => ?_⟩
    · rw [e1, hk q (Nat.lt_of_lt_of_le h1 hS.1) h2]
      exact hS.2.1 q h1 h2
    · rcases List.mem_append.mp hq with h | h
      · exact hS.2.2 q h
      · exact hL' q h
  obtain ⟨t2, a1, b1⟩ := kk dm' ad' ce' hp hF T'.heap (locs ++ L) la (by rw [e1]; exact hP') hD' hS' hL T' rfl X'
  refine ⟨t2, go t2 ?_, b1⟩
  rw [hg]
  exact a1
theorem kg_room {d d' n mc ms : Nat} {R : Room} (h : d ≤ R.frames ∧ 33 * d ≤ R.locals) (hd : d' + 1 ≤ d) (hn : n ≤ 14) : (kg_rm d' mc ms).frames + 1 ≤ R.frames ∧ 8 + (n + 11) + (kg_rm d' mc ms).locals ≤ R.locals := by
  have h1 : (kg_rm d' mc ms).frames = d' := rfl
  have h2 : (kg_rm d' mc ms).locals = 33 * d' := rfl
  rw [h1, h2]
  omega
theorem kg_blind {As : List Value} : FrameBlind (fun a U => a = As.toArray ∧ kg_T Z U ∧ va_P Z.1 vwCl (kw dm ad ce) U.heap ∧ va_D (fun q => Z.2.2 ≤ q) (kw dm ad ce) ∧ Z.2.2 ≤ U.heap.size) :=
  fun _ _ _ _ q => ⟨q.1, q.2.1.same rfl, q.2.2.1, q.2.2.2.1, q.2.2.2.2⟩
theorem k_callI {As : List Value} {idx b mc ms na : Nat} {ws' : List Cond} {post : List (Nat × Nat) → (Nat → Nat → Nat) → (Nat → Nat → va_E) → Prop} (hM : kg_C K.2.1 Z Y' mc ms (.ref b :: As) dm ad ce post) (hG : GoodIn Y.2.2.2.2.1 Y'.2.2.2.2.1) (hw : Y'.2.2.2.2.1 = Cond.code Y'.2.1 Y'.1 Y'.2.2.1 none :: ws') (hini : Cond.initialized Y'.2.1.cls ∈ Y.2.2.2.2.1) (hl : Cond.methodLink Y.2.1.cls idx Y'.2.1 ∈ Y.2.2.2.2.1) (him : Cond.instanceMethod Y'.2.1 ∈ Y.2.2.2.2.1) (hy1 : Y'.2.1.name = "<init>")
    (hna : As.length = na) (hd0 : Y'.2.1.cls ≠ "java/lang/invoke/MethodHandle" ∧ Y'.2.1.cls ≠ "java/lang/invoke/VarHandle" ∧ (parseMethodDescriptor Y'.2.1.desc).map (fun d => d.parameters.length) = some na) (hdp : Y'.2.2.2.2.2 + 1 ≤ Y.2.2.2.2.2) (hnl : Y'.2.2.1 ≤ 14) (hst : (st.map fun v => v.category).sum ≤ 8) (h1 : cells + mc ≤ kmc K) (h2 : slots + ms ≤ kms K) (hd : decode Y.1 pc = .ok (.invokespecial idx, 3))
    (kk : ∀ dm' ad' ce', post dm' ad' ce' → kg_G K Z Y (cells + mc) (slots + ms) (pc + 3) ls st dm' ad' ce') : kg_G K Z Y cells slots pc ls (As.reverse ++ .ref b :: st) dm ad ce := by
  intro hF H locs la hP hD hS hL
  subst hna
  have hr := hF.2.2.2.2.2.2.1
  have hT := hF.2.2.2.2.2.1
  refine kg_after hF hS hL rfl (va_runI (index := idx) (b := b) (As := As) (rest := st) (nL := Y.2.2.1) (n := As.length) ⟨hF.1, hF.2.1, hF.2.2.1, hF.2.2.2.1, hF.2.2.2.2.1⟩ hM (cwI As.length hF.2.2.2.2.1 hG hw rfl rfl (hF.2.2.2.2.1 _ hini) (hF.2.2.2.2.1 _ hl) (hF.2.2.2.2.1 _ him) hy1 hd0 (kg_room ⟨hr.1, hr.2.1⟩ hdp hnl)) ⟨kg_blind, fun U hU hW => ⟨rfl, hT.moved hW, by rw [hU]; exact hP, hD, by rw [hU]; exact Nat.le_trans hF.2.2.2.2.2.2.2.1 hS.1⟩⟩ rfl rfl hL.1 rfl ?_ hd ⟨Nat.le_trans h1 hr.2.2.1, Nat.le_trans h2 hr.2.2.2⟩) kk
  show 2 * 0 + _ ≤ 8
  omega
theorem k_callIN {As : List Value} {idx b mc ms na : Nat} {ws' : List Cond} {post : List (Nat × Nat) → (Nat → Nat → Nat) → (Nat → Nat → va_E) → Prop} (hM : kg_C K.2.1 Z Y' mc ms (.ref b :: As) dm ad ce post) (hG : GoodIn Y.2.2.2.2.1 Y'.2.2.2.2.1) (hw : Y'.2.2.2.2.1 = Cond.code Y'.2.1 Y'.1 Y'.2.2.1 none :: ws') (hini : Cond.initialized Y'.2.1.cls ∈ Y.2.2.2.2.1) (hl : ∀ s : State, kg_T Z s → va_Nw (.methodLinkNest Y.2.1.cls idx Y'.2.1 RX4) s) (him : Cond.instanceMethod Y'.2.1 ∈ Y.2.2.2.2.1) (hy1 : Y'.2.1.name = "<init>")
    (hna : As.length = na) (hd0 : Y'.2.1.cls ≠ "java/lang/invoke/MethodHandle" ∧ Y'.2.1.cls ≠ "java/lang/invoke/VarHandle" ∧ (parseMethodDescriptor Y'.2.1.desc).map (fun d => d.parameters.length) = some na) (hdp : Y'.2.2.2.2.2 + 1 ≤ Y.2.2.2.2.2) (hnl : Y'.2.2.1 ≤ 14) (hst : (st.map fun v => v.category).sum ≤ 8) (h1 : cells + mc ≤ kmc K) (h2 : slots + ms ≤ kms K) (hd : decode Y.1 pc = .ok (.invokespecial idx, 3))
    (kk : ∀ dm' ad' ce', post dm' ad' ce' → kg_G K Z Y (cells + mc) (slots + ms) (pc + 3) ls st dm' ad' ce') : kg_G K Z Y cells slots pc ls (As.reverse ++ .ref b :: st) dm ad ce := by
  intro hF H locs la hP hD hS hL
  subst hna
  have hr := hF.2.2.2.2.2.2.1
  have hT := hF.2.2.2.2.2.1
  refine kg_after hF hS hL rfl (va_runIN (index := idx) (host := RX4) (b := b) (As := As) (rest := st) (nL := Y.2.2.1) (n := As.length) ⟨hF.1, hF.2.1, hF.2.2.1, hF.2.2.2.1, hF.2.2.2.2.1⟩ hM ⟨va_cnB As.length hF.2.2.2.2.1 hG hw rfl rfl (hl _ hT) (hF.2.2.2.2.1 _ hini) hd0 (kg_room ⟨hr.1, hr.2.1⟩ hdp hnl), hy1, hF.2.2.2.2.1 _ him⟩ ⟨kg_blind, fun U hU hW => ⟨rfl, hT.moved hW, by rw [hU]; exact hP, hD, by rw [hU]; exact Nat.le_trans hF.2.2.2.2.2.2.2.1 hS.1⟩⟩ rfl rfl hL.1 rfl ?_ hd ⟨Nat.le_trans h1 hr.2.2.1, Nat.le_trans h2 hr.2.2.2⟩) kk
  show 2 * 0 + _ ≤ 8
  omega
/-- the world is made: on with the joint world -/
theorem k_toG {b : Bool} {g : mg_F} {post : Option Nat → mg_F → Prop} (hm : ∀ k i, i < mg_cnt b k → (k, i) ∈ dm ∧ ce k i = mg_mk (ad, Z.2.1) k i (g k i)) (h1 : cells ≤ kmc K) (h2 : slots ≤ kms K)
    (hR : mg_A (ad, Z.2.1) b Z.2.2 → ∀ (v : Option Nat) (g : mg_F) (H : Heap) (locs : List Loc) (la : Array Slot) (pc : Nat), (v = none → decode Y.1 pc = .ok (.return_, 1)) → (∀ n, v = some n → decode Y.1 pc = .ok (.ireturn, 1)) → mg_rt Y.2.2.2.1 v → post v g → mg_P (Z.1, (ad, Z.2.1), b, Z.2.2) g H → mg_S (Z.1, (ad, Z.2.1), b, Z.2.2) K.2.2.2.2.1.heap H locs → mg_W K H locs pc la (mg_val v).toList)
    (kk : mg_G K (Z.1, (ad, Z.2.1), b, Z.2.2) Y post pc ls st g) : kg_G K Z Y cells slots pc ls st dm ad ce := by
  intro hF H locs la hP hD hS hL
  obtain ⟨hP1, hA⟩ := kw_to (b := b) (cs := Z.2.1) hm hP hD
  have hT := hF.2.2.2.2.2.1
  exact W.widen h1 h2 (kk ⟨hF.1, hF.2.1, hF.2.2.1, hF.2.2.2.1, hF.2.2.2.2.1, ⟨hT.1, hA, hT.2.1, hT.2.2.1, hT.2.2.2.1⟩, hF.2.2.2.2.2.2.1, hR hA⟩ H locs la hP1 hS hL)
end KGR
