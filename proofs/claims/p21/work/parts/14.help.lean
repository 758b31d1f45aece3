/-! ===== helps for walks by program ===== -/
theorem mg_sgn {a : Nat} (h : 2147483648 ≤ a) (h' : a < 4294967296) : mg_sg a < 0 := by
  unfold mg_sg
  rw [if_neg (by omega)]
  omega
section MGH
variable {K : mg_Kt} {Z : mg_Zt} {Y Y' : mg_Yt} {post post' : Option Nat → mg_F → Prop} {pc : Nat} {ls st : List Value} {g : mg_F}
theorem g_top {a b : Nat} (h : a = b) (kk : mg_G K Z Y post pc ls (iv b :: st) g) : mg_G K Z Y post pc ls (iv a :: st) g := by rw [h]; exact kk
theorem g_topw {a b : Nat} (h : nI a = nI b) (kk : mg_G K Z Y post pc ls (iv b :: st) g) : mg_G K Z Y post pc ls (iv a :: st) g := by
  show mg_G K Z Y post pc ls (Value.int (nI a) :: st) g
  rw [h]
  exact kk
theorem g_state {g' : mg_F} (h : g = g') (kk : mg_G K Z Y post pc ls st g') : mg_G K Z Y post pc ls st g := by rw [h]; exact kk
theorem g_isubw {a b c : Nat} (hs : nI a - nI b = nI c) (hd : decode Y.1 pc = .ok (.isub, 1)) (kk : mg_G K Z Y post (pc + 1) ls (iv c :: st) g) : mg_G K Z Y post pc ls (iv b :: iv a :: st) g := by
  intro hF H locs la hP hS hL
  refine lv_isub hF.1 hF.2.1 hd ?_
  rw [hs]
  exact kk hF H locs la hP hS hL
theorem mg_inc (a : Nat) : nI a + Int32.ofInt 1 = nI (a + 1) := nI_1 a
theorem g_callVi {As : List Value} {idx k i ci N : Nat} {C : String} {T : u_T} {fs : List Value} {ws' : List Cond} {ty : FieldType} (hM : mg_C K.2.1 Z Y' (rv Z k i :: As) g post') (hG : GoodIn Y.2.2.2.2.1 (wsV Y.2.1.cls idx C Y'.2.1 Y'.2.2.2.2.1)) (hw : Y'.2.2.2.2.1 = Cond.code Y'.2.1 Y'.1 Y'.2.2.1 (some ty) :: ws')
    (hin : i < mg_cnt Z.2.2.1 k) (hm : mg_mk Z.2.1 k i (g k i) = .inr (ci, fs)) (hc : vwCl[ci]? = some (C, T, N))
    {na : Nat} (hna : As.length = na) (hd0 : (Y'.2.1.cls = C ∧ Y'.2.1.cls ≠ "java/lang/invoke/MethodHandle" ∧ Y'.2.1.cls ≠ "java/lang/invoke/VarHandle" ∧ (parseMethodDescriptor Y'.2.1.desc).map (fun d => d.parameters.length) = some na) ∧ Y'.2.2.2.1 = some ty)
    (hdp : Y'.2.2.2.2.2 + 1 ≤ Y.2.2.2.2.2) (hnl : Y'.2.2.1 ≤ 14) (hst : (st.map fun v => v.category).sum ≤ 8) (hd : decode Y.1 pc = .ok (.invokevirtual idx, 3))
    (kk : ∀ (r : Nat) (g' : mg_F), post' (some r) g' → mg_G K Z Y post (pc + 3) ls (iv r :: st) g') : mg_G K Z Y post pc ls (As.reverse ++ rv Z k i :: st) g := by
  subst hna
  refine g_callV (ws' := ws') hM hG (by rw [hw, hd0.2]) hin hm hc hd0.1 hdp hnl hst hd (fun v g' hr hp => ?_)
  cases v with
  | none => rw [hd0.2] at hr; exact hr.elim
  | some r => exact kk r g' hp
theorem g_callVv {As : List Value} {idx k i ci N : Nat} {C : String} {T : u_T} {fs : List Value} {ws' : List Cond} (hM : mg_C K.2.1 Z Y' (rv Z k i :: As) g post') (hG : GoodIn Y.2.2.2.2.1 (wsV Y.2.1.cls idx C Y'.2.1 Y'.2.2.2.2.1)) (hw : Y'.2.2.2.2.1 = Cond.code Y'.2.1 Y'.1 Y'.2.2.1 none :: ws')
    (hin : i < mg_cnt Z.2.2.1 k) (hm : mg_mk Z.2.1 k i (g k i) = .inr (ci, fs)) (hc : vwCl[ci]? = some (C, T, N))
    {na : Nat} (hna : As.length = na) (hd0 : (Y'.2.1.cls = C ∧ Y'.2.1.cls ≠ "java/lang/invoke/MethodHandle" ∧ Y'.2.1.cls ≠ "java/lang/invoke/VarHandle" ∧ (parseMethodDescriptor Y'.2.1.desc).map (fun d => d.parameters.length) = some na) ∧ Y'.2.2.2.1 = none)
    (hdp : Y'.2.2.2.2.2 + 1 ≤ Y.2.2.2.2.2) (hnl : Y'.2.2.1 ≤ 14) (hst : (st.map fun v => v.category).sum ≤ 8) (hd : decode Y.1 pc = .ok (.invokevirtual idx, 3))
    (kk : ∀ (g' : mg_F), post' none g' → mg_G K Z Y post (pc + 3) ls st g') : mg_G K Z Y post pc ls (As.reverse ++ rv Z k i :: st) g := by
  subst hna
  refine g_callV (ws' := ws') hM hG (by rw [hw, hd0.2]) hin hm hc hd0.1 hdp hnl hst hd (fun v g' hr hp => ?_)
  cases v with
  | none => exact kk g' hp
  | some r => rw [hd0.2] at hr; exact hr.elim
theorem g_callSi {As : List Value} {idx : Nat} {ws' : List Cond} {ty : FieldType} (hM : mg_C K.2.1 Z Y' As g post') (hG : GoodIn Y.2.2.2.2.1 (va_wsS Y.2.1.cls idx Y'.2.1 Y'.2.2.2.2.1)) (hw : Y'.2.2.2.2.1 = Cond.code Y'.2.1 Y'.1 Y'.2.2.1 (some ty) :: ws')
    {na : Nat} (hna : As.length = na) (hd0 : (Y'.2.1.cls ≠ "java/lang/invoke/MethodHandle" ∧ Y'.2.1.cls ≠ "java/lang/invoke/VarHandle" ∧ (parseMethodDescriptor Y'.2.1.desc).map (fun d => d.parameters.length) = some na) ∧ Y'.2.2.2.1 = some ty)
    (hdp : Y'.2.2.2.2.2 + 1 ≤ Y.2.2.2.2.2) (hnl : Y'.2.2.1 ≤ 14) (hst : (st.map fun v => v.category).sum ≤ 8) (hd : decode Y.1 pc = .ok (.invokestatic idx, 3))
    (kk : ∀ (r : Nat) (g' : mg_F), post' (some r) g' → mg_G K Z Y post (pc + 3) ls (iv r :: st) g') : mg_G K Z Y post pc ls (As.reverse ++ st) g := by
  subst hna
  refine g_callS (ws' := ws') hM hG (by rw [hw, hd0.2]) hd0.1 hdp hnl hst hd (fun v g' hr hp => ?_)
  cases v with
  | none => rw [hd0.2] at hr; exact hr.elim
  | some r => exact kk r g' hp
theorem g_callSv {As : List Value} {idx : Nat} {ws' : List Cond} (hM : mg_C K.2.1 Z Y' As g post') (hG : GoodIn Y.2.2.2.2.1 (va_wsS Y.2.1.cls idx Y'.2.1 Y'.2.2.2.2.1)) (hw : Y'.2.2.2.2.1 = Cond.code Y'.2.1 Y'.1 Y'.2.2.1 none :: ws')
    {na : Nat} (hna : As.length = na) (hd0 : (Y'.2.1.cls ≠ "java/lang/invoke/MethodHandle" ∧ Y'.2.1.cls ≠ "java/lang/invoke/VarHandle" ∧ (parseMethodDescriptor Y'.2.1.desc).map (fun d => d.parameters.length) = some na) ∧ Y'.2.2.2.1 = none)
    (hdp : Y'.2.2.2.2.2 + 1 ≤ Y.2.2.2.2.2) (hnl : Y'.2.2.1 ≤ 14) (hst : (st.map fun v => v.category).sum ≤ 8) (hd : decode Y.1 pc = .ok (.invokestatic idx, 3))
    (kk : ∀ (g' : mg_F), post' none g' → mg_G K Z Y post (pc + 3) ls st g') : mg_G K Z Y post pc ls (As.reverse ++ st) g := by
  subst hna
  refine g_callS (ws' := ws') hM hG (by rw [hw, hd0.2]) hd0.1 hdp hnl hst hd (fun v g' hr hp => ?_)
  cases v with
  | none => exact kk g' hp
  | some r => rw [hd0.2] at hr; exact hr.elim
theorem g_callNi {As : List Value} {idx : Nat} {ws' : List Cond} {ty : FieldType} (hM : mg_C K.2.1 Z Y' As g post') (hG : GoodIn Y.2.2.2.2.1 Y'.2.2.2.2.1) (hw : Y'.2.2.2.2.1 = Cond.code Y'.2.1 Y'.1 Y'.2.2.1 (some ty) :: ws')
    (hl : ∀ s : State, mg_T Z s → va_Nw (.methodLinkNest Y.2.1.cls idx Y'.2.1 RX4) s) (hini : Cond.initialized Y'.2.1.cls ∈ Y.2.2.2.2.1) (hstc : Cond.static Y'.2.1 ∈ Y.2.2.2.2.1)
    {na : Nat} (hna : As.length = na) (hd0 : (Y'.2.1.cls ≠ "java/lang/invoke/MethodHandle" ∧ Y'.2.1.cls ≠ "java/lang/invoke/VarHandle" ∧ (parseMethodDescriptor Y'.2.1.desc).map (fun d => d.parameters.length) = some na) ∧ Y'.2.2.2.1 = some ty)
    (hdp : Y'.2.2.2.2.2 + 1 ≤ Y.2.2.2.2.2) (hnl : Y'.2.2.1 ≤ 14) (hst : (st.map fun v => v.category).sum ≤ 8) (hd : decode Y.1 pc = .ok (.invokestatic idx, 3))
    (kk : ∀ (r : Nat) (g' : mg_F), post' (some r) g' → mg_G K Z Y post (pc + 3) ls (iv r :: st) g') : mg_G K Z Y post pc ls (As.reverse ++ st) g := by
  subst hna
  refine g_callN (ws' := ws') hM hG (by rw [hw, hd0.2]) hl hini hstc hd0.1 hdp hnl hst hd (fun v g' hr hp => ?_)
  cases v with
  | none => rw [hd0.2] at hr; exact hr.elim
  | some r => exact kk r g' hp
theorem g_callNv {As : List Value} {idx : Nat} {ws' : List Cond} (hM : mg_C K.2.1 Z Y' As g post') (hG : GoodIn Y.2.2.2.2.1 Y'.2.2.2.2.1) (hw : Y'.2.2.2.2.1 = Cond.code Y'.2.1 Y'.1 Y'.2.2.1 none :: ws')
    (hl : ∀ s : State, mg_T Z s → va_Nw (.methodLinkNest Y.2.1.cls idx Y'.2.1 RX4) s) (hini : Cond.initialized Y'.2.1.cls ∈ Y.2.2.2.2.1) (hstc : Cond.static Y'.2.1 ∈ Y.2.2.2.2.1)
    {na : Nat} (hna : As.length = na) (hd0 : (Y'.2.1.cls ≠ "java/lang/invoke/MethodHandle" ∧ Y'.2.1.cls ≠ "java/lang/invoke/VarHandle" ∧ (parseMethodDescriptor Y'.2.1.desc).map (fun d => d.parameters.length) = some na) ∧ Y'.2.2.2.1 = none)
    (hdp : Y'.2.2.2.2.2 + 1 ≤ Y.2.2.2.2.2) (hnl : Y'.2.2.1 ≤ 14) (hst : (st.map fun v => v.category).sum ≤ 8) (hd : decode Y.1 pc = .ok (.invokestatic idx, 3))
    (kk : ∀ (g' : mg_F), post' none g' → mg_G K Z Y post (pc + 3) ls st g') : mg_G K Z Y post pc ls (As.reverse ++ st) g := by
  subst hna
  refine g_callN (ws' := ws') hM hG (by rw [hw, hd0.2]) hl hini hstc hd0.1 hdp hnl hst hd (fun v g' hr hp => ?_)
  cases v with
  | none => exact kk g' hp
  | some r => rw [hd0.2] at hr; exact hr.elim
end MGH
