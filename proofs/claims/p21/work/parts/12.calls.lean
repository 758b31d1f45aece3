/-! ===== calls over the joint world ===== -/
theorem mg_T.same {Z : mg_Zt} {s U : State} (h : mg_T Z s) (e : s.vm = U.vm) : mg_T Z U :=
  ⟨va_K.moved (by rw [e]; exact Vm.Alike.refl U.vm) h.1, h.2.1, va_Nw.same rfl e h.2.2.1, va_Nw.same rfl e h.2.2.2.1, va_Nw.same rfl e h.2.2.2.2⟩
theorem mg_blind {Z : mg_Zt} {As : List Value} {g : mg_F} : FrameBlind (fun a U => a = As.toArray ∧ mg_T Z U ∧ mg_P Z g U.heap ∧ Z.2.2.2 ≤ U.heap.size) :=
  fun _ _ _ _ q => ⟨q.1, q.2.1.same rfl, q.2.2.1, q.2.2.2⟩
section MGC
variable {K : mg_Kt} {Z : mg_Zt} {Y Y' : mg_Yt} {post post' : Option Nat → mg_F → Prop} {pc : Nat} {ls st : List Value} {g : mg_F}
/-- behind a call -/
theorem mg_after {g0 : JFrame} {As : Array Value} {H : Heap} {locs : List Loc} {la : Array Slot} (hF : mg_Fx K Z Y post) (hS : mg_S Z K.2.2.2.2.1.heap H locs) (hL : mg_L la Y.2.2.1 ls) (hg : g0 = F0 K.2.2.2.2.2.1 pc la g0.stack)
    (run : va_Run K.1 K.2.1 K.2.2.1 K.2.2.2.1 K.2.2.2.2.1 K.2.2.2.2.2.1 K.2.2.2.2.2.2.1 K.2.2.2.2.2.2.2.1 K.2.2.2.2.2.2.2.2.1 K.2.2.2.2.2.2.2.2.2.1 H locs K.2.2.2.2.2.2.2.2.2.2.2.1 K.2.2.2.2.2.2.2.2.2.2.2.2 0 0 g0 st (mg_Qc Z Y' post' As) (fun q => Z.2.2.2 ≤ q))
    (kk : ∀ (v : Option Nat) (g' : mg_F), mg_rt Y'.2.2.2.1 v → post' v g' → mg_G K Z Y post (pc + 3) ls ((mg_val v).toList ++ st) g') :
    W K.1 K.2.1 K.2.2.1 K.2.2.2.1 K.2.2.2.2.1 K.2.2.2.2.2.1 K.2.2.2.2.2.2.1 K.2.2.2.2.2.2.2.1 K.2.2.2.2.2.2.2.2.1 K.2.2.2.2.2.2.2.2.2.1 H locs K.2.2.2.2.2.2.2.2.2.2.2.1 K.2.2.2.2.2.2.2.2.2.2.2.2 K.2.2.2.2.2.2.2.2.2.2.1 g0 := by
  intro T hT X
  obtain ⟨v, st₀, t, T', L, h0, X', hL', e1, e2, ⟨v', g', hv, hrt, hp, hP', hz, hk⟩, go⟩ := run T hT X
  cases hv
  rw [h0] at hz hk
  have hS' : mg_S Z K.2.2.2.2.1.heap T'.heap (locs ++ L) := by
    refine ⟨Nat.le_trans hS.1 (by rw [e1]; exact hz), fun q h1 h2 => ?_, fun q hq => ?_⟩
    · rw [e1, hk q (Nat.lt_of_lt_of_le h1 hS.1) h2]
      exact hS.2.1 q h1 h2
    · rcases List.mem_append.mp hq with h | h
      · exact hS.2.2 q h
      · exact hL' q h
  obtain ⟨t2, a1, b1⟩ := kk v' g' hrt hp hF T'.heap (locs ++ L) la (by rw [e1]; exact hP') hS' hL T' rfl X'
  refine ⟨t2, go t2 ?_, b1⟩
  rw [hg]
  exact a1
theorem mg_room {d d' n : Nat} {R : Room} (h : d ≤ R.frames ∧ 33 * d ≤ R.locals) (hd : d' + 1 ≤ d) (hn : n ≤ 14) : (mg_rm d').frames + 1 ≤ R.frames ∧ 8 + (n + 11) + (mg_rm d').locals ≤ R.locals := by
  have h1 : (mg_rm d').frames = d' := rfl
  have h2 : (mg_rm d').locals = 33 * d' := rfl
  rw [h1, h2]
  omega
theorem g_callV {As : List Value} {idx k i ci N : Nat} {C : String} {T : u_T} {fs : List Value} {ws' : List Cond} (hM : mg_C K.2.1 Z Y' (rv Z k i :: As) g post') (hG : GoodIn Y.2.2.2.2.1 (wsV Y.2.1.cls idx C Y'.2.1 Y'.2.2.2.2.1)) (hw : Y'.2.2.2.2.1 = Cond.code Y'.2.1 Y'.1 Y'.2.2.1 Y'.2.2.2.1 :: ws')
    (hin : i < mg_cnt Z.2.2.1 k) (hm : mg_mk Z.2.1 k i (g k i) = .inr (ci, fs)) (hc : vwCl[ci]? = some (C, T, N))
    (hd0 : Y'.2.1.cls = C ∧ Y'.2.1.cls ≠ "java/lang/invoke/MethodHandle" ∧ Y'.2.1.cls ≠ "java/lang/invoke/VarHandle" ∧ (parseMethodDescriptor Y'.2.1.desc).map (fun d => d.parameters.length) = some As.length)
    (hdp : Y'.2.2.2.2.2 + 1 ≤ Y.2.2.2.2.2) (hnl : Y'.2.2.1 ≤ 14) (hst : (st.map fun v => v.category).sum ≤ 8) (hd : decode Y.1 pc = .ok (.invokevirtual idx, 3))
    (kk : ∀ (v : Option Nat) (g' : mg_F), mg_rt Y'.2.2.2.1 v → post' v g' → mg_G K Z Y post (pc + 3) ls ((mg_val v).toList ++ st) g') : mg_G K Z Y post pc ls (As.reverse ++ rv Z k i :: st) g := by
  intro hF H locs la hP hS hL
  obtain ⟨n, hn⟩ := mg_at hin
  have he := mg_ws_at (E := Z.2.1) (g := g) hn
  rw [hm] at he
  have hT := hF.2.2.2.2.2.1
  have hr := hF.2.2.2.2.2.2.1
  refine mg_after hF hS hL rfl (va_runV (C := C) (index := idx) (b := Z.2.1.1 k i) (As := As) (rest := st) (nL := Y.2.2.1) (n := As.length) ⟨hF.1, hF.2.1, hF.2.2.1, hF.2.2.2.1, hF.2.2.2.2.1⟩ hM (cwV As.length hF.2.2.2.2.1 hG hw rfl rfl hd0 (mg_room ⟨hr.1, hr.2.1⟩ hdp hnl)) ⟨mg_blind, va_recv hT.1 hP hc he, fun U hU hW => ⟨rfl, hT.moved hW, by rw [hU]; exact hP, ?_⟩⟩ rfl rfl hL.1 rfl ?_ hd ⟨hr.2.2.1, hr.2.2.2⟩) kk
  · rw [hU]
    have := hT.2.1.2 _ (mg_in hin)
    exact Nat.le_of_lt (Nat.lt_of_le_of_lt this ((hP n _ he).lt))
  · show 2 * 0 + _ ≤ 8
    omega
theorem mg_B {H : Heap} (hT : mg_A Z.2.1 Z.2.2.1 Z.2.2.2) (hP : mg_P Z g H) : Z.2.2.2 ≤ H.size := by
  obtain ⟨n, hn⟩ := mg_at (b := Z.2.2.1) (k := 4) (i := 0) (show 0 < 1 by omega)
  have he := mg_ws_at (E := Z.2.1) (g := g) hn
  have := hT.2 _ (mg_in (b := Z.2.2.1) (k := 4) (i := 0) (show 0 < 1 by omega))
  exact Nat.le_of_lt (Nat.lt_of_le_of_lt this ((hP n _ he).lt))
theorem g_callS {As : List Value} {idx : Nat} {ws' : List Cond} (hM : mg_C K.2.1 Z Y' As g post') (hG : GoodIn Y.2.2.2.2.1 (va_wsS Y.2.1.cls idx Y'.2.1 Y'.2.2.2.2.1)) (hw : Y'.2.2.2.2.1 = Cond.code Y'.2.1 Y'.1 Y'.2.2.1 Y'.2.2.2.1 :: ws')
    (hd0 : Y'.2.1.cls ≠ "java/lang/invoke/MethodHandle" ∧ Y'.2.1.cls ≠ "java/lang/invoke/VarHandle" ∧ (parseMethodDescriptor Y'.2.1.desc).map (fun d => d.parameters.length) = some As.length)
    (hdp : Y'.2.2.2.2.2 + 1 ≤ Y.2.2.2.2.2) (hnl : Y'.2.2.1 ≤ 14) (hst : (st.map fun v => v.category).sum ≤ 8) (hd : decode Y.1 pc = .ok (.invokestatic idx, 3))
    (kk : ∀ (v : Option Nat) (g' : mg_F), mg_rt Y'.2.2.2.1 v → post' v g' → mg_G K Z Y post (pc + 3) ls ((mg_val v).toList ++ st) g') : mg_G K Z Y post pc ls (As.reverse ++ st) g := by
  intro hF H locs la hP hS hL
  have hT := hF.2.2.2.2.2.1
  have hr := hF.2.2.2.2.2.2.1
  refine mg_after hF hS hL rfl (va_runS (index := idx) (As := As) (rest := st) (nL := Y.2.2.1) (n := As.length) ⟨hF.1, hF.2.1, hF.2.2.1, hF.2.2.2.1, hF.2.2.2.2.1⟩ hM (va_cwS As.length hF.2.2.2.2.1 hG hw rfl rfl hd0 (mg_room ⟨hr.1, hr.2.1⟩ hdp hnl)) ⟨mg_blind, fun U hU hW => ⟨rfl, hT.moved hW, by rw [hU]; exact hP, by rw [hU]; exact mg_B hT.2.1 hP⟩⟩ rfl rfl hL.1 rfl ?_ hd ⟨hr.2.2.1, hr.2.2.2⟩) kk
  show 2 * 0 + _ ≤ 8
  omega
/-- a nest mate's static method -/
theorem g_callN {As : List Value} {idx : Nat} {ws' : List Cond} (hM : mg_C K.2.1 Z Y' As g post') (hG : GoodIn Y.2.2.2.2.1 Y'.2.2.2.2.1) (hw : Y'.2.2.2.2.1 = Cond.code Y'.2.1 Y'.1 Y'.2.2.1 Y'.2.2.2.1 :: ws')
    (hl : ∀ s : State, mg_T Z s → va_Nw (.methodLinkNest Y.2.1.cls idx Y'.2.1 RX4) s) (hini : Cond.initialized Y'.2.1.cls ∈ Y.2.2.2.2.1) (hstc : Cond.static Y'.2.1 ∈ Y.2.2.2.2.1)
    (hd0 : Y'.2.1.cls ≠ "java/lang/invoke/MethodHandle" ∧ Y'.2.1.cls ≠ "java/lang/invoke/VarHandle" ∧ (parseMethodDescriptor Y'.2.1.desc).map (fun d => d.parameters.length) = some As.length)
    (hdp : Y'.2.2.2.2.2 + 1 ≤ Y.2.2.2.2.2) (hnl : Y'.2.2.1 ≤ 14) (hst : (st.map fun v => v.category).sum ≤ 8) (hd : decode Y.1 pc = .ok (.invokestatic idx, 3))
    (kk : ∀ (v : Option Nat) (g' : mg_F), mg_rt Y'.2.2.2.1 v → post' v g' → mg_G K Z Y post (pc + 3) ls ((mg_val v).toList ++ st) g') : mg_G K Z Y post pc ls (As.reverse ++ st) g := by
  intro hF H locs la hP hS hL
  have hT := hF.2.2.2.2.2.1
  have hr := hF.2.2.2.2.2.2.1
  refine mg_after hF hS hL rfl (va_runSN (index := idx) (host := RX4) (As := As) (rest := st) (nL := Y.2.2.1) (n := As.length) ⟨hF.1, hF.2.1, hF.2.2.1, hF.2.2.2.1, hF.2.2.2.2.1⟩ hM ⟨va_cnB As.length hF.2.2.2.2.1 hG hw rfl rfl (hl _ hT) (hF.2.2.2.2.1 _ hini) hd0 (mg_room ⟨hr.1, hr.2.1⟩ hdp hnl), hF.2.2.2.2.1 _ hstc, trivial⟩ ⟨mg_blind, fun U hU hW => ⟨rfl, hT.moved hW, by rw [hU]; exact hP, by rw [hU]; exact mg_B hT.2.1 hP⟩⟩ rfl rfl hL.1 rfl ?_ hd ⟨hr.2.2.1, hr.2.2.2⟩) kk
  show 2 * 0 + _ ≤ 8
  omega
end MGC
