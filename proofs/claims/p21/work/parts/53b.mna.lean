/-! ===== new int[24][24] while the world is made ===== -/
theorem kw_mna {dm : List (Nat × Nat)} {ad : Nat → Nat → Nat} {ce : Nat → Nat → va_E} {kO kR q : Nat} {r : Nat → Nat} {e e' : va_E} (hni : (kO, 0) ∉ dm) (hnr : ∀ i, (kR, i) ∉ dm) (hne : kO ≠ kR) : kw ((dm ++ [(kO, 0)]) ++ (List.range 24).map (fun i => (kR, i))) (fun k i => if k = kR then r i else ku ad kO 0 q k i) (fun k i => if k = kR then e' else ku ce kO 0 e k i) = (kw dm ad ce ++ [(q, e)]) ++ (List.range 24).map (fun i => (r i, e')) := by
  unfold kw
  rw [List.map_append, List.map_append, List.map_map]
  congr 1
  · congr 1
    · apply List.map_congr_left
      intro p hp
      have h1 : ¬ p.1 = kR := fun z => hnr p.2 (by rw [← z]; exact hp)
      have h2 : ¬ (p.1 = kO ∧ p.2 = 0) := fun z => hni (by rw [← z.1, ← z.2]; exact hp)
      unfold kr
      simp only [if_neg h1, ku_ne _ _ h2]
    · simp [kr, hne, ku_at]
  · apply List.map_congr_left
    intro i _
    simp [kr]
theorem outerV (c : ClassId) (N h0 : Nat) : ∀ i : Nat, Jvm.Free.Multi.outerC c N h0 i = arrV c N (fun j => va_rf (if j < i then some (h0 + 1 + j) else none))
  | 0 => by
    show ({ cls := c, slots := Array.replicate N .null, vm := .none } : Cell) = _
    rw [arrV_new]
    refine congrArg (arrV c N) (funext fun j => ?_)
    simp [va_rf]
  | i + 1 => by
    show (Jvm.Free.Multi.outerC c N h0 i).setSlot i (.ref (h0 + 1 + i)) = _
    rw [outerV c N h0 i, arrV_store]
    refine congrArg (arrV c N) (funext fun j => ?_)
    by_cases e : j = i
    · subst e
      simp [updV, va_rf]
    · by_cases h : j < i
      · simp [updV, e, h, Nat.lt_succ_of_lt h]
      · simp [updV, e, h, show ¬ j < i + 1 by omega]
theorem arrV_ext0 {c : ClassId} {n : Nat} {f f' : Nat → Value} (h : ∀ j, j < n → f j = f' j) : arrV c n f = arrV c n f' := by
  unfold arrV
  congr 1
  congr 1
  funext j
  exact h j.val j.isLt
section KMNA
variable {K : mg_Kt} {Z : kg_Zt} {Y : mg_Yt} {cells slots pc : Nat} {ls st : List Value} {dm : List (Nat × Nat)} {ad : Nat → Nat → Nat} {ce : Nat → Nat → va_E}
theorem k_mna {kO kR idx : Nat} (hni : (kO, 0) ∉ dm) (hnr : ∀ i, (kR, i) ∉ dm) (hne : kO ≠ kR) (hcl : Cond.classLink Y.2.1.cls idx "[[I" ∈ Y.2.2.2.2.1) (har : Cond.arrayClass .int ∈ Y.2.2.2.2.1) (h1 : cells + 25 ≤ kmc K) (h2 : slots + 600 ≤ kms K) (hd : decode Y.1 pc = .ok (.multianewarray idx 2, 4))
    (kk : ∀ (q : Nat) (r : Nat → Nat), kg_G K Z Y (cells + 25) (slots + 600) (pc + 4) ls (.ref q :: st) ((dm ++ [(kO, 0)]) ++ (List.range 24).map (fun i => (kR, i))) (fun k i => if k = kR then r i else ku ad kO 0 q k i) (fun k i => if k = kR then kz Z.2.1.1 24 else ku ce kO 0 (.inl (Z.2.1.2.2.2, 24, .inr (.inr (.inr (.inr (fun j => some (r j))))))) k i)) : kg_G K Z Y cells slots pc ls (iv 24 :: iv 24 :: st) dm ad ce := by
  intro hF H locs la hP hD hS hL
  intro T hT X
  have hr := hF.2.2.2.2.2.2.1
  have hK := hF.2.2.2.2.2.1.1
  have hAA := hF.2.2.2.2.2.1.2.2.2.2.2.2.2
  have c24 : (nI 24).toNatClampNeg = 24 := nI_clamp (by decide)
  have es : "[" ++ (FieldType.array .int).toString = "[[I" := by decide +kernel
  have g1 : cells + 25 ≤ K.2.2.2.1.cells := Nat.le_trans h1 hr.2.2.1
  have g2 : slots + 600 ≤ K.2.2.2.1.slots := Nat.le_trans h2 hr.2.2.2
  obtain ⟨vm₁, cA, comp, -, fA, fC, -, -, X', step⟩ := X.multianewarray2F hF.1 (own := Y.2.1.cls) (index := idx) (ty := .int) hF.2.2.2.1 (by rw [es]; exact hF.2.2.2.2.1 _ hcl) hAA (hF.2.2.2.2.1 _ har) (g := F0 K.2.2.2.2.2.1 pc la (iv 24 :: iv 24 :: st)) rfl (by rw [hF.2.1]; exact hd) (n := nI 24) (k := nI 24) (rest := st) rfl (nI_pos (by decide)) (nI_pos (by decide)) (by rw [c24]; decide) (by rw [c24]; decide) (by rw [c24]; decide) rfl rfl (by rw [c24]; omega) (by rw [c24]; omega)
  have eA : cA = Z.2.1.2.2.2 := Option.some.inj (Eq.trans (Eq.symm fA) (show _ = some Z.2.1.2.2.2 from (hK.2 3 (Z.2.1.2.2.2, .array .int) rfl).2))
  have eC : comp = Z.2.1.1 := Option.some.inj (Eq.trans (Eq.symm fC) (show _ = some Z.2.1.1 from (hK.2 0 (Z.2.1.1, .int) rfl).2))
  subst eA
  subst eC
  rw [c24] at X' step
  generalize hFl : Jvm.Free.Multi.fill (T.setVm vm₁) Z.2.1.2.2.2 Z.2.1.1 24 24 (defaultValue .int) 24 = F at X' step
  have hTh : (T.setVm vm₁).heap = H := hT
  obtain ⟨f1, f2, -, -⟩ := Jvm.Free.Multi.fill_facts (T.setVm vm₁) Z.2.1.2.2.2 Z.2.1.1 24 24 (defaultValue .int) 24
  rw [hFl, hTh] at f1 f2
  have hold : ∀ x : Nat, x < H.size → F.heap[x]? = H[x]? := fun x hx => by
    have := Jvm.Free.Multi.fill_old (T.setVm vm₁) Z.2.1.2.2.2 Z.2.1.1 24 24 (defaultValue .int) (a := x) (by rw [hTh]; exact hx) 24
    rw [hFl, hTh] at this
    exact this
  have hrow : ∀ j : Nat, j < 24 → F.heap[H.size + 1 + j]? = some (vp_cell Z.2.1.1 (24, .inl (fun _ => nI 0))) := fun j hj => by
    have := Jvm.Free.Multi.fill_inner (T.setVm vm₁) Z.2.1.2.2.2 Z.2.1.1 24 24 (defaultValue .int) 24 j hj
    rw [hFl, hTh] at this
    rw [this]
    show some ({ cls := Z.2.1.1, slots := Array.replicate 24 (defaultValue .int), vm := .none } : Cell) = _
    rw [arrV_new]
    rfl
  have hout : F.heap[H.size]? = some (vp_cell Z.2.1.2.2.2 (24, .inr (.inr (.inr (.inr (fun j => some (H.size + 1 + j))))))) := by
    rw [f2, outerV, vp_cell_q]
    exact congrArg some (arrV_ext0 (fun j hj => by rw [if_pos hj]))
  have hlt : ∀ (n : Nat) (x : Nat × va_E), (kw dm ad ce)[n]? = some x → x.1 < H.size := fun n x hx => (hP n x hx).lt
  have hlen : (kw dm ad ce).length = dm.length := by unfold kw; rw [List.length_map]
  have hS1 : va_S (fun q => Z.2.2 ≤ q) K.2.2.2.2.1.heap F.heap locs := ⟨Nat.le_trans hS.1 (by rw [f1]; omega), fun x h3 h4 => (hold x (Nat.lt_of_lt_of_le h3 hS.1)).trans (hS.2.1 x h3 h4), hS.2.2⟩
  have hsz : Z.2.2 ≤ H.size := Nat.le_trans hF.2.2.2.2.2.2.2.1 hS.1
  have key : ∀ (n : Nat) (x : Nat × va_E), ((kw dm ad ce ++ [(H.size, .inl (Z.2.1.2.2.2, 24, .inr (.inr (.inr (.inr (fun j => some (H.size + 1 + j)))))))]) ++ (List.range 24).map (fun i => (H.size + 1 + i, kz Z.2.1.1 24)))[n]? = some x → ((kw dm ad ce)[n]? = some x ∧ n < dm.length) ∨ (dm.length ≤ n ∧ x.1 = H.size + (n - dm.length) ∧ va_at Z.1 vwCl x F.heap) := by
    intro n x hx
    by_cases hn1 : n < dm.length
    · rw [List.getElem?_append_left (by rw [List.length_append, hlen]; omega), List.getElem?_append_left (by rw [hlen]; exact hn1)] at hx
      exact Or.inl ⟨hx, hn1⟩
    · right
      by_cases hn2 : n = dm.length
      · rw [List.getElem?_append_left (by rw [List.length_append, hlen]; simp; omega), List.getElem?_append_right (by rw [hlen]; omega), hlen, show n - dm.length = 0 by omega] at hx
        cases hx
        exact ⟨by omega, by show H.size = _; omega, hout⟩
      · rw [List.getElem?_append_right (by rw [List.length_append, hlen]; simp; omega), List.length_append, hlen, List.getElem?_map] at hx
        by_cases hn3 : n - (dm.length + 1) < 24
        · rw [show n - (dm.length + [(H.size, (Sum.inl (Z.2.1.2.2.2, 24, .inr (.inr (.inr (.inr (fun j => some (H.size + 1 + j)))))) : va_E))].length) = n - (dm.length + 1) from rfl, List.getElem?_range hn3] at hx
          cases hx
          exact ⟨by omega, by show H.size + 1 + (n - (dm.length + 1)) = _; omega, hrow _ hn3⟩
        · rw [show n - (dm.length + [(H.size, (Sum.inl (Z.2.1.2.2.2, 24, .inr (.inr (.inr (.inr (fun j => some (H.size + 1 + j)))))) : va_E))].length) = n - (dm.length + 1) from rfl, List.getElem?_eq_none (by rw [List.length_range]; omega)] at hx
          cases hx
  have hP1 : va_P Z.1 vwCl ((kw dm ad ce ++ [(H.size, .inl (Z.2.1.2.2.2, 24, .inr (.inr (.inr (.inr (fun j => some (H.size + 1 + j)))))))]) ++ (List.range 24).map (fun i => (H.size + 1 + i, kz Z.2.1.1 24))) F.heap := by
    intro n x hx
    rcases key n x hx with ⟨h, -⟩ | ⟨-, -, h⟩
    · exact (hP n x h).kept (hold _ (hlt n x h))
    · exact h
  have hD1 : va_D (fun q => Z.2.2 ≤ q) ((kw dm ad ce ++ [(H.size, .inl (Z.2.1.2.2.2, 24, .inr (.inr (.inr (.inr (fun j => some (H.size + 1 + j)))))))]) ++ (List.range 24).map (fun i => (H.size + 1 + i, kz Z.2.1.1 24))) := by
    refine ⟨fun i j x y hi hj e => ?_, fun n x hx => ?_⟩
    · rcases key i x hi with ⟨a1, a2⟩ | ⟨a1, a2, -⟩ <;> rcases key j y hj with ⟨b1, b2⟩ | ⟨b1, b2, -⟩
      · exact hD.1 i j x y a1 b1 e
      · have := hlt i x a1
        omega
      · have := hlt j y b1
        omega
      · omega
    · rcases key n x hx with ⟨h, -⟩ | ⟨-, h, -⟩
      · exact hD.2 n x h
      · show Z.2.2 ≤ x.1
        omega
  rw [← kw_mna hni hnr hne (r := fun j => H.size + 1 + j)] at hP1 hD1
  have ec : cells + 1 + 24 = cells + 25 := by omega
  have eS : slots + 24 + 24 * 24 = slots + 600 := by omega
  rw [ec, eS] at X'
  obtain ⟨t, a1, b1⟩ := kk H.size (fun j => H.size + 1 + j) hF F.heap locs la hP1 hD1 hS1 hL F rfl X'
  refine ⟨t, step t ?_, b1⟩
  rw [hT]
  exact a1
end KMNA
