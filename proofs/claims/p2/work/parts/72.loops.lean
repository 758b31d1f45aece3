/-! ===== the class's searching loops, at every state ===== -/
/-- how many i < n have p -/
def mg_cn (p : Nat → Prop) [DecidablePred p] : Nat → Nat
  | 0 => 0
  | n + 1 => mg_cn p n + (if p n then 1 else 0)
/-- the first place of the greatest among r 0 .. r (n-1) -/
def mg_gp (r : Nat → Nat) : Nat → Nat
  | 0 => 0
  | n + 1 => if n = 0 then 0 else if r (mg_gp r n) < r n then n else mg_gp r n
theorem mg_gp_lt (r : Nat → Nat) : ∀ n, 0 < n → mg_gp r n < n
  | 0, h => absurd h (Nat.not_lt_zero _)
  | n + 1, _ => by
    unfold mg_gp
    by_cases h0 : n = 0
    · rw [if_pos h0]; omega
    · rw [if_neg h0]
      have := mg_gp_lt r n (by omega)
      split <;> omega
theorem mg_cn_le (p : Nat → Prop) [DecidablePred p] : ∀ n, mg_cn p n ≤ n
  | 0 => Nat.le_refl _
  | n + 1 => by
    unfold mg_cn
    have := mg_cn_le p n
    split <;> omega
section LOOPS
variable {Z : mg_Zt} {g : mg_F}
theorem c_placeOf_loop {K : mg_Kt} {s x : Nat} (hs : s < 24) (hl : g 2 s 2 ≤ 24) (hw : ∀ i, i < 24 → g 16 s i < 4294967296) (hx : x < 4294967296) : ∀ (m i : Nat), g 2 s 2 - i < m → (i ≤ g 2 s 2) → (∀ j, j < i → g 16 s j ≠ x) → mg_G K Z mX2_placeOf (fun v g' => (∃ i, (i < g 2 s 2 ∧ g 16 s i = x ∧ ∀ j, j < i → g 16 s j ≠ x) ∧ v = some i ∧ g' = g) ∨ ((∀ j, j < g 2 s 2 → g 16 s j ≠ x) ∧ v = some 4294967294 ∧ g' = g)) 2 [rv Z 2 s, iv x, iv i] [] g := by
  intro m
  induction m with
  | zero => intro i h; exact absurd h (Nat.not_lt_zero _)
  | succ m ih =>
    intro i hm hi hb
    refine g_iload_n (pc := 2) dX2_placeOf_2 rfl ?_
    refine g_aload_n (pc := 3) dX2_placeOf_3 rfl ?_
    refine fg_X2_placeOf_18 (pc := 4) (by first | omega | exact hw i (by omega)) dX2_placeOf_4 ?_
    refine g_icmp_ge (pc := 7) 28 dX2_placeOf_7 (by decide) (by first | omega | exact hw i (by omega)) (by first | omega | exact hw i (by omega)) (fun h1 => ?_) (fun h1 => ?_)
    · refine g_bipush (pc := 28) (v := 4294967294) dX2_placeOf_28 (by decide +kernel) ?_
      exact g_iret (pc := 30) dX2_placeOf_30 ⟨mg_narI _, Or.inl rfl⟩ (Or.inr ⟨fun j hj => hb j (by omega), rfl, rfl⟩)
    · refine g_aload_n (pc := 10) dX2_placeOf_10 rfl ?_
      refine fg_X2_placeOf_9 (pc := 11) (by first | omega | exact hw i (by omega)) dX2_placeOf_11 ?_
      refine g_iload_n (pc := 14) dX2_placeOf_14 rfl ?_
      refine g_iaload (pc := 15) (k := 16) (i := s) (n := 24) (show s < 24 by omega) rfl (by decide) (by first | omega | exact hw i (by omega)) dX2_placeOf_15 ?_
      refine g_iload_n (pc := 16) dX2_placeOf_16 rfl ?_
      refine g_icmp_ne (pc := 17) 22 dX2_placeOf_17 (by decide) (by first | omega | exact hw i (by omega)) (by first | omega | exact hw i (by omega)) (fun h2 => ?_) (fun h2 => ?_)
      · refine g_iinc (pc := 22) (v := i + 1) (ls' := [rv Z 2 s, iv x, iv (i + 1)]) dX2_placeOf_22 (Nat.le_of_ble_eq_true rfl) rfl (mg_inc _) rfl ?_
        refine g_goto (pc := 25) 2 dX2_placeOf_25 (by decide) ?_
        exact ih (i + 1) (by omega) (by omega) (fun j hj => by rcases (show j < i ∨ j = i by omega) with z | rfl; exact hb j z; assumption)
      · refine g_iload_n (pc := 20) dX2_placeOf_20 rfl ?_
        exact g_iret (pc := 21) dX2_placeOf_21 ⟨mg_narI _, Or.inl rfl⟩ (Or.inl ⟨i, ⟨by omega, by assumption, hb⟩, rfl, rfl⟩)
theorem c_placeOf (l : Launch) {s x : Nat} (hs : s < 24) (hl : g 2 s 2 ≤ 24) (hw : ∀ i, i < 24 → g 16 s i < 4294967296) (hx : x < 4294967296) : mg_C l Z mX2_placeOf [rv Z 2 s, iv x] g (fun v g' => (∃ i, (i < g 2 s 2 ∧ g 16 s i = x ∧ ∀ j, j < i → g 16 s j ≠ x) ∧ v = some i ∧ g' = g) ∨ ((∀ j, j < g 2 s 2 → g 16 s j ≠ x) ∧ v = some 4294967294 ∧ g' = g)) := by
  refine mg_C.of (by decide) rfl (Nat.le_of_ble_eq_true rfl) (List.forall_mem_cons.mpr ⟨rfl, (List.forall_mem_cons.mpr ⟨rfl, (fun _ h => nomatch h)⟩)⟩) (fun K => ?_)
  refine g_iconst (pc := 0) (v := 0) dX2_placeOf_0 (by decide +kernel) ?_
  refine g_istore_n (pc := 1) (ls' := [rv Z 2 s, iv x, iv 0]) dX2_placeOf_1 (Nat.le_of_ble_eq_true rfl) (Nat.le_of_ble_eq_true rfl) rfl ?_
  exact c_placeOf_loop hs hl hw hx (g 2 s 2 + 1) 0 (by omega) (Nat.zero_le _) (fun j hj => absurd hj (Nat.not_lt_zero j))
theorem c_firstBetween_loop {K : mg_Kt} {t a b : Nat} (ht : t < 2) (hl : g 1 t 5 ≤ mg_cap t) (hc : mg_cap t < 2147483648) (hw : ∀ i, i < mg_cap t → g 12 t i < 4294967296 ∧ g 13 t i < 4294967296) (ha : a < 4294967296) (hb : b < 4294967296) : ∀ (m i : Nat), g 1 t 5 - i < m → (i ≤ g 1 t 5) → (∀ j, j < i → ¬ (g 12 t j = a ∧ g 13 t j = b)) → mg_G K Z mX1_firstBetween (fun v g' => (∃ i, (i < g 1 t 5 ∧ (g 12 t i = a ∧ g 13 t i = b) ∧ ∀ j, j < i → ¬ (g 12 t j = a ∧ g 13 t j = b)) ∧ v = some i ∧ g' = g) ∨ ((∀ j, j < g 1 t 5 → ¬ (g 12 t j = a ∧ g 13 t j = b)) ∧ v = some 4294967294 ∧ g' = g)) 2 [rv Z 1 t, iv a, iv b, iv i] [] g := by
  intro m
  induction m with
  | zero => intro i h; exact absurd h (Nat.not_lt_zero _)
  | succ m ih =>
    intro i hm hi hbf
    refine g_iload_n (pc := 2) dX1_firstBetween_2 rfl ?_
    refine g_aload_n (pc := 3) dX1_firstBetween_3 rfl ?_
    refine fg_X1_firstBetween_27 (pc := 4) (by first | omega | exact (hw i (by omega)).1 | exact (hw i (by omega)).2) dX1_firstBetween_4 ?_
    refine g_icmp_ge (pc := 7) 38 dX1_firstBetween_7 (by decide) (by first | omega | exact (hw i (by omega)).1 | exact (hw i (by omega)).2) (by first | omega | exact (hw i (by omega)).1 | exact (hw i (by omega)).2) (fun h1 => ?_) (fun h1 => ?_)
    · refine g_bipush (pc := 38) (v := 4294967294) dX1_firstBetween_38 (by decide +kernel) ?_
      exact g_iret (pc := 40) dX1_firstBetween_40 ⟨mg_narI _, Or.inl rfl⟩ (Or.inr ⟨fun j hj => hbf j (by omega), rfl, rfl⟩)
    · refine g_aload_n (pc := 10) dX1_firstBetween_10 rfl ?_
      refine fg_X1_firstBetween_15 (pc := 11) (by first | omega | exact (hw i (by omega)).1 | exact (hw i (by omega)).2) dX1_firstBetween_11 ?_
      refine g_iload_n (pc := 14) dX1_firstBetween_14 rfl ?_
      refine g_iaload (pc := 15) (k := 12) (i := t) (n := mg_cap t) (show t < 2 by omega) rfl (by first | omega | exact (hw i (by omega)).1 | exact (hw i (by omega)).2) (by first | omega | exact (hw i (by omega)).1 | exact (hw i (by omega)).2) dX1_firstBetween_15 ?_
      refine g_iload_n (pc := 16) dX1_firstBetween_16 rfl ?_
      refine g_icmp_ne (pc := 17) 32 dX1_firstBetween_17 (by decide) (by first | omega | exact (hw i (by omega)).1 | exact (hw i (by omega)).2) (by first | omega | exact (hw i (by omega)).1 | exact (hw i (by omega)).2) (fun h2 => ?_) (fun h2 => ?_)
      · refine g_iinc (pc := 32) (v := i + 1) (ls' := [rv Z 1 t, iv a, iv b, iv (i + 1)]) dX1_firstBetween_32 (Nat.le_of_ble_eq_true rfl) rfl (mg_inc _) rfl ?_
        refine g_goto (pc := 35) 2 dX1_firstBetween_35 (by decide) ?_
        exact ih (i + 1) (by omega) (by omega) (fun j hj => by rcases (show j < i ∨ j = i by omega) with z | rfl; exact hbf j z; intro z; omega)
      · refine g_aload_n (pc := 20) dX1_firstBetween_20 rfl ?_
        refine fg_X1_firstBetween_18 (pc := 21) (by first | omega | exact (hw i (by omega)).1 | exact (hw i (by omega)).2) dX1_firstBetween_21 ?_
        refine g_iload_n (pc := 24) dX1_firstBetween_24 rfl ?_
        refine g_iaload (pc := 25) (k := 13) (i := t) (n := mg_cap t) (show t < 2 by omega) rfl (by first | omega | exact (hw i (by omega)).1 | exact (hw i (by omega)).2) (by first | omega | exact (hw i (by omega)).1 | exact (hw i (by omega)).2) dX1_firstBetween_25 ?_
        refine g_iload_n (pc := 26) dX1_firstBetween_26 rfl ?_
        refine g_icmp_ne (pc := 27) 32 dX1_firstBetween_27 (by decide) (by first | omega | exact (hw i (by omega)).1 | exact (hw i (by omega)).2) (by first | omega | exact (hw i (by omega)).1 | exact (hw i (by omega)).2) (fun h3 => ?_) (fun h3 => ?_)
        · refine g_iinc (pc := 32) (v := i + 1) (ls' := [rv Z 1 t, iv a, iv b, iv (i + 1)]) dX1_firstBetween_32 (Nat.le_of_ble_eq_true rfl) rfl (mg_inc _) rfl ?_
          refine g_goto (pc := 35) 2 dX1_firstBetween_35 (by decide) ?_
          exact ih (i + 1) (by omega) (by omega) (fun j hj => by rcases (show j < i ∨ j = i by omega) with z | rfl; exact hbf j z; intro z; omega)
        · refine g_iload_n (pc := 30) dX1_firstBetween_30 rfl ?_
          exact g_iret (pc := 31) dX1_firstBetween_31 ⟨mg_narI _, Or.inl rfl⟩ (Or.inl ⟨i, ⟨by omega, ⟨by omega, by omega⟩, hbf⟩, rfl, rfl⟩)
theorem c_firstBetween (l : Launch) {t a b : Nat} (ht : t < 2) (hl : g 1 t 5 ≤ mg_cap t) (hc : mg_cap t < 2147483648) (hw : ∀ i, i < mg_cap t → g 12 t i < 4294967296 ∧ g 13 t i < 4294967296) (ha : a < 4294967296) (hb : b < 4294967296) : mg_C l Z mX1_firstBetween [rv Z 1 t, iv a, iv b] g (fun v g' => (∃ i, (i < g 1 t 5 ∧ (g 12 t i = a ∧ g 13 t i = b) ∧ ∀ j, j < i → ¬ (g 12 t j = a ∧ g 13 t j = b)) ∧ v = some i ∧ g' = g) ∨ ((∀ j, j < g 1 t 5 → ¬ (g 12 t j = a ∧ g 13 t j = b)) ∧ v = some 4294967294 ∧ g' = g)) := by
  refine mg_C.of (by decide) rfl (Nat.le_of_ble_eq_true rfl) (List.forall_mem_cons.mpr ⟨rfl, (List.forall_mem_cons.mpr ⟨rfl, (List.forall_mem_cons.mpr ⟨rfl, (fun _ h => nomatch h)⟩)⟩)⟩) (fun K => ?_)
  refine g_iconst (pc := 0) (v := 0) dX1_firstBetween_0 (by decide +kernel) ?_
  refine g_istore_n (pc := 1) (ls' := [rv Z 1 t, iv a, iv b, iv 0]) dX1_firstBetween_1 (Nat.le_of_ble_eq_true rfl) (Nat.le_of_ble_eq_true rfl) rfl ?_
  exact c_firstBetween_loop ht hl hc hw ha hb (g 1 t 5 + 1) 0 (by omega) (Nat.zero_le _) (fun j hj => absurd hj (Nat.not_lt_zero j))
end LOOPS
