/-! ===== the class's small methods, at every state ===== -/
section LEAF
variable {Z : mg_Zt} {g : mg_F}
def mg_sclear (g : mg_F) (s : Nat) : mg_F := mg_up (mg_up (mg_up (mg_up (mg_up (mg_up (mg_up (mg_up (mg_up (mg_up (mg_up g 2 s 2 0) 3 s 2 4294967294) 3 s 3 0) 3 s 4 0) 3 s 5 0) 3 s 6 0) 3 s 7 0) 3 s 8 0) 3 s 9 0) 3 s 10 0) 3 s 11 0
/-- X0_has -/
theorem c_has (l : Launch) {s : Nat} (hn : g 0 0 1 ≤ 24) (hs : s < 4294967296) : mg_C l Z mX0_has [rv Z 0 0, iv s] g (fun v g' => (s < g 0 0 1 ∧ v = some 1 ∧ g' = g) ∨ (¬ s < g 0 0 1 ∧ v = some 0 ∧ g' = g)) := by
  refine mg_C.of (by decide) rfl (Nat.le_of_ble_eq_true rfl) (List.forall_mem_cons.mpr ⟨rfl, (List.forall_mem_cons.mpr ⟨rfl, (fun _ h => nomatch h)⟩)⟩) (fun K => ?_)
  refine g_iload_n (pc := 0) dX0_has_0 rfl ?_
  refine g_nif_lt (pc := 1) 16 dX0_has_1 (by decide) (by omega) (fun h1 => ?_) (fun h1 => ?_)
  · refine g_iconst (pc := 16) (v := 0) dX0_has_16 (by decide +kernel) ?_
    exact g_iret (pc := 17) dX0_has_17 ⟨mg_narZ (by decide), Or.inr rfl⟩ (by first | exact Or.inl ⟨by omega, rfl, rfl⟩ | exact Or.inr (⟨by omega, rfl, rfl⟩))
  · refine g_iload_n (pc := 4) dX0_has_4 rfl ?_
    refine g_aload_n (pc := 5) dX0_has_5 rfl ?_
    refine fg_X0_has_21 (pc := 6) dX0_has_6 ?_
    refine g_icmp_ge (pc := 9) 16 dX0_has_9 (by decide) (by omega) (by omega) (fun h2 => ?_) (fun h2 => ?_)
    · refine g_iconst (pc := 16) (v := 0) dX0_has_16 (by decide +kernel) ?_
      exact g_iret (pc := 17) dX0_has_17 ⟨mg_narZ (by decide), Or.inr rfl⟩ (by first | exact Or.inl ⟨by omega, rfl, rfl⟩ | exact Or.inr (⟨by omega, rfl, rfl⟩))
    · refine g_iconst (pc := 12) (v := 1) dX0_has_12 (by decide +kernel) ?_
      refine g_goto (pc := 13) 17 dX0_has_13 (by decide) ?_
      exact g_iret (pc := 17) dX0_has_17 ⟨mg_narZ (by decide), Or.inr rfl⟩ (by first | exact Or.inl ⟨by omega, rfl, rfl⟩ | exact Or.inr (⟨by omega, rfl, rfl⟩))
/-- X4_contains -/
theorem c_contains (l : Launch) {a s : Nat} (ha : a < 4294967296) (hs : s < 32) : mg_C l Z mX4_contains [iv a, iv s] g (fun v g' => (a &&& 2 ^ s ≠ 0 ∧ v = some 1 ∧ g' = g) ∨ (a &&& 2 ^ s = 0 ∧ v = some 0 ∧ g' = g)) := by
  refine mg_C.of (by decide) rfl (Nat.le_of_ble_eq_true rfl) (List.forall_mem_cons.mpr ⟨rfl, (List.forall_mem_cons.mpr ⟨rfl, (fun _ h => nomatch h)⟩)⟩) (fun K => ?_)
  refine g_iload_n (pc := 0) dX4_contains_0 rfl ?_
  refine g_iconst (pc := 1) (v := 1) dX4_contains_1 (by decide +kernel) ?_
  refine g_iload_n (pc := 2) dX4_contains_2 rfl ?_
  refine g_ishl (pc := 3) (by first | omega | exact Nat.lt_of_le_of_lt Nat.and_le_left ha) dX4_contains_3 ?_
  refine g_iand (pc := 4) dX4_contains_4 ?_
  refine g_if_eq (pc := 5) 12 dX4_contains_5 (by decide) (by first | omega | exact Nat.lt_of_le_of_lt Nat.and_le_left ha) (fun h1 => ?_) (fun h1 => ?_)
  · refine g_iconst (pc := 12) (v := 0) dX4_contains_12 (by decide +kernel) ?_
    exact g_iret (pc := 13) dX4_contains_13 ⟨mg_narZ (by decide), Or.inr rfl⟩ (by first | exact Or.inl ⟨by assumption, rfl, rfl⟩ | exact Or.inr ⟨by assumption, rfl, rfl⟩)
  · refine g_iconst (pc := 8) (v := 1) dX4_contains_8 (by decide +kernel) ?_
    refine g_goto (pc := 9) 13 dX4_contains_9 (by decide) ?_
    exact g_iret (pc := 13) dX4_contains_13 ⟨mg_narZ (by decide), Or.inr rfl⟩ (by first | exact Or.inl ⟨by assumption, rfl, rfl⟩ | exact Or.inr ⟨by assumption, rfl, rfl⟩)
/-- X0_linked -/
theorem c_linked (l : Launch) {a b : Nat} (ha : a < 24) (hb : b < 24) (hw : g 10 0 a < 4294967296) : mg_C l Z mX0_linked [rv Z 0 0, iv a, iv b] g (fun v g' => (g 10 0 a &&& 2 ^ b ≠ 0 ∧ v = some 1 ∧ g' = g) ∨ (g 10 0 a &&& 2 ^ b = 0 ∧ v = some 0 ∧ g' = g)) := by
  refine mg_C.of (by decide) rfl (Nat.le_of_ble_eq_true rfl) (List.forall_mem_cons.mpr ⟨rfl, (List.forall_mem_cons.mpr ⟨rfl, (List.forall_mem_cons.mpr ⟨rfl, (fun _ h => nomatch h)⟩)⟩)⟩) (fun K => ?_)
  refine g_aload_n (pc := 0) dX0_linked_0 rfl ?_
  refine fg_X0_linked_9 (pc := 1) dX0_linked_1 ?_
  refine g_iload_n (pc := 4) dX0_linked_4 rfl ?_
  refine g_iaload (pc := 5) (k := 10) (i := 0) (n := 24) (show 0 < 1 by omega) rfl (by decide) (by omega) dX0_linked_5 ?_
  refine g_iload_n (pc := 6) dX0_linked_6 rfl ?_
  refine g_callNi (pc := 7) (Y' := mX4_contains) (As := [iv (g 10 0 a), iv b]) (st := []) (c_contains K.2.1 (g := g) (by omega) (by omega)) gX0_linked_X4_contains_n28 rfl (fun _ h => h.2.2.1) (by decide +kernel) (by decide +kernel) (na := 2) rfl (by decide +kernel) (by decide) (by decide) (Nat.le_of_ble_eq_true rfl) dX0_linked_7 (fun r1 g2 p3 => ?_)
  rcases p3 with ⟨hc, hv, hg⟩ | ⟨hc, hv, hg⟩
  · have hg := hg.symm
    subst hg
    have hv := (Option.some.inj hv).symm
    subst hv
    exact g_iret (pc := 10) dX0_linked_10 ⟨mg_narZ (by decide), Or.inr rfl⟩ (by first | exact Or.inl ⟨hc, rfl, rfl⟩ | exact Or.inr ⟨hc, rfl, rfl⟩)
  · have hg := hg.symm
    subst hg
    have hv := (Option.some.inj hv).symm
    subst hv
    exact g_iret (pc := 10) dX0_linked_10 ⟨mg_narZ (by decide), Or.inr rfl⟩ (by first | exact Or.inl ⟨hc, rfl, rfl⟩ | exact Or.inr ⟨hc, rfl, rfl⟩)
/-- X4_isStation -/
theorem c_isStation (l : Launch) {s : Nat} (hn : g 0 0 1 ≤ 24) (ho : g 4 0 6 < 2) (hs : s < 4294967296) : mg_C l Z mX4_isStation [rv Z 4 0, iv s] g (fun v g' => ((g 4 0 6 = 1 ∧ s < g 0 0 1) ∧ v = some 1 ∧ g' = g) ∨ (¬ (g 4 0 6 = 1 ∧ s < g 0 0 1) ∧ v = some 0 ∧ g' = g)) := by
  refine mg_C.of (by decide) rfl (Nat.le_of_ble_eq_true rfl) (List.forall_mem_cons.mpr ⟨rfl, (List.forall_mem_cons.mpr ⟨rfl, (fun _ h => nomatch h)⟩)⟩) (fun K => ?_)
  refine g_aload_n (pc := 0) dX4_isStation_0 rfl ?_
  refine fg_X4_isStation_55 (pc := 1) dX4_isStation_1 ?_
  refine g_if_eq (pc := 4) 22 dX4_isStation_4 (by decide) (by omega) (fun h1 => ?_) (fun h1 => ?_)
  · refine g_iconst (pc := 22) (v := 0) dX4_isStation_22 (by decide +kernel) ?_
    exact g_iret (pc := 23) dX4_isStation_23 ⟨mg_narZ (by decide), Or.inr rfl⟩ (by first | exact Or.inl ⟨by omega, rfl, rfl⟩ | exact Or.inr (⟨by omega, rfl, rfl⟩))
  · refine g_aload_n (pc := 7) dX4_isStation_7 rfl ?_
    refine fg_X4_isStation_10 (pc := 8) dX4_isStation_8 ?_
    refine g_iload_n (pc := 11) dX4_isStation_11 rfl ?_
    refine g_callVi (pc := 12) (Y' := mX0_has) (As := [iv s]) (st := []) (k := 0) (i := 0) (c_has K.2.1 (g := g) (by omega) (by omega)) gX4_isStation_X0_has rfl (show 0 < 1 by omega) rfl rfl (na := 1) rfl (by decide +kernel) (by decide) (by decide) (Nat.le_of_ble_eq_true rfl) dX4_isStation_12 (fun r2 g3 p4 => ?_)
    rcases p4 with ⟨hc, hv, hg⟩ | ⟨hc, hv, hg⟩
    · have hg := hg.symm
      subst hg
      have hv := (Option.some.inj hv).symm
      subst hv
      refine g_if_eq (pc := 15) 22 dX4_isStation_15 (by decide) (by decide) (fun h => absurd h (by decide)) (fun _ => ?_)
      refine g_iconst (pc := 18) (v := 1) dX4_isStation_18 (by decide +kernel) ?_
      refine g_goto (pc := 19) 23 dX4_isStation_19 (by decide) ?_
      exact g_iret (pc := 23) dX4_isStation_23 ⟨mg_narZ (by decide), Or.inr rfl⟩ (by first | exact Or.inl ⟨by omega, rfl, rfl⟩ | exact Or.inr (⟨by omega, rfl, rfl⟩))
    · have hg := hg.symm
      subst hg
      have hv := (Option.some.inj hv).symm
      subst hv
      refine g_if_eq (pc := 15) 22 dX4_isStation_15 (by decide) (by decide) (fun _ => ?_) (fun h => absurd (by decide) h)
      refine g_iconst (pc := 22) (v := 0) dX4_isStation_22 (by decide +kernel) ?_
      exact g_iret (pc := 23) dX4_isStation_23 ⟨mg_narZ (by decide), Or.inr rfl⟩ (by first | exact Or.inl ⟨by omega, rfl, rfl⟩ | exact Or.inr (⟨by omega, rfl, rfl⟩))
/-- X4_isUp -/
theorem c_isUp (l : Launch) {s : Nat} (hn : g 0 0 1 ≤ 24) (ho : g 4 0 6 < 2) (hs : s < 4294967296) (hd : ∀ s, s < 24 → g 3 s 6 < 2) : mg_C l Z mX4_isUp [rv Z 4 0, iv s] g (fun v g' => ((g 4 0 6 = 1 ∧ s < g 0 0 1 ∧ g 3 s 6 = 0) ∧ v = some 1 ∧ g' = g) ∨ (¬ (g 4 0 6 = 1 ∧ s < g 0 0 1 ∧ g 3 s 6 = 0) ∧ v = some 0 ∧ g' = g)) := by
  refine mg_C.of (by decide) rfl (Nat.le_of_ble_eq_true rfl) (List.forall_mem_cons.mpr ⟨rfl, (List.forall_mem_cons.mpr ⟨rfl, (fun _ h => nomatch h)⟩)⟩) (fun K => ?_)
  refine g_aload_n (pc := 0) dX4_isUp_0 rfl ?_
  refine g_iload_n (pc := 1) dX4_isUp_1 rfl ?_
  refine g_callVi (pc := 2) (Y' := mX4_isStation) (As := [iv s]) (st := []) (k := 4) (i := 0) (c_isStation K.2.1 (g := g) (by first | omega | (have := hd s (by omega); omega)) (by first | omega | (have := hd s (by omega); omega)) (by first | omega | (have := hd s (by omega); omega))) gX4_isUp_X4_isStation rfl (show 0 < 1 by omega) rfl rfl (na := 1) rfl (by decide +kernel) (by decide) (by decide) (Nat.le_of_ble_eq_true rfl) dX4_isUp_2 (fun r1 g2 p3 => ?_)
  rcases p3 with ⟨hc, hv, hg⟩ | ⟨hc, hv, hg⟩
  · have hg := hg.symm
    subst hg
    have hv := (Option.some.inj hv).symm
    subst hv
    refine g_if_eq (pc := 5) 24 dX4_isUp_5 (by decide) (by decide) (fun h => absurd h (by decide)) (fun _ => ?_)
    refine g_aload_n (pc := 8) dX4_isUp_8 rfl ?_
    refine fg_X4_isUp_18 (pc := 9) dX4_isUp_9 ?_
    refine g_iload_n (pc := 12) dX4_isUp_12 rfl ?_
    refine g_aastation (pc := 13) (a := s) (by first | omega | (have := hd s (by omega); omega)) dX4_isUp_13 ?_
    refine fg_X4_isUp_211 (pc := 14) (by first | omega | (have := hd s (by omega); omega)) dX4_isUp_14 ?_
    refine g_if_ne (pc := 17) 24 dX4_isUp_17 (by decide) (by first | omega | (have := hd s (by omega); omega)) (fun h4 => ?_) (fun h4 => ?_)
    · refine g_iconst (pc := 24) (v := 0) dX4_isUp_24 (by decide +kernel) ?_
      exact g_iret (pc := 25) dX4_isUp_25 ⟨mg_narZ (by decide), Or.inr rfl⟩ (by first | exact Or.inl ⟨by omega, rfl, rfl⟩ | exact Or.inr (⟨by omega, rfl, rfl⟩))
    · refine g_iconst (pc := 20) (v := 1) dX4_isUp_20 (by decide +kernel) ?_
      refine g_goto (pc := 21) 25 dX4_isUp_21 (by decide) ?_
      exact g_iret (pc := 25) dX4_isUp_25 ⟨mg_narZ (by decide), Or.inr rfl⟩ (by first | exact Or.inl ⟨by omega, rfl, rfl⟩ | exact Or.inr (⟨by omega, rfl, rfl⟩))
  · have hg := hg.symm
    subst hg
    have hv := (Option.some.inj hv).symm
    subst hv
    refine g_if_eq (pc := 5) 24 dX4_isUp_5 (by decide) (by decide) (fun _ => ?_) (fun h => absurd (by decide) h)
    refine g_iconst (pc := 24) (v := 0) dX4_isUp_24 (by decide +kernel) ?_
    exact g_iret (pc := 25) dX4_isUp_25 ⟨mg_narZ (by decide), Or.inr rfl⟩ (by first | exact Or.inl ⟨by omega, rfl, rfl⟩ | exact Or.inr (⟨by omega, rfl, rfl⟩))
/-- X4_isCopy -/
theorem c_isCopy (l : Launch) {i : Nat} (ho : g 4 0 6 < 2) (hp : g 1 1 5 ≤ 60) (hs : i < 4294967296) : mg_C l Z mX4_isCopy [rv Z 4 0, iv i] g (fun v g' => ((g 4 0 6 = 1 ∧ i < g 1 1 5) ∧ v = some 1 ∧ g' = g) ∨ (¬ (g 4 0 6 = 1 ∧ i < g 1 1 5) ∧ v = some 0 ∧ g' = g)) := by
  refine mg_C.of (by decide) rfl (Nat.le_of_ble_eq_true rfl) (List.forall_mem_cons.mpr ⟨rfl, (List.forall_mem_cons.mpr ⟨rfl, (fun _ h => nomatch h)⟩)⟩) (fun K => ?_)
  refine g_aload_n (pc := 0) dX4_isCopy_0 rfl ?_
  refine fg_X4_isCopy_55 (pc := 1) dX4_isCopy_1 ?_
  refine g_if_eq (pc := 4) 26 dX4_isCopy_4 (by decide) (by omega) (fun h1 => ?_) (fun h1 => ?_)
  · refine g_iconst (pc := 26) (v := 0) dX4_isCopy_26 (by decide +kernel) ?_
    exact g_iret (pc := 27) dX4_isCopy_27 ⟨mg_narZ (by decide), Or.inr rfl⟩ (by first | exact Or.inl ⟨by omega, rfl, rfl⟩ | exact Or.inr (⟨by omega, rfl, rfl⟩))
  · refine g_iload_n (pc := 7) dX4_isCopy_7 rfl ?_
    refine g_nif_lt (pc := 8) 26 dX4_isCopy_8 (by decide) (by omega) (fun h2 => ?_) (fun h2 => ?_)
    · refine g_iconst (pc := 26) (v := 0) dX4_isCopy_26 (by decide +kernel) ?_
      exact g_iret (pc := 27) dX4_isCopy_27 ⟨mg_narZ (by decide), Or.inr rfl⟩ (by first | exact Or.inl ⟨by omega, rfl, rfl⟩ | exact Or.inr (⟨by omega, rfl, rfl⟩))
    · refine g_iload_n (pc := 11) dX4_isCopy_11 rfl ?_
      refine g_aload_n (pc := 12) dX4_isCopy_12 rfl ?_
      refine fg_X4_isCopy_31 (pc := 13) dX4_isCopy_13 ?_
      refine fg_X4_isCopy_94 (pc := 16) (by omega) dX4_isCopy_16 ?_
      refine g_icmp_ge (pc := 19) 26 dX4_isCopy_19 (by decide) (by omega) (by omega) (fun h3 => ?_) (fun h3 => ?_)
      · refine g_iconst (pc := 26) (v := 0) dX4_isCopy_26 (by decide +kernel) ?_
        exact g_iret (pc := 27) dX4_isCopy_27 ⟨mg_narZ (by decide), Or.inr rfl⟩ (by first | exact Or.inl ⟨by omega, rfl, rfl⟩ | exact Or.inr (⟨by omega, rfl, rfl⟩))
      · refine g_iconst (pc := 22) (v := 1) dX4_isCopy_22 (by decide +kernel) ?_
        refine g_goto (pc := 23) 27 dX4_isCopy_23 (by decide) ?_
        exact g_iret (pc := 27) dX4_isCopy_27 ⟨mg_narZ (by decide), Or.inr rfl⟩ (by first | exact Or.inl ⟨by omega, rfl, rfl⟩ | exact Or.inr (⟨by omega, rfl, rfl⟩))
/-- X3_holds -/
theorem c_holds (l : Launch) {s : Nat} (hs : s < 24) (hp : g 3 s 2 < 4294967296) : mg_C l Z mX3_holds [rv Z 3 s] g (fun v g' => (g 3 s 2 = s ∧ v = some 1 ∧ g' = g) ∨ (¬ g 3 s 2 = s ∧ v = some 0 ∧ g' = g)) := by
  refine mg_C.of (by decide) rfl (Nat.le_of_ble_eq_true rfl) (List.forall_mem_cons.mpr ⟨rfl, (fun _ h => nomatch h)⟩) (fun K => ?_)
  refine g_aload_n (pc := 0) dX3_holds_0 rfl ?_
  refine fg_X3_holds_25 (pc := 1) (by omega) dX3_holds_1 ?_
  refine g_aload_n (pc := 4) dX3_holds_4 rfl ?_
  refine fg_X3_holds_18 (pc := 5) (by omega) dX3_holds_5 ?_
  refine g_icmp_ne (pc := 8) 15 dX3_holds_8 (by decide) (by omega) (by omega) (fun h1 => ?_) (fun h1 => ?_)
  · refine g_iconst (pc := 15) (v := 0) dX3_holds_15 (by decide +kernel) ?_
    exact g_iret (pc := 16) dX3_holds_16 ⟨mg_narZ (by decide), Or.inr rfl⟩ (by first | exact Or.inl ⟨by omega, rfl, rfl⟩ | exact Or.inr (⟨by omega, rfl, rfl⟩))
  · refine g_iconst (pc := 11) (v := 1) dX3_holds_11 (by decide +kernel) ?_
    refine g_goto (pc := 12) 16 dX3_holds_12 (by decide) ?_
    exact g_iret (pc := 16) dX3_holds_16 ⟨mg_narZ (by decide), Or.inr rfl⟩ (by first | exact Or.inl ⟨by omega, rfl, rfl⟩ | exact Or.inr (⟨by omega, rfl, rfl⟩))
/-- X3_pointsAway -/
theorem c_pointsAway (l : Launch) {s : Nat} (hs : s < 24) (hp : g 3 s 2 < 4294967296) : mg_C l Z mX3_pointsAway [rv Z 3 s] g (fun v g' => ((g 3 s 2 ≠ s ∧ g 3 s 2 ≠ 4294967294) ∧ v = some 1 ∧ g' = g) ∨ (¬ (g 3 s 2 ≠ s ∧ g 3 s 2 ≠ 4294967294) ∧ v = some 0 ∧ g' = g)) := by
  refine mg_C.of (by decide) rfl (Nat.le_of_ble_eq_true rfl) (List.forall_mem_cons.mpr ⟨rfl, (fun _ h => nomatch h)⟩) (fun K => ?_)
  refine g_aload_n (pc := 0) dX3_pointsAway_0 rfl ?_
  refine fg_X3_pointsAway_25 (pc := 1) (by omega) dX3_pointsAway_1 ?_
  refine g_aload_n (pc := 4) dX3_pointsAway_4 rfl ?_
  refine fg_X3_pointsAway_18 (pc := 5) (by omega) dX3_pointsAway_5 ?_
  refine g_icmp_eq (pc := 8) 24 dX3_pointsAway_8 (by decide) (by omega) (by omega) (fun h1 => ?_) (fun h1 => ?_)
  · refine g_iconst (pc := 24) (v := 0) dX3_pointsAway_24 (by decide +kernel) ?_
    exact g_iret (pc := 25) dX3_pointsAway_25 ⟨mg_narZ (by decide), Or.inr rfl⟩ (by first | exact Or.inl ⟨by omega, rfl, rfl⟩ | exact Or.inr (⟨by omega, rfl, rfl⟩))
  · refine g_aload_n (pc := 11) dX3_pointsAway_11 rfl ?_
    refine fg_X3_pointsAway_25 (pc := 12) (by omega) dX3_pointsAway_12 ?_
    refine g_bipush (pc := 15) (v := 4294967294) dX3_pointsAway_15 (by decide +kernel) ?_
    refine g_icmp_eq (pc := 17) 24 dX3_pointsAway_17 (by decide) (by omega) (by omega) (fun h2 => ?_) (fun h2 => ?_)
    · refine g_iconst (pc := 24) (v := 0) dX3_pointsAway_24 (by decide +kernel) ?_
      exact g_iret (pc := 25) dX3_pointsAway_25 ⟨mg_narZ (by decide), Or.inr rfl⟩ (by first | exact Or.inl ⟨by omega, rfl, rfl⟩ | exact Or.inr (⟨by omega, rfl, rfl⟩))
    · refine g_iconst (pc := 20) (v := 1) dX3_pointsAway_20 (by decide +kernel) ?_
      refine g_goto (pc := 21) 25 dX3_pointsAway_21 (by decide) ?_
      exact g_iret (pc := 25) dX3_pointsAway_25 ⟨mg_narZ (by decide), Or.inr rfl⟩ (by first | exact Or.inl ⟨by omega, rfl, rfl⟩ | exact Or.inr (⟨by omega, rfl, rfl⟩))
/-- X3_clear -/
theorem c_sclear (l : Launch) {s : Nat} (hs : s < 24) : mg_C l Z mX3_clear [rv Z 3 s] g (fun v g' => v = none ∧ g' = mg_sclear g s) := by
  refine mg_C.of (by decide) rfl (Nat.le_of_ble_eq_true rfl) (List.forall_mem_cons.mpr ⟨rfl, (fun _ h => nomatch h)⟩) (fun K => ?_)
  refine g_aload_n (pc := 0) dX3_clear_0 rfl ?_
  refine fg_X3_clear_12 (pc := 1) (by omega) dX3_clear_1 ?_
  refine g_iconst (pc := 4) (v := 0) dX3_clear_4 (by decide +kernel) ?_
  refine fp_X3_clear_22 (pc := 5) (by omega) dX3_clear_5 ?_
  refine g_aload_n (pc := 8) dX3_clear_8 rfl ?_
  refine g_bipush (pc := 9) (v := 4294967294) dX3_clear_9 (by decide +kernel) ?_
  refine fp_X3_clear_25 (pc := 11) (by omega) dX3_clear_11 ?_
  refine g_aload_n (pc := 14) dX3_clear_14 rfl ?_
  refine g_iconst (pc := 15) (v := 0) dX3_clear_15 (by decide +kernel) ?_
  refine fp_X3_clear_28 (pc := 16) (by omega) (by decide) dX3_clear_16 ?_
  refine g_aload_n (pc := 19) dX3_clear_19 rfl ?_
  refine g_iconst (pc := 20) (v := 0) dX3_clear_20 (by decide +kernel) ?_
  refine fp_X3_clear_32 (pc := 21) (by omega) dX3_clear_21 ?_
  refine g_aload_n (pc := 24) dX3_clear_24 rfl ?_
  refine g_iconst (pc := 25) (v := 0) dX3_clear_25 (by decide +kernel) ?_
  refine fp_X3_clear_35 (pc := 26) (by omega) (by decide) dX3_clear_26 ?_
  refine g_aload_n (pc := 29) dX3_clear_29 rfl ?_
  refine g_iconst (pc := 30) (v := 0) dX3_clear_30 (by decide +kernel) ?_
  refine fp_X3_clear_38 (pc := 31) (by omega) (by decide) dX3_clear_31 ?_
  refine g_aload_n (pc := 34) dX3_clear_34 rfl ?_
  refine g_iconst (pc := 35) (v := 0) dX3_clear_35 (by decide +kernel) ?_
  refine fp_X3_clear_41 (pc := 36) (by omega) dX3_clear_36 ?_
  refine g_aload_n (pc := 39) dX3_clear_39 rfl ?_
  refine g_iconst (pc := 40) (v := 0) dX3_clear_40 (by decide +kernel) ?_
  refine fp_X3_clear_44 (pc := 41) (by omega) dX3_clear_41 ?_
  refine g_aload_n (pc := 44) dX3_clear_44 rfl ?_
  refine g_iconst (pc := 45) (v := 0) dX3_clear_45 (by decide +kernel) ?_
  refine fp_X3_clear_47 (pc := 46) (by omega) (by decide) dX3_clear_46 ?_
  refine g_aload_n (pc := 49) dX3_clear_49 rfl ?_
  refine g_iconst (pc := 50) (v := 0) dX3_clear_50 (by decide +kernel) ?_
  refine fp_X3_clear_50 (pc := 51) (by omega) dX3_clear_51 ?_
  refine g_aload_n (pc := 54) dX3_clear_54 rfl ?_
  refine g_iconst (pc := 55) (v := 0) dX3_clear_55 (by decide +kernel) ?_
  refine fp_X3_clear_53 (pc := 56) (by omega) dX3_clear_56 ?_
  exact g_ret (pc := 59) dX3_clear_59 trivial ⟨rfl, rfl⟩
/-- X3_stopPumping -/
theorem c_stopPumping (l : Launch) {s : Nat} (hs : s < 24) : mg_C l Z mX3_stopPumping [rv Z 3 s] g (fun v g' => v = none ∧ g' = mg_up (mg_up g 3 s 5 0) 3 s 8 (g 3 s 8 + 1)) := by
  refine mg_C.of (by decide) rfl (Nat.le_of_ble_eq_true rfl) (List.forall_mem_cons.mpr ⟨rfl, (fun _ h => nomatch h)⟩) (fun K => ?_)
  refine g_aload_n (pc := 0) dX3_stopPumping_0 rfl ?_
  refine g_iconst (pc := 1) (v := 0) dX3_stopPumping_1 (by decide +kernel) ?_
  refine fp_X3_stopPumping_35 (pc := 2) (by omega) (by decide) dX3_stopPumping_2 ?_
  refine g_aload_n (pc := 5) dX3_stopPumping_5 rfl ?_
  refine g_dup (pc := 6) dX3_stopPumping_6 rfl ?_
  refine fg_X3_stopPumping_44 (pc := 7) (by omega) dX3_stopPumping_7 ?_
  refine g_top (b := g 3 s 8) (by simp [mg_up, mg_upr, mg_us]) ?_
  refine g_iconst (pc := 10) (v := 1) dX3_stopPumping_10 (by decide +kernel) ?_
  refine g_iadd (pc := 11) dX3_stopPumping_11 ?_
  refine fp_X3_stopPumping_44 (pc := 12) (by omega) dX3_stopPumping_12 ?_
  exact g_ret (pc := 15) dX3_stopPumping_15 trivial ⟨rfl, rfl⟩
/-- X3_forget -/
theorem c_forget (l : Launch) {s b : Nat} (hs : s < 24) (hp : g 3 s 2 < 4294967296) (hb : b < 4294967296) : mg_C l Z mX3_forget [rv Z 3 s, iv b] g (fun v g' => (g 3 s 2 = b ∧ v = none ∧ g' = mg_up g 3 s 2 4294967294) ∨ (¬ g 3 s 2 = b ∧ v = none ∧ g' = g)) := by
  refine mg_C.of (by decide) rfl (Nat.le_of_ble_eq_true rfl) (List.forall_mem_cons.mpr ⟨rfl, (List.forall_mem_cons.mpr ⟨rfl, (fun _ h => nomatch h)⟩)⟩) (fun K => ?_)
  refine g_aload_n (pc := 0) dX3_forget_0 rfl ?_
  refine fg_X3_forget_25 (pc := 1) (by omega) dX3_forget_1 ?_
  refine g_iload_n (pc := 4) dX3_forget_4 rfl ?_
  refine g_icmp_ne (pc := 5) 14 dX3_forget_5 (by decide) (by omega) (by omega) (fun h1 => ?_) (fun h1 => ?_)
  · exact g_ret (pc := 14) dX3_forget_14 trivial (by first | exact Or.inl ⟨by omega, rfl, rfl⟩ | exact Or.inr (⟨by omega, rfl, rfl⟩))
  · refine g_aload_n (pc := 8) dX3_forget_8 rfl ?_
    refine g_bipush (pc := 9) (v := 4294967294) dX3_forget_9 (by decide +kernel) ?_
    refine fp_X3_forget_25 (pc := 11) (by omega) dX3_forget_11 ?_
    exact g_ret (pc := 14) dX3_forget_14 trivial (by first | exact Or.inl ⟨by omega, rfl, rfl⟩ | exact Or.inr (⟨by omega, rfl, rfl⟩))
/-- X0_parts -/
theorem c_parts (l : Launch) (h : g 0 0 2 ≤ g 0 0 1) : mg_C l Z mX0_parts [rv Z 0 0] g (fun v g' => v = some (g 0 0 1 - g 0 0 2) ∧ g' = g) := by
  refine mg_C.of (by decide) rfl (Nat.le_of_ble_eq_true rfl) (List.forall_mem_cons.mpr ⟨rfl, (fun _ h => nomatch h)⟩) (fun K => ?_)
  refine g_aload_n (pc := 0) dX0_parts_0 rfl ?_
  refine fg_X0_parts_21 (pc := 1) dX0_parts_1 ?_
  refine g_aload_n (pc := 4) dX0_parts_4 rfl ?_
  refine fg_X0_parts_25 (pc := 5) dX0_parts_5 ?_
  refine g_isub (pc := 8) (by omega) dX0_parts_8 ?_
  exact g_iret (pc := 9) dX0_parts_9 ⟨mg_narI _, Or.inl rfl⟩ ⟨rfl, rfl⟩
end LEAF
