/-- X4_cut(r4.0, 1, b[2147483648,4294967295]) at qms6 -/
theorem qa200 (l : Launch) {D : va_G} {E : mg_E} {B : Nat} (b : Nat) (h_b : 2147483648 ≤ b) (k_b : b ≤ 4294967295) : mg_C l (D, E, true, B) mX4_cut [rv (D, E, true, B) 4 0, iv 1, iv b] qms6 (fun v g' => v = some 4294967295 ∧ g' = qms6) := by
  refine mg_C.of (by decide) rfl (Nat.le_of_ble_eq_true rfl) (List.forall_mem_cons.mpr ⟨rfl, (List.forall_mem_cons.mpr ⟨rfl, (List.forall_mem_cons.mpr ⟨rfl, (fun _ h => nomatch h)⟩)⟩)⟩) (fun K => ?_)
  refine g_aload_n (pc := 0) dX4_cut_0 rfl ?_
  refine g_iload_n (pc := 1) dX4_cut_1 rfl ?_
  refine g_callVi (pc := 2) (Y' := mX4_isStation) (As := [iv 1]) (st := []) (k := 4) (i := 0) (qa50 K.2.1) gX4_cut_X4_isStation rfl (show 0 < 1 by omega) rfl rfl (na := 1) rfl (by decide +kernel) (by decide) (by decide) (Nat.le_of_ble_eq_true rfl) dX4_cut_2 (fun r1 g1 hp => ?_)
  obtain ⟨h1, rfl⟩ := hp
  cases h1
  refine g_if_eq (pc := 5) 28 dX4_cut_5 (by decide) (by decide) (fun h => absurd h (by decide)) (fun _ => ?_)
  refine g_aload_n (pc := 8) dX4_cut_8 rfl ?_
  refine g_iload_n (pc := 9) dX4_cut_9 rfl ?_
  refine g_callVi (pc := 10) (Y' := mX4_isStation) (As := [iv b]) (st := []) (k := 4) (i := 0) (qa167 K.2.1 b h_b k_b) gX4_cut_X4_isStation rfl (show 0 < 1 by omega) rfl rfl (na := 1) rfl (by decide +kernel) (by decide) (by decide) (Nat.le_of_ble_eq_true rfl) dX4_cut_10 (fun r1 g1 hp => ?_)
  obtain ⟨h1, rfl⟩ := hp
  cases h1
  refine g_if_eq (pc := 13) 28 dX4_cut_13 (by decide) (by decide) (fun _ => ?_) (fun h => absurd (by decide) h)
  refine g_iconst (pc := 28) (v := 4294967295) dX4_cut_28 (by decide +kernel) ?_
  exact g_iret (pc := 29) dX4_cut_29 ⟨mg_narI _, Or.inl rfl⟩ ⟨rfl, rfl⟩
/-- X5_cut(r5.0, 1, b[2147483648,4294967295]) at qms6 -/
theorem qa201 (l : Launch) {D : va_G} {E : mg_E} {B : Nat} (b : Nat) (h_b : 2147483648 ≤ b) (k_b : b ≤ 4294967295) : mg_C l (D, E, true, B) mX5_cut [rv (D, E, true, B) 5 0, iv 1, iv b] qms6 (fun v g' => v = some 4294967295 ∧ g' = qms6) := by
  refine mg_C.of (by decide) rfl (Nat.le_of_ble_eq_true rfl) (List.forall_mem_cons.mpr ⟨rfl, (List.forall_mem_cons.mpr ⟨rfl, (List.forall_mem_cons.mpr ⟨rfl, (fun _ h => nomatch h)⟩)⟩)⟩) (fun K => ?_)
  refine g_aload_n (pc := 0) dX5_cut_0 rfl ?_
  refine fg_X5_cut_105 (pc := 1) (by rfl) dX5_cut_1 ?_
  refine g_top (b := 1) (by decide +kernel) ?_
  refine g_if_eq (pc := 4) 37 dX5_cut_4 (by decide) (by decide) (fun h => absurd h (by decide)) (fun _ => ?_)
  refine g_aload_n (pc := 7) dX5_cut_7 rfl ?_
  refine g_iload_n (pc := 8) dX5_cut_8 rfl ?_
  refine g_callVi (pc := 9) (Y' := mX5_isStation) (As := [iv 1]) (st := []) (k := 5) (i := 0) (qa53 K.2.1) gX5_cut_X5_isStation rfl (show 0 < 1 by omega) rfl rfl (na := 1) rfl (by decide +kernel) (by decide) (by decide) (Nat.le_of_ble_eq_true rfl) dX5_cut_9 (fun r1 g1 hp => ?_)
  obtain ⟨h1, rfl⟩ := hp
  cases h1
  refine g_if_eq (pc := 12) 37 dX5_cut_12 (by decide) (by decide) (fun h => absurd h (by decide)) (fun _ => ?_)
  refine g_aload_n (pc := 15) dX5_cut_15 rfl ?_
  refine g_iload_n (pc := 16) dX5_cut_16 rfl ?_
  refine g_callVi (pc := 17) (Y' := mX5_isStation) (As := [iv b]) (st := []) (k := 5) (i := 0) (qa169 K.2.1 b h_b k_b) gX5_cut_X5_isStation rfl (show 0 < 1 by omega) rfl rfl (na := 1) rfl (by decide +kernel) (by decide) (by decide) (Nat.le_of_ble_eq_true rfl) dX5_cut_17 (fun r1 g1 hp => ?_)
  obtain ⟨h1, rfl⟩ := hp
  cases h1
  refine g_if_eq (pc := 20) 37 dX5_cut_20 (by decide) (by decide) (fun _ => ?_) (fun h => absurd (by decide) h)
  refine g_iconst (pc := 37) (v := 4294967295) dX5_cut_37 (by decide +kernel) ?_
  exact g_iret (pc := 38) dX5_cut_38 ⟨mg_narI _, Or.inl rfl⟩ ⟨rfl, rfl⟩
/-- X4_cut(r4.0, 1, b[2,2147483647]) at qms6 -/
theorem qa202 (l : Launch) {D : va_G} {E : mg_E} {B : Nat} (b : Nat) (h_b : 2 ≤ b) (k_b : b ≤ 2147483647) : mg_C l (D, E, true, B) mX4_cut [rv (D, E, true, B) 4 0, iv 1, iv b] qms6 (fun v g' => v = some 4294967295 ∧ g' = qms6) := by
  refine mg_C.of (by decide) rfl (Nat.le_of_ble_eq_true rfl) (List.forall_mem_cons.mpr ⟨rfl, (List.forall_mem_cons.mpr ⟨rfl, (List.forall_mem_cons.mpr ⟨rfl, (fun _ h => nomatch h)⟩)⟩)⟩) (fun K => ?_)
  refine g_aload_n (pc := 0) dX4_cut_0 rfl ?_
  refine g_iload_n (pc := 1) dX4_cut_1 rfl ?_
  refine g_callVi (pc := 2) (Y' := mX4_isStation) (As := [iv 1]) (st := []) (k := 4) (i := 0) (qa50 K.2.1) gX4_cut_X4_isStation rfl (show 0 < 1 by omega) rfl rfl (na := 1) rfl (by decide +kernel) (by decide) (by decide) (Nat.le_of_ble_eq_true rfl) dX4_cut_2 (fun r1 g1 hp => ?_)
  obtain ⟨h1, rfl⟩ := hp
  cases h1
  refine g_if_eq (pc := 5) 28 dX4_cut_5 (by decide) (by decide) (fun h => absurd h (by decide)) (fun _ => ?_)
  refine g_aload_n (pc := 8) dX4_cut_8 rfl ?_
  refine g_iload_n (pc := 9) dX4_cut_9 rfl ?_
  refine g_callVi (pc := 10) (Y' := mX4_isStation) (As := [iv b]) (st := []) (k := 4) (i := 0) (qa172 K.2.1 b h_b k_b) gX4_cut_X4_isStation rfl (show 0 < 1 by omega) rfl rfl (na := 1) rfl (by decide +kernel) (by decide) (by decide) (Nat.le_of_ble_eq_true rfl) dX4_cut_10 (fun r1 g1 hp => ?_)
  obtain ⟨h1, rfl⟩ := hp
  cases h1
  refine g_if_eq (pc := 13) 28 dX4_cut_13 (by decide) (by decide) (fun _ => ?_) (fun h => absurd (by decide) h)
  refine g_iconst (pc := 28) (v := 4294967295) dX4_cut_28 (by decide +kernel) ?_
  exact g_iret (pc := 29) dX4_cut_29 ⟨mg_narI _, Or.inl rfl⟩ ⟨rfl, rfl⟩
/-- X5_cut(r5.0, 1, b[2,2147483647]) at qms6 -/
theorem qa203 (l : Launch) {D : va_G} {E : mg_E} {B : Nat} (b : Nat) (h_b : 2 ≤ b) (k_b : b ≤ 2147483647) : mg_C l (D, E, true, B) mX5_cut [rv (D, E, true, B) 5 0, iv 1, iv b] qms6 (fun v g' => v = some 4294967295 ∧ g' = qms6) := by
  refine mg_C.of (by decide) rfl (Nat.le_of_ble_eq_true rfl) (List.forall_mem_cons.mpr ⟨rfl, (List.forall_mem_cons.mpr ⟨rfl, (List.forall_mem_cons.mpr ⟨rfl, (fun _ h => nomatch h)⟩)⟩)⟩) (fun K => ?_)
  refine g_aload_n (pc := 0) dX5_cut_0 rfl ?_
  refine fg_X5_cut_105 (pc := 1) (by rfl) dX5_cut_1 ?_
  refine g_top (b := 1) (by decide +kernel) ?_
  refine g_if_eq (pc := 4) 37 dX5_cut_4 (by decide) (by decide) (fun h => absurd h (by decide)) (fun _ => ?_)
  refine g_aload_n (pc := 7) dX5_cut_7 rfl ?_
  refine g_iload_n (pc := 8) dX5_cut_8 rfl ?_
  refine g_callVi (pc := 9) (Y' := mX5_isStation) (As := [iv 1]) (st := []) (k := 5) (i := 0) (qa53 K.2.1) gX5_cut_X5_isStation rfl (show 0 < 1 by omega) rfl rfl (na := 1) rfl (by decide +kernel) (by decide) (by decide) (Nat.le_of_ble_eq_true rfl) dX5_cut_9 (fun r1 g1 hp => ?_)
  obtain ⟨h1, rfl⟩ := hp
  cases h1
  refine g_if_eq (pc := 12) 37 dX5_cut_12 (by decide) (by decide) (fun h => absurd h (by decide)) (fun _ => ?_)
  refine g_aload_n (pc := 15) dX5_cut_15 rfl ?_
  refine g_iload_n (pc := 16) dX5_cut_16 rfl ?_
  refine g_callVi (pc := 17) (Y' := mX5_isStation) (As := [iv b]) (st := []) (k := 5) (i := 0) (qa174 K.2.1 b h_b k_b) gX5_cut_X5_isStation rfl (show 0 < 1 by omega) rfl rfl (na := 1) rfl (by decide +kernel) (by decide) (by decide) (Nat.le_of_ble_eq_true rfl) dX5_cut_17 (fun r1 g1 hp => ?_)
  obtain ⟨h1, rfl⟩ := hp
  cases h1
  refine g_if_eq (pc := 20) 37 dX5_cut_20 (by decide) (by decide) (fun _ => ?_) (fun h => absurd (by decide) h)
  refine g_iconst (pc := 37) (v := 4294967295) dX5_cut_37 (by decide +kernel) ?_
  exact g_iret (pc := 38) dX5_cut_38 ⟨mg_narI _, Or.inl rfl⟩ ⟨rfl, rfl⟩
/-- X4_contains(1, 0) at qms6 -/
theorem qa204 (l : Launch) {D : va_G} {E : mg_E} {B : Nat} : mg_C l (D, E, true, B) mX4_contains [iv 1, iv 0] qms6 (fun v g' => v = some 1 ∧ g' = qms6) := by
  refine mg_C.of (by decide) rfl (Nat.le_of_ble_eq_true rfl) (List.forall_mem_cons.mpr ⟨rfl, (List.forall_mem_cons.mpr ⟨rfl, (fun _ h => nomatch h)⟩)⟩) (fun K => ?_)
  refine g_iload_n (pc := 0) dX4_contains_0 rfl ?_
  refine g_iconst (pc := 1) (v := 1) dX4_contains_1 (by decide +kernel) ?_
  refine g_iload_n (pc := 2) dX4_contains_2 rfl ?_
  refine g_ishl (pc := 3) (by decide) dX4_contains_3 ?_
  refine g_top (b := 1) (by decide +kernel) ?_
  refine g_iand (pc := 4) dX4_contains_4 ?_
  refine g_top (b := 1) (by decide +kernel) ?_
  refine g_if_eq (pc := 5) 12 dX4_contains_5 (by decide) (by decide) (fun h => absurd h (by decide)) (fun _ => ?_)
  refine g_iconst (pc := 8) (v := 1) dX4_contains_8 (by decide +kernel) ?_
  refine g_goto (pc := 9) 13 dX4_contains_9 (by decide) ?_
  exact g_iret (pc := 13) dX4_contains_13 ⟨mg_narZ (by decide), Or.inr rfl⟩ ⟨rfl, rfl⟩
/-- X0_linked(r0.0, 1, 0) at qms6 -/
theorem qa205 (l : Launch) {D : va_G} {E : mg_E} {B : Nat} : mg_C l (D, E, true, B) mX0_linked [rv (D, E, true, B) 0 0, iv 1, iv 0] qms6 (fun v g' => v = some 1 ∧ g' = qms6) := by
  refine mg_C.of (by decide) rfl (Nat.le_of_ble_eq_true rfl) (List.forall_mem_cons.mpr ⟨rfl, (List.forall_mem_cons.mpr ⟨rfl, (List.forall_mem_cons.mpr ⟨rfl, (fun _ h => nomatch h)⟩)⟩)⟩) (fun K => ?_)
  refine g_aload_n (pc := 0) dX0_linked_0 rfl ?_
  refine fg_X0_linked_9 (pc := 1) dX0_linked_1 ?_
  refine g_iload_n (pc := 4) dX0_linked_4 rfl ?_
  refine g_iaload (pc := 5) (k := 10) (i := 0) (n := 24) (show 0 < 1 by omega) rfl (by decide) (by decide) dX0_linked_5 ?_
  refine g_top (b := 1) (by decide +kernel) ?_
  refine g_iload_n (pc := 6) dX0_linked_6 rfl ?_
  refine g_callNi (pc := 7) (Y' := mX4_contains) (As := [iv 1, iv 0]) (st := []) (qa204 K.2.1) gX0_linked_X4_contains_n28 rfl (fun _ h => h.2.2.1) (by decide +kernel) (by decide +kernel) (na := 2) rfl (by decide +kernel) (by decide) (by decide) (Nat.le_of_ble_eq_true rfl) dX0_linked_7 (fun r1 g1 hp => ?_)
  obtain ⟨h1, rfl⟩ := hp
  cases h1
  exact g_iret (pc := 10) dX0_linked_10 ⟨mg_narZ (by decide), Or.inr rfl⟩ ⟨rfl, rfl⟩
/-- X1_hasBetween(r1.0, 1, 0) at qms6 -/
theorem qa206 (l : Launch) {D : va_G} {E : mg_E} {B : Nat} : mg_C l (D, E, true, B) mX1_hasBetween [rv (D, E, true, B) 1 0, iv 1, iv 0] qms6 (fun v g' => v = some 0 ∧ g' = qms6) := by
  refine mg_C.of (by decide) rfl (Nat.le_of_ble_eq_true rfl) (List.forall_mem_cons.mpr ⟨rfl, (List.forall_mem_cons.mpr ⟨rfl, (List.forall_mem_cons.mpr ⟨rfl, (fun _ h => nomatch h)⟩)⟩)⟩) (fun K => ?_)
  refine g_aload_n (pc := 0) dX1_hasBetween_0 rfl ?_
  refine g_iload_n (pc := 1) dX1_hasBetween_1 rfl ?_
  refine g_iload_n (pc := 2) dX1_hasBetween_2 rfl ?_
  refine g_callVi (pc := 3) (Y' := mX1_firstBetween) (As := [iv 1, iv 0]) (st := []) (k := 1) (i := 0) (qa130 K.2.1) gX1_hasBetween_X1_firstBetween rfl (show 0 < 2 by omega) rfl rfl (na := 2) rfl (by decide +kernel) (by decide) (by decide) (Nat.le_of_ble_eq_true rfl) dX1_hasBetween_3 (fun r1 g1 hp => ?_)
  obtain ⟨h1, rfl⟩ := hp
  cases h1
  refine g_bipush (pc := 6) (v := 4294967294) dX1_hasBetween_6 (by decide +kernel) ?_
  refine g_icmp_ne (pc := 8) 22 dX1_hasBetween_8 (by decide) (by decide) (by decide) (fun h => absurd (by decide) h) (fun _ => ?_)
  refine g_aload_n (pc := 11) dX1_hasBetween_11 rfl ?_
  refine g_iload_n (pc := 12) dX1_hasBetween_12 rfl ?_
  refine g_iload_n (pc := 13) dX1_hasBetween_13 rfl ?_
  refine g_callVi (pc := 14) (Y' := mX1_firstBetween) (As := [iv 0, iv 1]) (st := []) (k := 1) (i := 0) (qa122 K.2.1) gX1_hasBetween_X1_firstBetween rfl (show 0 < 2 by omega) rfl rfl (na := 2) rfl (by decide +kernel) (by decide) (by decide) (Nat.le_of_ble_eq_true rfl) dX1_hasBetween_14 (fun r1 g1 hp => ?_)
  obtain ⟨h1, rfl⟩ := hp
  cases h1
  refine g_bipush (pc := 17) (v := 4294967294) dX1_hasBetween_17 (by decide +kernel) ?_
  refine g_icmp_eq (pc := 19) 26 dX1_hasBetween_19 (by decide) (by decide) (by decide) (fun _ => ?_) (fun h => absurd (by decide) h)
  refine g_iconst (pc := 26) (v := 0) dX1_hasBetween_26 (by decide +kernel) ?_
  exact g_iret (pc := 27) dX1_hasBetween_27 ⟨mg_narZ (by decide), Or.inr rfl⟩ ⟨rfl, rfl⟩
/-- X1_hasBetween(r1.1, 1, 0) at qms6 -/
theorem qa207 (l : Launch) {D : va_G} {E : mg_E} {B : Nat} : mg_C l (D, E, true, B) mX1_hasBetween [rv (D, E, true, B) 1 1, iv 1, iv 0] qms6 (fun v g' => v = some 0 ∧ g' = qms6) := by
  refine mg_C.of (by decide) rfl (Nat.le_of_ble_eq_true rfl) (List.forall_mem_cons.mpr ⟨rfl, (List.forall_mem_cons.mpr ⟨rfl, (List.forall_mem_cons.mpr ⟨rfl, (fun _ h => nomatch h)⟩)⟩)⟩) (fun K => ?_)
  refine g_aload_n (pc := 0) dX1_hasBetween_0 rfl ?_
  refine g_iload_n (pc := 1) dX1_hasBetween_1 rfl ?_
  refine g_iload_n (pc := 2) dX1_hasBetween_2 rfl ?_
  refine g_callVi (pc := 3) (Y' := mX1_firstBetween) (As := [iv 1, iv 0]) (st := []) (k := 1) (i := 1) (qa184 K.2.1) gX1_hasBetween_X1_firstBetween rfl (show 1 < 2 by omega) rfl rfl (na := 2) rfl (by decide +kernel) (by decide) (by decide) (Nat.le_of_ble_eq_true rfl) dX1_hasBetween_3 (fun r1 g1 hp => ?_)
  obtain ⟨h1, rfl⟩ := hp
  cases h1
  refine g_bipush (pc := 6) (v := 4294967294) dX1_hasBetween_6 (by decide +kernel) ?_
  refine g_icmp_ne (pc := 8) 22 dX1_hasBetween_8 (by decide) (by decide) (by decide) (fun h => absurd (by decide) h) (fun _ => ?_)
  refine g_aload_n (pc := 11) dX1_hasBetween_11 rfl ?_
  refine g_iload_n (pc := 12) dX1_hasBetween_12 rfl ?_
  refine g_iload_n (pc := 13) dX1_hasBetween_13 rfl ?_
  refine g_callVi (pc := 14) (Y' := mX1_firstBetween) (As := [iv 0, iv 1]) (st := []) (k := 1) (i := 1) (qa183 K.2.1) gX1_hasBetween_X1_firstBetween rfl (show 1 < 2 by omega) rfl rfl (na := 2) rfl (by decide +kernel) (by decide) (by decide) (Nat.le_of_ble_eq_true rfl) dX1_hasBetween_14 (fun r1 g1 hp => ?_)
  obtain ⟨h1, rfl⟩ := hp
  cases h1
  refine g_bipush (pc := 17) (v := 4294967294) dX1_hasBetween_17 (by decide +kernel) ?_
  refine g_icmp_eq (pc := 19) 26 dX1_hasBetween_19 (by decide) (by decide) (by decide) (fun _ => ?_) (fun h => absurd (by decide) h)
  refine g_iconst (pc := 26) (v := 0) dX1_hasBetween_26 (by decide +kernel) ?_
  exact g_iret (pc := 27) dX1_hasBetween_27 ⟨mg_narZ (by decide), Or.inr rfl⟩ ⟨rfl, rfl⟩
def qas51 : mg_F := mg_up (mg_up (mg_up (qms6) 10 0 1 0) 10 0 0 0) 0 0 2 0
/-- X0_untie(r0.0, 1, 0) at qms6 -/
theorem qa208 (l : Launch) {D : va_G} {E : mg_E} {B : Nat} : mg_C l (D, E, true, B) mX0_untie [rv (D, E, true, B) 0 0, iv 1, iv 0] qms6 (fun v g' => v = none ∧ g' = qas51) := by
  refine mg_C.of (by decide) rfl (Nat.le_of_ble_eq_true rfl) (List.forall_mem_cons.mpr ⟨rfl, (List.forall_mem_cons.mpr ⟨rfl, (List.forall_mem_cons.mpr ⟨rfl, (fun _ h => nomatch h)⟩)⟩)⟩) (fun K => ?_)
  refine g_aload_n (pc := 0) dX0_untie_0 rfl ?_
  refine fg_X0_untie_9 (pc := 1) dX0_untie_1 ?_
  refine g_iload_n (pc := 4) dX0_untie_4 rfl ?_
  refine g_dup2 (pc := 5) dX0_untie_5 rfl rfl ?_
  refine g_iaload (pc := 6) (k := 10) (i := 0) (n := 24) (show 0 < 1 by omega) rfl (by decide) (by decide) dX0_untie_6 ?_
  refine g_top (b := 1) (by decide +kernel) ?_
  refine g_iconst (pc := 7) (v := 1) dX0_untie_7 (by decide +kernel) ?_
  refine g_iload_n (pc := 8) dX0_untie_8 rfl ?_
  refine g_ishl (pc := 9) (by decide) dX0_untie_9 ?_
  refine g_top (b := 1) (by decide +kernel) ?_
  refine g_iconst (pc := 10) (v := 4294967295) dX0_untie_10 (by decide +kernel) ?_
  refine g_ixor (pc := 11) dX0_untie_11 ?_
  refine g_top (b := 4294967294) (by decide +kernel) ?_
  refine g_iand (pc := 12) dX0_untie_12 ?_
  refine g_top (b := 0) (by decide +kernel) ?_
  refine g_iastore (pc := 13) (k := 10) (i := 0) (n := 24) (show 0 < 1 by omega) (fun _ => rfl) (by decide) (by decide) dX0_untie_13 ?_
  refine g_aload_n (pc := 14) dX0_untie_14 rfl ?_
  refine fg_X0_untie_9 (pc := 15) dX0_untie_15 ?_
  refine g_iload_n (pc := 18) dX0_untie_18 rfl ?_
  refine g_dup2 (pc := 19) dX0_untie_19 rfl rfl ?_
  refine g_iaload (pc := 20) (k := 10) (i := 0) (n := 24) (show 0 < 1 by omega) rfl (by decide) (by decide) dX0_untie_20 ?_
  refine g_top (b := 2) (by decide +kernel) ?_
  refine g_iconst (pc := 21) (v := 1) dX0_untie_21 (by decide +kernel) ?_
  refine g_iload_n (pc := 22) dX0_untie_22 rfl ?_
  refine g_ishl (pc := 23) (by decide) dX0_untie_23 ?_
  refine g_top (b := 2) (by decide +kernel) ?_
  refine g_iconst (pc := 24) (v := 4294967295) dX0_untie_24 (by decide +kernel) ?_
  refine g_ixor (pc := 25) dX0_untie_25 ?_
  refine g_top (b := 4294967293) (by decide +kernel) ?_
  refine g_iand (pc := 26) dX0_untie_26 ?_
  refine g_top (b := 0) (by decide +kernel) ?_
  refine g_iastore (pc := 27) (k := 10) (i := 0) (n := 24) (show 0 < 1 by omega) (fun _ => rfl) (by decide) (by decide) dX0_untie_27 ?_
  refine g_aload_n (pc := 28) dX0_untie_28 rfl ?_
  refine g_dup (pc := 29) dX0_untie_29 rfl ?_
  refine fg_X0_untie_25 (pc := 30) dX0_untie_30 ?_
  refine g_top (b := 1) (by decide +kernel) ?_
  refine g_iconst (pc := 33) (v := 1) dX0_untie_33 (by decide +kernel) ?_
  refine g_isub (pc := 34) (by decide) dX0_untie_34 ?_
  refine g_top (b := 0) (by decide +kernel) ?_
  refine fp_X0_untie_25 (pc := 35) dX0_untie_35 ?_
  exact g_ret (pc := 38) dX0_untie_38 trivial ⟨rfl, rfl⟩
def qas52 : mg_F := mg_up (qas51) 3 1 2 4294967294
/-- X3_forget(r3.1, 0) at qas51 -/
theorem qa209 (l : Launch) {D : va_G} {E : mg_E} {B : Nat} : mg_C l (D, E, true, B) mX3_forget [rv (D, E, true, B) 3 1, iv 0] qas51 (fun v g' => v = none ∧ g' = qas52) := by
  refine mg_C.of (by decide) rfl (Nat.le_of_ble_eq_true rfl) (List.forall_mem_cons.mpr ⟨rfl, (List.forall_mem_cons.mpr ⟨rfl, (fun _ h => nomatch h)⟩)⟩) (fun K => ?_)
  refine g_aload_n (pc := 0) dX3_forget_0 rfl ?_
  refine fg_X3_forget_25 (pc := 1) (show 1 < 24 by omega) dX3_forget_1 ?_
  refine g_top (b := 0) (by decide +kernel) ?_
  refine g_iload_n (pc := 4) dX3_forget_4 rfl ?_
  refine g_icmp_ne (pc := 5) 14 dX3_forget_5 (by decide) (by decide) (by decide) (fun h => absurd (by decide) h) (fun _ => ?_)
  refine g_aload_n (pc := 8) dX3_forget_8 rfl ?_
  refine g_bipush (pc := 9) (v := 4294967294) dX3_forget_9 (by decide +kernel) ?_
  refine fp_X3_forget_25 (pc := 11) (show 1 < 24 by omega) dX3_forget_11 ?_
  exact g_ret (pc := 14) dX3_forget_14 trivial ⟨rfl, rfl⟩
/-- X3_forget(r3.0, 1) at qas52 -/
theorem qa210 (l : Launch) {D : va_G} {E : mg_E} {B : Nat} : mg_C l (D, E, true, B) mX3_forget [rv (D, E, true, B) 3 0, iv 1] qas52 (fun v g' => v = none ∧ g' = qas52) := by
  refine mg_C.of (by decide) rfl (Nat.le_of_ble_eq_true rfl) (List.forall_mem_cons.mpr ⟨rfl, (List.forall_mem_cons.mpr ⟨rfl, (fun _ h => nomatch h)⟩)⟩) (fun K => ?_)
  refine g_aload_n (pc := 0) dX3_forget_0 rfl ?_
  refine fg_X3_forget_25 (pc := 1) (show 0 < 24 by omega) dX3_forget_1 ?_
  refine g_top (b := 0) (by decide +kernel) ?_
  refine g_iload_n (pc := 4) dX3_forget_4 rfl ?_
  refine g_icmp_ne (pc := 5) 14 dX3_forget_5 (by decide) (by decide) (by decide) (fun _ => ?_) (fun h => absurd h (by decide))
  exact g_ret (pc := 14) dX3_forget_14 trivial ⟨rfl, rfl⟩
/-- X4_cut(r4.0, 1, 0) at qms6 -/
theorem qa211 (l : Launch) {D : va_G} {E : mg_E} {B : Nat} : mg_C l (D, E, true, B) mX4_cut [rv (D, E, true, B) 4 0, iv 1, iv 0] qms6 (fun v g' => v = some 0 ∧ g' = qas52) := by
  refine mg_C.of (by decide) rfl (Nat.le_of_ble_eq_true rfl) (List.forall_mem_cons.mpr ⟨rfl, (List.forall_mem_cons.mpr ⟨rfl, (List.forall_mem_cons.mpr ⟨rfl, (fun _ h => nomatch h)⟩)⟩)⟩) (fun K => ?_)
  refine g_aload_n (pc := 0) dX4_cut_0 rfl ?_
  refine g_iload_n (pc := 1) dX4_cut_1 rfl ?_
  refine g_callVi (pc := 2) (Y' := mX4_isStation) (As := [iv 1]) (st := []) (k := 4) (i := 0) (qa50 K.2.1) gX4_cut_X4_isStation rfl (show 0 < 1 by omega) rfl rfl (na := 1) rfl (by decide +kernel) (by decide) (by decide) (Nat.le_of_ble_eq_true rfl) dX4_cut_2 (fun r1 g1 hp => ?_)
  obtain ⟨h1, rfl⟩ := hp
  cases h1
  refine g_if_eq (pc := 5) 28 dX4_cut_5 (by decide) (by decide) (fun h => absurd h (by decide)) (fun _ => ?_)
  refine g_aload_n (pc := 8) dX4_cut_8 rfl ?_
  refine g_iload_n (pc := 9) dX4_cut_9 rfl ?_
  refine g_callVi (pc := 10) (Y' := mX4_isStation) (As := [iv 0]) (st := []) (k := 4) (i := 0) (qa29 K.2.1) gX4_cut_X4_isStation rfl (show 0 < 1 by omega) rfl rfl (na := 1) rfl (by decide +kernel) (by decide) (by decide) (Nat.le_of_ble_eq_true rfl) dX4_cut_10 (fun r1 g1 hp => ?_)
  obtain ⟨h1, rfl⟩ := hp
  cases h1
  refine g_if_eq (pc := 13) 28 dX4_cut_13 (by decide) (by decide) (fun h => absurd h (by decide)) (fun _ => ?_)
  refine g_aload_n (pc := 16) dX4_cut_16 rfl ?_
  refine fg_X4_cut_10 (pc := 17) dX4_cut_17 ?_
  refine g_iload_n (pc := 20) dX4_cut_20 rfl ?_
  refine g_iload_n (pc := 21) dX4_cut_21 rfl ?_
  refine g_callVi (pc := 22) (Y' := mX0_linked) (As := [iv 1, iv 0]) (st := []) (k := 0) (i := 0) (qa205 K.2.1) gX4_cut_X0_linked rfl (show 0 < 1 by omega) rfl rfl (na := 2) rfl (by decide +kernel) (by decide) (by decide) (Nat.le_of_ble_eq_true rfl) dX4_cut_22 (fun r1 g1 hp => ?_)
  obtain ⟨h1, rfl⟩ := hp
  cases h1
  refine g_if_ne (pc := 25) 30 dX4_cut_25 (by decide) (by decide) (fun _ => ?_) (fun h => absurd h (by decide))
  refine g_aload_n (pc := 30) dX4_cut_30 rfl ?_
  refine fg_X4_cut_27 (pc := 31) dX4_cut_31 ?_
  refine g_iload_n (pc := 34) dX4_cut_34 rfl ?_
  refine g_iload_n (pc := 35) dX4_cut_35 rfl ?_
  refine g_callVi (pc := 36) (Y' := mX1_hasBetween) (As := [iv 1, iv 0]) (st := []) (k := 1) (i := 0) (qa206 K.2.1) gX4_cut_X1_hasBetween rfl (show 0 < 2 by omega) rfl rfl (na := 2) rfl (by decide +kernel) (by decide) (by decide) (Nat.le_of_ble_eq_true rfl) dX4_cut_36 (fun r1 g1 hp => ?_)
  obtain ⟨h1, rfl⟩ := hp
  cases h1
  refine g_if_ne (pc := 39) 54 dX4_cut_39 (by decide) (by decide) (fun h => absurd (by decide) h) (fun _ => ?_)
  refine g_aload_n (pc := 42) dX4_cut_42 rfl ?_
  refine fg_X4_cut_31 (pc := 43) dX4_cut_43 ?_
  refine g_iload_n (pc := 46) dX4_cut_46 rfl ?_
  refine g_iload_n (pc := 47) dX4_cut_47 rfl ?_
  refine g_callVi (pc := 48) (Y' := mX1_hasBetween) (As := [iv 1, iv 0]) (st := []) (k := 1) (i := 1) (qa207 K.2.1) gX4_cut_X1_hasBetween rfl (show 1 < 2 by omega) rfl rfl (na := 2) rfl (by decide +kernel) (by decide) (by decide) (Nat.le_of_ble_eq_true rfl) dX4_cut_48 (fun r1 g1 hp => ?_)
  obtain ⟨h1, rfl⟩ := hp
  cases h1
  refine g_if_eq (pc := 51) 57 dX4_cut_51 (by decide) (by decide) (fun _ => ?_) (fun h => absurd (by decide) h)
  refine g_aload_n (pc := 57) dX4_cut_57 rfl ?_
  refine fg_X4_cut_18 (pc := 58) dX4_cut_58 ?_
  refine g_iload_n (pc := 61) dX4_cut_61 rfl ?_
  refine g_aastation (pc := 62) (a := 1) (by decide) dX4_cut_62 ?_
  refine fg_X4_cut_118 (pc := 63) (show 1 < 24 by omega) dX4_cut_63 ?_
  refine g_iload_n (pc := 66) dX4_cut_66 rfl ?_
  refine g_callVi (pc := 67) (Y' := mX2_placeOf) (As := [iv 0]) (st := []) (k := 2) (i := 1) (qa187 K.2.1) gX4_cut_X2_placeOf rfl (show 1 < 24 by omega) rfl rfl (na := 1) rfl (by decide +kernel) (by decide) (by decide) (Nat.le_of_ble_eq_true rfl) dX4_cut_67 (fun r1 g1 hp => ?_)
  obtain ⟨h1, rfl⟩ := hp
  cases h1
  refine g_bipush (pc := 70) (v := 4294967294) dX4_cut_70 (by decide +kernel) ?_
  refine g_icmp_ne (pc := 72) 93 dX4_cut_72 (by decide) (by decide) (by decide) (fun h => absurd (by decide) h) (fun _ => ?_)
  refine g_aload_n (pc := 75) dX4_cut_75 rfl ?_
  refine fg_X4_cut_18 (pc := 76) dX4_cut_76 ?_
  refine g_iload_n (pc := 79) dX4_cut_79 rfl ?_
  refine g_aastation (pc := 80) (a := 0) (by decide) dX4_cut_80 ?_
  refine fg_X4_cut_118 (pc := 81) (show 0 < 24 by omega) dX4_cut_81 ?_
  refine g_iload_n (pc := 84) dX4_cut_84 rfl ?_
  refine g_callVi (pc := 85) (Y' := mX2_placeOf) (As := [iv 1]) (st := []) (k := 2) (i := 0) (qa186 K.2.1) gX4_cut_X2_placeOf rfl (show 0 < 24 by omega) rfl rfl (na := 1) rfl (by decide +kernel) (by decide) (by decide) (Nat.le_of_ble_eq_true rfl) dX4_cut_85 (fun r1 g1 hp => ?_)
  obtain ⟨h1, rfl⟩ := hp
  cases h1
  refine g_bipush (pc := 88) (v := 4294967294) dX4_cut_88 (by decide +kernel) ?_
  refine g_icmp_eq (pc := 90) 96 dX4_cut_90 (by decide) (by decide) (by decide) (fun _ => ?_) (fun h => absurd (by decide) h)
  refine g_aload_n (pc := 96) dX4_cut_96 rfl ?_
  refine fg_X4_cut_10 (pc := 97) dX4_cut_97 ?_
  refine g_iload_n (pc := 100) dX4_cut_100 rfl ?_
  refine g_iload_n (pc := 101) dX4_cut_101 rfl ?_
  refine g_callVv (pc := 102) (Y' := mX0_untie) (As := [iv 1, iv 0]) (st := []) (k := 0) (i := 0) (qa208 K.2.1) gX4_cut_X0_untie rfl (show 0 < 1 by omega) rfl rfl (na := 2) rfl (by decide +kernel) (by decide) (by decide) (Nat.le_of_ble_eq_true rfl) dX4_cut_102 (fun g1 hp => ?_)
  obtain ⟨-, rfl⟩ := hp
  refine g_aload_n (pc := 105) dX4_cut_105 rfl ?_
  refine fg_X4_cut_18 (pc := 106) dX4_cut_106 ?_
  refine g_iload_n (pc := 109) dX4_cut_109 rfl ?_
  refine g_aastation (pc := 110) (a := 1) (by decide) dX4_cut_110 ?_
  refine g_iload_n (pc := 111) dX4_cut_111 rfl ?_
  refine g_callVv (pc := 112) (Y' := mX3_forget) (As := [iv 0]) (st := []) (k := 3) (i := 1) (qa209 K.2.1) gX4_cut_X3_forget rfl (show 1 < 24 by omega) rfl rfl (na := 1) rfl (by decide +kernel) (by decide) (by decide) (Nat.le_of_ble_eq_true rfl) dX4_cut_112 (fun g1 hp => ?_)
  obtain ⟨-, rfl⟩ := hp
  refine g_aload_n (pc := 115) dX4_cut_115 rfl ?_
  refine fg_X4_cut_18 (pc := 116) dX4_cut_116 ?_
  refine g_iload_n (pc := 119) dX4_cut_119 rfl ?_
  refine g_aastation (pc := 120) (a := 0) (by decide) dX4_cut_120 ?_
  refine g_iload_n (pc := 121) dX4_cut_121 rfl ?_
  refine g_callVv (pc := 122) (Y' := mX3_forget) (As := [iv 1]) (st := []) (k := 3) (i := 0) (qa210 K.2.1) gX4_cut_X3_forget rfl (show 0 < 24 by omega) rfl rfl (na := 1) rfl (by decide +kernel) (by decide) (by decide) (Nat.le_of_ble_eq_true rfl) dX4_cut_122 (fun g1 hp => ?_)
  obtain ⟨-, rfl⟩ := hp
  refine g_iconst (pc := 125) (v := 0) dX4_cut_125 (by decide +kernel) ?_
  exact g_iret (pc := 126) dX4_cut_126 ⟨mg_narI _, Or.inl rfl⟩ ⟨rfl, rfl⟩
/-- X5_isStation(r5.0, 1) at qas52 -/
theorem qa212 (l : Launch) {D : va_G} {E : mg_E} {B : Nat} : mg_C l (D, E, true, B) mX5_isStation [rv (D, E, true, B) 5 0, iv 1] qas52 (fun v g' => v = some 1 ∧ g' = qas52) := by
  refine mg_C.of (by decide) rfl (Nat.le_of_ble_eq_true rfl) (List.forall_mem_cons.mpr ⟨rfl, (List.forall_mem_cons.mpr ⟨rfl, (fun _ h => nomatch h)⟩)⟩) (fun K => ?_)
  refine g_iload_n (pc := 0) dX5_isStation_0 rfl ?_
  refine g_sif_lt (pc := 1) 16 dX5_isStation_1 (by decide) (by decide) (fun h => absurd h (by decide)) (fun _ => ?_)
  refine g_iload_n (pc := 4) dX5_isStation_4 rfl ?_
  refine g_aload_n (pc := 5) dX5_isStation_5 rfl ?_
  refine fg_X5_isStation_101 (pc := 6) (by rfl) dX5_isStation_6 ?_
  refine g_top (b := 2) (by decide +kernel) ?_
  refine g_icmp_ge (pc := 9) 16 dX5_isStation_9 (by decide) (by decide) (by decide) (fun h => absurd h (by decide)) (fun _ => ?_)
  refine g_iconst (pc := 12) (v := 1) dX5_isStation_12 (by decide +kernel) ?_
  refine g_goto (pc := 13) 17 dX5_isStation_13 (by decide) ?_
  exact g_iret (pc := 17) dX5_isStation_17 ⟨mg_narZ (by decide), Or.inr rfl⟩ ⟨rfl, rfl⟩
/-- X5_isStation(r5.0, 0) at qas52 -/
theorem qa213 (l : Launch) {D : va_G} {E : mg_E} {B : Nat} : mg_C l (D, E, true, B) mX5_isStation [rv (D, E, true, B) 5 0, iv 0] qas52 (fun v g' => v = some 1 ∧ g' = qas52) := by
  refine mg_C.of (by decide) rfl (Nat.le_of_ble_eq_true rfl) (List.forall_mem_cons.mpr ⟨rfl, (List.forall_mem_cons.mpr ⟨rfl, (fun _ h => nomatch h)⟩)⟩) (fun K => ?_)
  refine g_iload_n (pc := 0) dX5_isStation_0 rfl ?_
  refine g_sif_lt (pc := 1) 16 dX5_isStation_1 (by decide) (by decide) (fun h => absurd h (by decide)) (fun _ => ?_)
  refine g_iload_n (pc := 4) dX5_isStation_4 rfl ?_
  refine g_aload_n (pc := 5) dX5_isStation_5 rfl ?_
  refine fg_X5_isStation_101 (pc := 6) (by rfl) dX5_isStation_6 ?_
  refine g_top (b := 2) (by decide +kernel) ?_
  refine g_icmp_ge (pc := 9) 16 dX5_isStation_9 (by decide) (by decide) (by decide) (fun h => absurd h (by decide)) (fun _ => ?_)
  refine g_iconst (pc := 12) (v := 1) dX5_isStation_12 (by decide +kernel) ?_
  refine g_goto (pc := 13) 17 dX5_isStation_13 (by decide) ?_
  exact g_iret (pc := 17) dX5_isStation_17 ⟨mg_narZ (by decide), Or.inr rfl⟩ ⟨rfl, rfl⟩
/-- X5_firstLetter(r5.0, 24) at qas52 -/
theorem qa214 (l : Launch) {D : va_G} {E : mg_E} {B : Nat} : mg_C l (D, E, true, B) mX5_firstLetter [rv (D, E, true, B) 5 0, iv 24] qas52 (fun v g' => v = some 4294967295 ∧ g' = qas52) := by
  refine mg_C.of (by decide) rfl (Nat.le_of_ble_eq_true rfl) (List.forall_mem_cons.mpr ⟨rfl, (List.forall_mem_cons.mpr ⟨rfl, (fun _ h => nomatch h)⟩)⟩) (fun K => ?_)
  refine g_iconst (pc := 0) (v := 4294967295) dX5_firstLetter_0 (by decide +kernel) ?_
  refine g_istore_n (pc := 1) (ls' := [rv (D, E, true, B) 5 0, iv 24, iv 4294967295]) dX5_firstLetter_1 (Nat.le_of_ble_eq_true rfl) (Nat.le_of_ble_eq_true rfl) rfl ?_
  refine g_aload_n (pc := 2) dX5_firstLetter_2 rfl ?_
  refine fg_X5_firstLetter_133 (pc := 3) (by rfl) dX5_firstLetter_3 ?_
  refine g_top (b := 0) (by decide +kernel) ?_
  refine g_iconst (pc := 6) (v := 1) dX5_firstLetter_6 (by decide +kernel) ?_
  refine g_isubw (pc := 7) (c := 4294967295) (by decide +kernel) dX5_firstLetter_7 ?_
  refine g_istore_n (pc := 8) (ls' := [rv (D, E, true, B) 5 0, iv 24, iv 4294967295, iv 4294967295]) dX5_firstLetter_8 (Nat.le_of_ble_eq_true rfl) (Nat.le_of_ble_eq_true rfl) rfl ?_
  refine g_iload_n (pc := 9) dX5_firstLetter_9 rfl ?_
  refine g_sif_lt (pc := 10) 35 dX5_firstLetter_10 (by decide) (by decide) (fun _ => ?_) (fun h => absurd (by decide) h)
  refine g_iload_n (pc := 35) dX5_firstLetter_35 rfl ?_
  exact g_iret (pc := 36) dX5_firstLetter_36 ⟨mg_narI _, Or.inl rfl⟩ ⟨rfl, rfl⟩
/-- X5_firstLetter(r5.0, 1) at qas52 -/
theorem qa215 (l : Launch) {D : va_G} {E : mg_E} {B : Nat} : mg_C l (D, E, true, B) mX5_firstLetter [rv (D, E, true, B) 5 0, iv 1] qas52 (fun v g' => v = some 4294967295 ∧ g' = qas52) := by
  refine mg_C.of (by decide) rfl (Nat.le_of_ble_eq_true rfl) (List.forall_mem_cons.mpr ⟨rfl, (List.forall_mem_cons.mpr ⟨rfl, (fun _ h => nomatch h)⟩)⟩) (fun K => ?_)
  refine g_iconst (pc := 0) (v := 4294967295) dX5_firstLetter_0 (by decide +kernel) ?_
  refine g_istore_n (pc := 1) (ls' := [rv (D, E, true, B) 5 0, iv 1, iv 4294967295]) dX5_firstLetter_1 (Nat.le_of_ble_eq_true rfl) (Nat.le_of_ble_eq_true rfl) rfl ?_
  refine g_aload_n (pc := 2) dX5_firstLetter_2 rfl ?_
  refine fg_X5_firstLetter_133 (pc := 3) (by rfl) dX5_firstLetter_3 ?_
  refine g_top (b := 0) (by decide +kernel) ?_
  refine g_iconst (pc := 6) (v := 1) dX5_firstLetter_6 (by decide +kernel) ?_
  refine g_isubw (pc := 7) (c := 4294967295) (by decide +kernel) dX5_firstLetter_7 ?_
  refine g_istore_n (pc := 8) (ls' := [rv (D, E, true, B) 5 0, iv 1, iv 4294967295, iv 4294967295]) dX5_firstLetter_8 (Nat.le_of_ble_eq_true rfl) (Nat.le_of_ble_eq_true rfl) rfl ?_
  refine g_iload_n (pc := 9) dX5_firstLetter_9 rfl ?_
  refine g_sif_lt (pc := 10) 35 dX5_firstLetter_10 (by decide) (by decide) (fun _ => ?_) (fun h => absurd (by decide) h)
  refine g_iload_n (pc := 35) dX5_firstLetter_35 rfl ?_
  exact g_iret (pc := 36) dX5_firstLetter_36 ⟨mg_narI _, Or.inl rfl⟩ ⟨rfl, rfl⟩
/-- X5_placeOf(r5.0, 1, 0) at qas52 -/
theorem qa216 (l : Launch) {D : va_G} {E : mg_E} {B : Nat} : mg_C l (D, E, true, B) mX5_placeOf [rv (D, E, true, B) 5 0, iv 1, iv 0] qas52 (fun v g' => v = some 4294967295 ∧ g' = qas52) := by
  refine mg_C.of (by decide) rfl (Nat.le_of_ble_eq_true rfl) (List.forall_mem_cons.mpr ⟨rfl, (List.forall_mem_cons.mpr ⟨rfl, (List.forall_mem_cons.mpr ⟨rfl, (fun _ h => nomatch h)⟩)⟩)⟩) (fun K => ?_)
  refine g_iconst (pc := 0) (v := 4294967295) dX5_placeOf_0 (by decide +kernel) ?_
  refine g_istore_n (pc := 1) (ls' := [rv (D, E, true, B) 5 0, iv 1, iv 0, iv 4294967295]) dX5_placeOf_1 (Nat.le_of_ble_eq_true rfl) (Nat.le_of_ble_eq_true rfl) rfl ?_
  refine g_iconst (pc := 2) (v := 0) dX5_placeOf_2 (by decide +kernel) ?_
  refine g_istore (pc := 3) (ls' := [rv (D, E, true, B) 5 0, iv 1, iv 0, iv 4294967295, iv 0]) dX5_placeOf_3 (Nat.le_of_ble_eq_true rfl) (Nat.le_of_ble_eq_true rfl) rfl ?_
  refine g_iload (pc := 5) dX5_placeOf_5 rfl ?_
  refine g_aload_n (pc := 7) dX5_placeOf_7 rfl ?_
  refine fg_X5_placeOf_41 (pc := 8) (by rfl) dX5_placeOf_8 ?_
  refine g_iload_n (pc := 11) dX5_placeOf_11 rfl ?_
  refine g_iaload (pc := 12) (k := 46) (i := 0) (n := 24) (show 0 < 1 by omega) rfl (by decide) (by decide) dX5_placeOf_12 ?_
  refine g_top (b := 0) (by decide +kernel) ?_
  refine g_icmp_ge (pc := 13) 45 dX5_placeOf_13 (by decide) (by decide) (by decide) (fun _ => ?_) (fun h => absurd (by decide) h)
  refine g_iload_n (pc := 45) dX5_placeOf_45 rfl ?_
  exact g_iret (pc := 46) dX5_placeOf_46 ⟨mg_narI _, Or.inl rfl⟩ ⟨rfl, rfl⟩
/-- X5_placeOf(r5.0, 0, 1) at qas52 -/
theorem qa217 (l : Launch) {D : va_G} {E : mg_E} {B : Nat} : mg_C l (D, E, true, B) mX5_placeOf [rv (D, E, true, B) 5 0, iv 0, iv 1] qas52 (fun v g' => v = some 4294967295 ∧ g' = qas52) := by
  refine mg_C.of (by decide) rfl (Nat.le_of_ble_eq_true rfl) (List.forall_mem_cons.mpr ⟨rfl, (List.forall_mem_cons.mpr ⟨rfl, (List.forall_mem_cons.mpr ⟨rfl, (fun _ h => nomatch h)⟩)⟩)⟩) (fun K => ?_)
  refine g_iconst (pc := 0) (v := 4294967295) dX5_placeOf_0 (by decide +kernel) ?_
  refine g_istore_n (pc := 1) (ls' := [rv (D, E, true, B) 5 0, iv 0, iv 1, iv 4294967295]) dX5_placeOf_1 (Nat.le_of_ble_eq_true rfl) (Nat.le_of_ble_eq_true rfl) rfl ?_
  refine g_iconst (pc := 2) (v := 0) dX5_placeOf_2 (by decide +kernel) ?_
  refine g_istore (pc := 3) (ls' := [rv (D, E, true, B) 5 0, iv 0, iv 1, iv 4294967295, iv 0]) dX5_placeOf_3 (Nat.le_of_ble_eq_true rfl) (Nat.le_of_ble_eq_true rfl) rfl ?_
  refine g_iload (pc := 5) dX5_placeOf_5 rfl ?_
  refine g_aload_n (pc := 7) dX5_placeOf_7 rfl ?_
  refine fg_X5_placeOf_41 (pc := 8) (by rfl) dX5_placeOf_8 ?_
  refine g_iload_n (pc := 11) dX5_placeOf_11 rfl ?_
  refine g_iaload (pc := 12) (k := 46) (i := 0) (n := 24) (show 0 < 1 by omega) rfl (by decide) (by decide) dX5_placeOf_12 ?_
  refine g_top (b := 0) (by decide +kernel) ?_
  refine g_icmp_ge (pc := 13) 45 dX5_placeOf_13 (by decide) (by decide) (by decide) (fun _ => ?_) (fun h => absurd (by decide) h)
  refine g_iload_n (pc := 45) dX5_placeOf_45 rfl ?_
  exact g_iret (pc := 46) dX5_placeOf_46 ⟨mg_narI _, Or.inl rfl⟩ ⟨rfl, rfl⟩
def qas53 : mg_F := mg_up (mg_up (mg_up (qas52) 35 0 24 0) 35 0 1 0) 5 0 4 0
/-- X5_join2(r5.0, 1, 0, 0) at qas52 -/
theorem qa218 (l : Launch) {D : va_G} {E : mg_E} {B : Nat} : mg_C l (D, E, true, B) mX5_join2 [rv (D, E, true, B) 5 0, iv 1, iv 0, iv 0] qas52 (fun v g' => v = none ∧ g' = qas53) := by
  refine mg_C.of (by decide) rfl (Nat.le_of_ble_eq_true rfl) (List.forall_mem_cons.mpr ⟨rfl, (List.forall_mem_cons.mpr ⟨rfl, (List.forall_mem_cons.mpr ⟨rfl, (List.forall_mem_cons.mpr ⟨rfl, (fun _ h => nomatch h)⟩)⟩)⟩)⟩) (fun K => ?_)
  refine g_aload_n (pc := 0) dX5_join2_0 rfl ?_
  refine fg_X5_join2_7 (pc := 1) (by rfl) dX5_join2_1 ?_
  refine g_bipush (pc := 4) (v := 24) dX5_join2_4 (by decide +kernel) ?_
  refine g_iload_n (pc := 6) dX5_join2_6 rfl ?_
  refine g_imul (pc := 7) dX5_join2_7 ?_
  refine g_top (b := 24) (by decide +kernel) ?_
  refine g_iload_n (pc := 8) dX5_join2_8 rfl ?_
  refine g_iadd (pc := 9) dX5_join2_9 ?_
  refine g_top (b := 24) (by decide +kernel) ?_
  refine g_iload_n (pc := 10) dX5_join2_10 rfl ?_
  refine g_bastore (pc := 11) (k := 35) (i := 0) (n := 576) (show 0 < 1 by omega) (fun _ => rfl) (by decide) (by decide) (by decide) dX5_join2_11 ?_
  refine g_aload_n (pc := 12) dX5_join2_12 rfl ?_
  refine fg_X5_join2_7 (pc := 13) (by rfl) dX5_join2_13 ?_
  refine g_bipush (pc := 16) (v := 24) dX5_join2_16 (by decide +kernel) ?_
  refine g_iload_n (pc := 18) dX5_join2_18 rfl ?_
  refine g_imul (pc := 19) dX5_join2_19 ?_
  refine g_top (b := 0) (by decide +kernel) ?_
  refine g_iload_n (pc := 20) dX5_join2_20 rfl ?_
  refine g_iadd (pc := 21) dX5_join2_21 ?_
  refine g_top (b := 1) (by decide +kernel) ?_
  refine g_iload_n (pc := 22) dX5_join2_22 rfl ?_
  refine g_bastore (pc := 23) (k := 35) (i := 0) (n := 576) (show 0 < 1 by omega) (fun _ => rfl) (by decide) (by decide) (by decide) dX5_join2_23 ?_
  refine g_aload_n (pc := 24) dX5_join2_24 rfl ?_
  refine g_dup (pc := 25) dX5_join2_25 rfl ?_
  refine fg_X5_join2_113 (pc := 26) (by rfl) dX5_join2_26 ?_
  refine g_top (b := 1) (by decide +kernel) ?_
  refine g_iload_n (pc := 29) dX5_join2_29 rfl ?_
  refine g_if_eq (pc := 30) 37 dX5_join2_30 (by decide) (by decide) (fun _ => ?_) (fun h => absurd (by decide) h)
  refine g_iconst (pc := 37) (v := 4294967295) dX5_join2_37 (by decide +kernel) ?_
  refine g_iadd (pc := 38) dX5_join2_38 ?_
  refine g_topw (b := 0) (by decide +kernel) ?_
  refine fp_X5_join2_113 (pc := 39) (by rfl) dX5_join2_39 ?_
  exact g_ret (pc := 42) dX5_join2_42 trivial ⟨rfl, rfl⟩
def qas54 : mg_F := mg_up (mg_up (qas53) 36 0 1 4294967294) 36 0 0 0
/-- X5_cut(r5.0, 1, 0) at qas52 -/
theorem qa219 (l : Launch) {D : va_G} {E : mg_E} {B : Nat} : mg_C l (D, E, true, B) mX5_cut [rv (D, E, true, B) 5 0, iv 1, iv 0] qas52 (fun v g' => v = some 0 ∧ g' = qas54) := by
  refine mg_C.of (by decide) rfl (Nat.le_of_ble_eq_true rfl) (List.forall_mem_cons.mpr ⟨rfl, (List.forall_mem_cons.mpr ⟨rfl, (List.forall_mem_cons.mpr ⟨rfl, (fun _ h => nomatch h)⟩)⟩)⟩) (fun K => ?_)
  refine g_aload_n (pc := 0) dX5_cut_0 rfl ?_
  refine fg_X5_cut_105 (pc := 1) (by rfl) dX5_cut_1 ?_
  refine g_top (b := 1) (by decide +kernel) ?_
  refine g_if_eq (pc := 4) 37 dX5_cut_4 (by decide) (by decide) (fun h => absurd h (by decide)) (fun _ => ?_)
  refine g_aload_n (pc := 7) dX5_cut_7 rfl ?_
  refine g_iload_n (pc := 8) dX5_cut_8 rfl ?_
  refine g_callVi (pc := 9) (Y' := mX5_isStation) (As := [iv 1]) (st := []) (k := 5) (i := 0) (qa212 K.2.1) gX5_cut_X5_isStation rfl (show 0 < 1 by omega) rfl rfl (na := 1) rfl (by decide +kernel) (by decide) (by decide) (Nat.le_of_ble_eq_true rfl) dX5_cut_9 (fun r1 g1 hp => ?_)
  obtain ⟨h1, rfl⟩ := hp
  cases h1
  refine g_if_eq (pc := 12) 37 dX5_cut_12 (by decide) (by decide) (fun h => absurd h (by decide)) (fun _ => ?_)
  refine g_aload_n (pc := 15) dX5_cut_15 rfl ?_
  refine g_iload_n (pc := 16) dX5_cut_16 rfl ?_
  refine g_callVi (pc := 17) (Y' := mX5_isStation) (As := [iv 0]) (st := []) (k := 5) (i := 0) (qa213 K.2.1) gX5_cut_X5_isStation rfl (show 0 < 1 by omega) rfl rfl (na := 1) rfl (by decide +kernel) (by decide) (by decide) (Nat.le_of_ble_eq_true rfl) dX5_cut_17 (fun r1 g1 hp => ?_)
  obtain ⟨h1, rfl⟩ := hp
  cases h1
  refine g_if_eq (pc := 20) 37 dX5_cut_20 (by decide) (by decide) (fun h => absurd h (by decide)) (fun _ => ?_)
  refine g_aload_n (pc := 23) dX5_cut_23 rfl ?_
  refine fg_X5_cut_7 (pc := 24) (by rfl) dX5_cut_24 ?_
  refine g_bipush (pc := 27) (v := 24) dX5_cut_27 (by decide +kernel) ?_
  refine g_iload_n (pc := 29) dX5_cut_29 rfl ?_
  refine g_imul (pc := 30) dX5_cut_30 ?_
  refine g_top (b := 24) (by decide +kernel) ?_
  refine g_iload_n (pc := 31) dX5_cut_31 rfl ?_
  refine g_iadd (pc := 32) dX5_cut_32 ?_
  refine g_top (b := 24) (by decide +kernel) ?_
  refine g_baload (pc := 33) (k := 35) (i := 0) (n := 576) (show 0 < 1 by omega) rfl (by decide) (by decide) dX5_cut_33 ?_
  refine g_top (b := 1) (by decide +kernel) ?_
  refine g_if_ne (pc := 34) 39 dX5_cut_34 (by decide) (by decide) (fun _ => ?_) (fun h => absurd h (by decide))
  refine g_bipush (pc := 39) (v := 24) dX5_cut_39 (by decide +kernel) ?_
  refine g_iload_n (pc := 41) dX5_cut_41 rfl ?_
  refine g_imul (pc := 42) dX5_cut_42 ?_
  refine g_top (b := 24) (by decide +kernel) ?_
  refine g_iload_n (pc := 43) dX5_cut_43 rfl ?_
  refine g_iadd (pc := 44) dX5_cut_44 ?_
  refine g_top (b := 24) (by decide +kernel) ?_
  refine g_istore_n (pc := 45) (ls' := [rv (D, E, true, B) 5 0, iv 1, iv 0, iv 24]) dX5_cut_45 (Nat.le_of_ble_eq_true rfl) (Nat.le_of_ble_eq_true rfl) rfl ?_
  refine g_bipush (pc := 46) (v := 24) dX5_cut_46 (by decide +kernel) ?_
  refine g_iload_n (pc := 48) dX5_cut_48 rfl ?_
  refine g_imul (pc := 49) dX5_cut_49 ?_
  refine g_top (b := 0) (by decide +kernel) ?_
  refine g_iload_n (pc := 50) dX5_cut_50 rfl ?_
  refine g_iadd (pc := 51) dX5_cut_51 ?_
  refine g_top (b := 1) (by decide +kernel) ?_
  refine g_istore (pc := 52) (ls' := [rv (D, E, true, B) 5 0, iv 1, iv 0, iv 24, iv 1]) dX5_cut_52 (Nat.le_of_ble_eq_true rfl) (Nat.le_of_ble_eq_true rfl) rfl ?_
  refine g_aload_n (pc := 54) dX5_cut_54 rfl ?_
  refine g_iload_n (pc := 55) dX5_cut_55 rfl ?_
  refine g_callVi (pc := 56) (Y' := mX5_firstLetter) (As := [iv 24]) (st := []) (k := 5) (i := 0) (qa214 K.2.1) gX5_cut_X5_firstLetter rfl (show 0 < 1 by omega) rfl rfl (na := 1) rfl (by decide +kernel) (by decide) (by decide) (Nat.le_of_ble_eq_true rfl) dX5_cut_56 (fun r1 g1 hp => ?_)
  obtain ⟨h1, rfl⟩ := hp
  cases h1
  refine g_sif_ge (pc := 59) 71 dX5_cut_59 (by decide) (by decide) (fun h => absurd h (by decide)) (fun _ => ?_)
  refine g_aload_n (pc := 62) dX5_cut_62 rfl ?_
  refine g_iload (pc := 63) dX5_cut_63 rfl ?_
  refine g_callVi (pc := 65) (Y' := mX5_firstLetter) (As := [iv 1]) (st := []) (k := 5) (i := 0) (qa215 K.2.1) gX5_cut_X5_firstLetter rfl (show 0 < 1 by omega) rfl rfl (na := 1) rfl (by decide +kernel) (by decide) (by decide) (Nat.le_of_ble_eq_true rfl) dX5_cut_65 (fun r1 g1 hp => ?_)
  obtain ⟨h1, rfl⟩ := hp
  cases h1
  refine g_sif_lt (pc := 68) 75 dX5_cut_68 (by decide) (by decide) (fun _ => ?_) (fun h => absurd (by decide) h)
  refine g_iconst (pc := 75) (v := 0) dX5_cut_75 (by decide +kernel) ?_
  refine g_istore (pc := 76) (ls' := [rv (D, E, true, B) 5 0, iv 1, iv 0, iv 24, iv 1, iv 0]) dX5_cut_76 (Nat.le_of_ble_eq_true rfl) (Nat.le_of_ble_eq_true rfl) rfl ?_
  refine g_iconst (pc := 78) (v := 0) dX5_cut_78 (by decide +kernel) ?_
  refine g_istore (pc := 79) (ls' := [rv (D, E, true, B) 5 0, iv 1, iv 0, iv 24, iv 1, iv 0, iv 0]) dX5_cut_79 (Nat.le_of_ble_eq_true rfl) (Nat.le_of_ble_eq_true rfl) rfl ?_
  refine g_iload (pc := 81) dX5_cut_81 rfl ?_
  refine g_aload_n (pc := 83) dX5_cut_83 rfl ?_
  refine fg_X5_cut_136 (pc := 84) (by rfl) dX5_cut_84 ?_
  refine g_top (b := 0) (by decide +kernel) ?_
  refine g_icmp_ge (pc := 87) 131 dX5_cut_87 (by decide) (by decide) (by decide) (fun _ => ?_) (fun h => absurd (by decide) h)
  refine g_iload (pc := 131) dX5_cut_131 rfl ?_
  refine g_if_eq (pc := 133) 139 dX5_cut_133 (by decide) (by decide) (fun _ => ?_) (fun h => absurd (by decide) h)
  refine g_aload_n (pc := 139) dX5_cut_139 rfl ?_
  refine g_iload_n (pc := 140) dX5_cut_140 rfl ?_
  refine g_iload_n (pc := 141) dX5_cut_141 rfl ?_
  refine g_callVi (pc := 142) (Y' := mX5_placeOf) (As := [iv 1, iv 0]) (st := []) (k := 5) (i := 0) (qa216 K.2.1) gX5_cut_X5_placeOf rfl (show 0 < 1 by omega) rfl rfl (na := 2) rfl (by decide +kernel) (by decide) (by decide) (Nat.le_of_ble_eq_true rfl) dX5_cut_142 (fun r1 g1 hp => ?_)
  obtain ⟨h1, rfl⟩ := hp
  cases h1
  refine g_sif_ge (pc := 145) 157 dX5_cut_145 (by decide) (by decide) (fun h => absurd h (by decide)) (fun _ => ?_)
  refine g_aload_n (pc := 148) dX5_cut_148 rfl ?_
  refine g_iload_n (pc := 149) dX5_cut_149 rfl ?_
  refine g_iload_n (pc := 150) dX5_cut_150 rfl ?_
  refine g_callVi (pc := 151) (Y' := mX5_placeOf) (As := [iv 0, iv 1]) (st := []) (k := 5) (i := 0) (qa217 K.2.1) gX5_cut_X5_placeOf rfl (show 0 < 1 by omega) rfl rfl (na := 2) rfl (by decide +kernel) (by decide) (by decide) (Nat.le_of_ble_eq_true rfl) dX5_cut_151 (fun r1 g1 hp => ?_)
  obtain ⟨h1, rfl⟩ := hp
  cases h1
  refine g_sif_lt (pc := 154) 160 dX5_cut_154 (by decide) (by decide) (fun _ => ?_) (fun h => absurd (by decide) h)
  refine g_aload_n (pc := 160) dX5_cut_160 rfl ?_
  refine g_iload_n (pc := 161) dX5_cut_161 rfl ?_
  refine g_iload_n (pc := 162) dX5_cut_162 rfl ?_
  refine g_iconst (pc := 163) (v := 0) dX5_cut_163 (by decide +kernel) ?_
  refine g_callVv (pc := 164) (Y' := mX5_join2) (As := [iv 1, iv 0, iv 0]) (st := []) (k := 5) (i := 0) (qa218 K.2.1) gX5_cut_X5_join2 rfl (show 0 < 1 by omega) rfl rfl (na := 3) rfl (by decide +kernel) (by decide) (by decide) (Nat.le_of_ble_eq_true rfl) dX5_cut_164 (fun g1 hp => ?_)
  obtain ⟨-, rfl⟩ := hp
  refine g_aload_n (pc := 167) dX5_cut_167 rfl ?_
  refine fg_X5_cut_13 (pc := 168) (by rfl) dX5_cut_168 ?_
  refine g_iload_n (pc := 171) dX5_cut_171 rfl ?_
  refine g_aload_n (pc := 172) dX5_cut_172 rfl ?_
  refine fg_X5_cut_13 (pc := 173) (by rfl) dX5_cut_173 ?_
  refine g_iload_n (pc := 176) dX5_cut_176 rfl ?_
  refine g_iaload (pc := 177) (k := 36) (i := 0) (n := 24) (show 0 < 1 by omega) rfl (by decide) (by decide) dX5_cut_177 ?_
  refine g_top (b := 0) (by decide +kernel) ?_
  refine g_iload_n (pc := 178) dX5_cut_178 rfl ?_
  refine g_icmp_ne (pc := 179) 187 dX5_cut_179 (by decide) (by decide) (by decide) (fun h => absurd (by decide) h) (fun _ => ?_)
  refine g_bipush (pc := 182) (v := 4294967294) dX5_cut_182 (by decide +kernel) ?_
  refine g_goto (pc := 184) 193 dX5_cut_184 (by decide) ?_
  refine g_iastore (pc := 193) (k := 36) (i := 0) (n := 24) (show 0 < 1 by omega) (fun _ => rfl) (by decide) (by decide) dX5_cut_193 ?_
  refine g_aload_n (pc := 194) dX5_cut_194 rfl ?_
  refine fg_X5_cut_13 (pc := 195) (by rfl) dX5_cut_195 ?_
  refine g_iload_n (pc := 198) dX5_cut_198 rfl ?_
  refine g_aload_n (pc := 199) dX5_cut_199 rfl ?_
  refine fg_X5_cut_13 (pc := 200) (by rfl) dX5_cut_200 ?_
  refine g_iload_n (pc := 203) dX5_cut_203 rfl ?_
  refine g_iaload (pc := 204) (k := 36) (i := 0) (n := 24) (show 0 < 1 by omega) rfl (by decide) (by decide) dX5_cut_204 ?_
  refine g_top (b := 0) (by decide +kernel) ?_
  refine g_iload_n (pc := 205) dX5_cut_205 rfl ?_
  refine g_icmp_ne (pc := 206) 214 dX5_cut_206 (by decide) (by decide) (by decide) (fun _ => ?_) (fun h => absurd h (by decide))
  refine g_aload_n (pc := 214) dX5_cut_214 rfl ?_
  refine fg_X5_cut_13 (pc := 215) (by rfl) dX5_cut_215 ?_
  refine g_iload_n (pc := 218) dX5_cut_218 rfl ?_
  refine g_iaload (pc := 219) (k := 36) (i := 0) (n := 24) (show 0 < 1 by omega) rfl (by decide) (by decide) dX5_cut_219 ?_
  refine g_top (b := 0) (by decide +kernel) ?_
  refine g_iastore (pc := 220) (k := 36) (i := 0) (n := 24) (show 0 < 1 by omega) (fun _ => rfl) (by decide) (by decide) dX5_cut_220 ?_
  refine g_iconst (pc := 221) (v := 0) dX5_cut_221 (by decide +kernel) ?_
  exact g_iret (pc := 222) dX5_cut_222 ⟨mg_narI _, Or.inl rfl⟩ ⟨rfl, rfl⟩
/-- X4_contains(1, 1) at qms6 -/
theorem qa220 (l : Launch) {D : va_G} {E : mg_E} {B : Nat} : mg_C l (D, E, true, B) mX4_contains [iv 1, iv 1] qms6 (fun v g' => v = some 0 ∧ g' = qms6) := by
  refine mg_C.of (by decide) rfl (Nat.le_of_ble_eq_true rfl) (List.forall_mem_cons.mpr ⟨rfl, (List.forall_mem_cons.mpr ⟨rfl, (fun _ h => nomatch h)⟩)⟩) (fun K => ?_)
  refine g_iload_n (pc := 0) dX4_contains_0 rfl ?_
  refine g_iconst (pc := 1) (v := 1) dX4_contains_1 (by decide +kernel) ?_
  refine g_iload_n (pc := 2) dX4_contains_2 rfl ?_
  refine g_ishl (pc := 3) (by decide) dX4_contains_3 ?_
  refine g_top (b := 2) (by decide +kernel) ?_
  refine g_iand (pc := 4) dX4_contains_4 ?_
  refine g_top (b := 0) (by decide +kernel) ?_
  refine g_if_eq (pc := 5) 12 dX4_contains_5 (by decide) (by decide) (fun _ => ?_) (fun h => absurd (by decide) h)
  refine g_iconst (pc := 12) (v := 0) dX4_contains_12 (by decide +kernel) ?_
  exact g_iret (pc := 13) dX4_contains_13 ⟨mg_narZ (by decide), Or.inr rfl⟩ ⟨rfl, rfl⟩
/-- X0_linked(r0.0, 1, 1) at qms6 -/
theorem qa221 (l : Launch) {D : va_G} {E : mg_E} {B : Nat} : mg_C l (D, E, true, B) mX0_linked [rv (D, E, true, B) 0 0, iv 1, iv 1] qms6 (fun v g' => v = some 0 ∧ g' = qms6) := by
  refine mg_C.of (by decide) rfl (Nat.le_of_ble_eq_true rfl) (List.forall_mem_cons.mpr ⟨rfl, (List.forall_mem_cons.mpr ⟨rfl, (List.forall_mem_cons.mpr ⟨rfl, (fun _ h => nomatch h)⟩)⟩)⟩) (fun K => ?_)
  refine g_aload_n (pc := 0) dX0_linked_0 rfl ?_
  refine fg_X0_linked_9 (pc := 1) dX0_linked_1 ?_
  refine g_iload_n (pc := 4) dX0_linked_4 rfl ?_
  refine g_iaload (pc := 5) (k := 10) (i := 0) (n := 24) (show 0 < 1 by omega) rfl (by decide) (by decide) dX0_linked_5 ?_
  refine g_top (b := 1) (by decide +kernel) ?_
  refine g_iload_n (pc := 6) dX0_linked_6 rfl ?_
  refine g_callNi (pc := 7) (Y' := mX4_contains) (As := [iv 1, iv 1]) (st := []) (qa220 K.2.1) gX0_linked_X4_contains_n28 rfl (fun _ h => h.2.2.1) (by decide +kernel) (by decide +kernel) (na := 2) rfl (by decide +kernel) (by decide) (by decide) (Nat.le_of_ble_eq_true rfl) dX0_linked_7 (fun r1 g1 hp => ?_)
  obtain ⟨h1, rfl⟩ := hp
  cases h1
  exact g_iret (pc := 10) dX0_linked_10 ⟨mg_narZ (by decide), Or.inr rfl⟩ ⟨rfl, rfl⟩
/-- X4_cut(r4.0, 1, 1) at qms6 -/
theorem qa222 (l : Launch) {D : va_G} {E : mg_E} {B : Nat} : mg_C l (D, E, true, B) mX4_cut [rv (D, E, true, B) 4 0, iv 1, iv 1] qms6 (fun v g' => v = some 4294967295 ∧ g' = qms6) := by
  refine mg_C.of (by decide) rfl (Nat.le_of_ble_eq_true rfl) (List.forall_mem_cons.mpr ⟨rfl, (List.forall_mem_cons.mpr ⟨rfl, (List.forall_mem_cons.mpr ⟨rfl, (fun _ h => nomatch h)⟩)⟩)⟩) (fun K => ?_)
  refine g_aload_n (pc := 0) dX4_cut_0 rfl ?_
  refine g_iload_n (pc := 1) dX4_cut_1 rfl ?_
  refine g_callVi (pc := 2) (Y' := mX4_isStation) (As := [iv 1]) (st := []) (k := 4) (i := 0) (qa50 K.2.1) gX4_cut_X4_isStation rfl (show 0 < 1 by omega) rfl rfl (na := 1) rfl (by decide +kernel) (by decide) (by decide) (Nat.le_of_ble_eq_true rfl) dX4_cut_2 (fun r1 g1 hp => ?_)
  obtain ⟨h1, rfl⟩ := hp
  cases h1
  refine g_if_eq (pc := 5) 28 dX4_cut_5 (by decide) (by decide) (fun h => absurd h (by decide)) (fun _ => ?_)
  refine g_aload_n (pc := 8) dX4_cut_8 rfl ?_
  refine g_iload_n (pc := 9) dX4_cut_9 rfl ?_
  refine g_callVi (pc := 10) (Y' := mX4_isStation) (As := [iv 1]) (st := []) (k := 4) (i := 0) (qa50 K.2.1) gX4_cut_X4_isStation rfl (show 0 < 1 by omega) rfl rfl (na := 1) rfl (by decide +kernel) (by decide) (by decide) (Nat.le_of_ble_eq_true rfl) dX4_cut_10 (fun r1 g1 hp => ?_)
  obtain ⟨h1, rfl⟩ := hp
  cases h1
  refine g_if_eq (pc := 13) 28 dX4_cut_13 (by decide) (by decide) (fun h => absurd h (by decide)) (fun _ => ?_)
  refine g_aload_n (pc := 16) dX4_cut_16 rfl ?_
  refine fg_X4_cut_10 (pc := 17) dX4_cut_17 ?_
  refine g_iload_n (pc := 20) dX4_cut_20 rfl ?_
  refine g_iload_n (pc := 21) dX4_cut_21 rfl ?_
  refine g_callVi (pc := 22) (Y' := mX0_linked) (As := [iv 1, iv 1]) (st := []) (k := 0) (i := 0) (qa221 K.2.1) gX4_cut_X0_linked rfl (show 0 < 1 by omega) rfl rfl (na := 2) rfl (by decide +kernel) (by decide) (by decide) (Nat.le_of_ble_eq_true rfl) dX4_cut_22 (fun r1 g1 hp => ?_)
  obtain ⟨h1, rfl⟩ := hp
  cases h1
  refine g_if_ne (pc := 25) 30 dX4_cut_25 (by decide) (by decide) (fun h => absurd (by decide) h) (fun _ => ?_)
  refine g_iconst (pc := 28) (v := 4294967295) dX4_cut_28 (by decide +kernel) ?_
  exact g_iret (pc := 29) dX4_cut_29 ⟨mg_narI _, Or.inl rfl⟩ ⟨rfl, rfl⟩
/-- X5_cut(r5.0, 1, 1) at qms6 -/
theorem qa223 (l : Launch) {D : va_G} {E : mg_E} {B : Nat} : mg_C l (D, E, true, B) mX5_cut [rv (D, E, true, B) 5 0, iv 1, iv 1] qms6 (fun v g' => v = some 4294967295 ∧ g' = qms6) := by
  refine mg_C.of (by decide) rfl (Nat.le_of_ble_eq_true rfl) (List.forall_mem_cons.mpr ⟨rfl, (List.forall_mem_cons.mpr ⟨rfl, (List.forall_mem_cons.mpr ⟨rfl, (fun _ h => nomatch h)⟩)⟩)⟩) (fun K => ?_)
  refine g_aload_n (pc := 0) dX5_cut_0 rfl ?_
  refine fg_X5_cut_105 (pc := 1) (by rfl) dX5_cut_1 ?_
  refine g_top (b := 1) (by decide +kernel) ?_
  refine g_if_eq (pc := 4) 37 dX5_cut_4 (by decide) (by decide) (fun h => absurd h (by decide)) (fun _ => ?_)
  refine g_aload_n (pc := 7) dX5_cut_7 rfl ?_
  refine g_iload_n (pc := 8) dX5_cut_8 rfl ?_
  refine g_callVi (pc := 9) (Y' := mX5_isStation) (As := [iv 1]) (st := []) (k := 5) (i := 0) (qa53 K.2.1) gX5_cut_X5_isStation rfl (show 0 < 1 by omega) rfl rfl (na := 1) rfl (by decide +kernel) (by decide) (by decide) (Nat.le_of_ble_eq_true rfl) dX5_cut_9 (fun r1 g1 hp => ?_)
  obtain ⟨h1, rfl⟩ := hp
  cases h1
  refine g_if_eq (pc := 12) 37 dX5_cut_12 (by decide) (by decide) (fun h => absurd h (by decide)) (fun _ => ?_)
  refine g_aload_n (pc := 15) dX5_cut_15 rfl ?_
  refine g_iload_n (pc := 16) dX5_cut_16 rfl ?_
  refine g_callVi (pc := 17) (Y' := mX5_isStation) (As := [iv 1]) (st := []) (k := 5) (i := 0) (qa53 K.2.1) gX5_cut_X5_isStation rfl (show 0 < 1 by omega) rfl rfl (na := 1) rfl (by decide +kernel) (by decide) (by decide) (Nat.le_of_ble_eq_true rfl) dX5_cut_17 (fun r1 g1 hp => ?_)
  obtain ⟨h1, rfl⟩ := hp
  cases h1
  refine g_if_eq (pc := 20) 37 dX5_cut_20 (by decide) (by decide) (fun h => absurd h (by decide)) (fun _ => ?_)
  refine g_aload_n (pc := 23) dX5_cut_23 rfl ?_
  refine fg_X5_cut_7 (pc := 24) (by rfl) dX5_cut_24 ?_
  refine g_bipush (pc := 27) (v := 24) dX5_cut_27 (by decide +kernel) ?_
  refine g_iload_n (pc := 29) dX5_cut_29 rfl ?_
  refine g_imul (pc := 30) dX5_cut_30 ?_
  refine g_top (b := 24) (by decide +kernel) ?_
  refine g_iload_n (pc := 31) dX5_cut_31 rfl ?_
  refine g_iadd (pc := 32) dX5_cut_32 ?_
  refine g_top (b := 25) (by decide +kernel) ?_
  refine g_baload (pc := 33) (k := 35) (i := 0) (n := 576) (show 0 < 1 by omega) rfl (by decide) (by decide) dX5_cut_33 ?_
  refine g_top (b := 0) (by decide +kernel) ?_
  refine g_if_ne (pc := 34) 39 dX5_cut_34 (by decide) (by decide) (fun h => absurd (by decide) h) (fun _ => ?_)
  refine g_iconst (pc := 37) (v := 4294967295) dX5_cut_37 (by decide +kernel) ?_
  exact g_iret (pc := 38) dX5_cut_38 ⟨mg_narI _, Or.inl rfl⟩ ⟨rfl, rfl⟩
/-- X4_join(r4.0, a[2147483648,4294967295], b[0,4294967295]) at qms6 -/
theorem qa224 (l : Launch) {D : va_G} {E : mg_E} {B : Nat} (a : Nat) (h_a : 2147483648 ≤ a) (k_a : a ≤ 4294967295) (b : Nat) (h_b : 0 ≤ b) (k_b : b ≤ 4294967295) : mg_C l (D, E, true, B) mX4_join [rv (D, E, true, B) 4 0, iv a, iv b] qms6 (fun v g' => v = some 4294967295 ∧ g' = qms6) := by
  refine mg_C.of (by decide) rfl (Nat.le_of_ble_eq_true rfl) (List.forall_mem_cons.mpr ⟨rfl, (List.forall_mem_cons.mpr ⟨rfl, (List.forall_mem_cons.mpr ⟨rfl, (fun _ h => nomatch h)⟩)⟩)⟩) (fun K => ?_)
  refine g_aload_n (pc := 0) dX4_join_0 rfl ?_
  refine g_iload_n (pc := 1) dX4_join_1 rfl ?_
  refine g_callVi (pc := 2) (Y' := mX4_isStation) (As := [iv a]) (st := []) (k := 4) (i := 0) (qa15 K.2.1 a h_a k_a) gX4_join_X4_isStation rfl (show 0 < 1 by omega) rfl rfl (na := 1) rfl (by decide +kernel) (by decide) (by decide) (Nat.le_of_ble_eq_true rfl) dX4_join_2 (fun r1 g1 hp => ?_)
  obtain ⟨h1, rfl⟩ := hp
  cases h1
  refine g_if_eq (pc := 5) 16 dX4_join_5 (by decide) (by decide) (fun _ => ?_) (fun h => absurd (by decide) h)
  refine g_iconst (pc := 16) (v := 4294967295) dX4_join_16 (by decide +kernel) ?_
  exact g_iret (pc := 17) dX4_join_17 ⟨mg_narI _, Or.inl rfl⟩ ⟨rfl, rfl⟩
/-- X5_isStation(r5.0, a[2147483648,4294967295]) at qas6 -/
theorem qa225 (l : Launch) {D : va_G} {E : mg_E} {B : Nat} (a : Nat) (h_a : 2147483648 ≤ a) (k_a : a ≤ 4294967295) : mg_C l (D, E, true, B) mX5_isStation [rv (D, E, true, B) 5 0, iv a] qas6 (fun v g' => v = some 0 ∧ g' = qas6) := by
  refine mg_C.of (by decide) rfl (Nat.le_of_ble_eq_true rfl) (List.forall_mem_cons.mpr ⟨rfl, (List.forall_mem_cons.mpr ⟨rfl, (fun _ h => nomatch h)⟩)⟩) (fun K => ?_)
  refine g_iload_n (pc := 0) dX5_isStation_0 rfl ?_
  refine g_sif_lt (pc := 1) 16 dX5_isStation_1 (by decide) (by omega) (fun _ => ?_) (fun h => absurd (by have q := mg_sgn h_a (by omega : a < 4294967296); omega) h)
  refine g_iconst (pc := 16) (v := 0) dX5_isStation_16 (by decide +kernel) ?_
  exact g_iret (pc := 17) dX5_isStation_17 ⟨mg_narZ (by decide), Or.inr rfl⟩ ⟨rfl, rfl⟩
/-- X5_join(r5.0, a[2147483648,4294967295], b[0,4294967295]) at qms6 -/
theorem qa226 (l : Launch) {D : va_G} {E : mg_E} {B : Nat} (a : Nat) (h_a : 2147483648 ≤ a) (k_a : a ≤ 4294967295) (b : Nat) (h_b : 0 ≤ b) (k_b : b ≤ 4294967295) : mg_C l (D, E, true, B) mX5_join [rv (D, E, true, B) 5 0, iv a, iv b] qms6 (fun v g' => v = some 4294967295 ∧ g' = qas6) := by
  refine mg_C.of (by decide) rfl (Nat.le_of_ble_eq_true rfl) (List.forall_mem_cons.mpr ⟨rfl, (List.forall_mem_cons.mpr ⟨rfl, (List.forall_mem_cons.mpr ⟨rfl, (fun _ h => nomatch h)⟩)⟩)⟩) (fun K => ?_)
  refine g_aload_n (pc := 0) dX5_join_0 rfl ?_
  refine g_callVi (pc := 1) (Y' := mX5_part) (As := []) (st := []) (k := 5) (i := 0) (qa10 K.2.1) gX5_join_X5_part rfl (show 0 < 1 by omega) rfl rfl (na := 0) rfl (by decide +kernel) (by decide) (by decide) (Nat.le_of_ble_eq_true rfl) dX5_join_1 (fun r1 g1 hp => ?_)
  obtain ⟨h1, rfl⟩ := hp
  cases h1
  refine g_istore_n (pc := 4) (ls' := [rv (D, E, true, B) 5 0, iv a, iv b, iv 1]) dX5_join_4 (Nat.le_of_ble_eq_true rfl) (Nat.le_of_ble_eq_true rfl) rfl ?_
  refine g_aload_n (pc := 5) dX5_join_5 rfl ?_
  refine fg_X5_join_105 (pc := 6) (by rfl) dX5_join_6 ?_
  refine g_top (b := 1) (by decide +kernel) ?_
  refine g_if_eq (pc := 9) 43 dX5_join_9 (by decide) (by decide) (fun h => absurd h (by decide)) (fun _ => ?_)
  refine g_aload_n (pc := 12) dX5_join_12 rfl ?_
  refine g_iload_n (pc := 13) dX5_join_13 rfl ?_
  refine g_callVi (pc := 14) (Y' := mX5_isStation) (As := [iv a]) (st := []) (k := 5) (i := 0) (qa225 K.2.1 a h_a k_a) gX5_join_X5_isStation rfl (show 0 < 1 by omega) rfl rfl (na := 1) rfl (by decide +kernel) (by decide) (by decide) (Nat.le_of_ble_eq_true rfl) dX5_join_14 (fun r1 g1 hp => ?_)
  obtain ⟨h1, rfl⟩ := hp
  cases h1
  refine g_if_eq (pc := 17) 43 dX5_join_17 (by decide) (by decide) (fun _ => ?_) (fun h => absurd (by decide) h)
  refine g_iconst (pc := 43) (v := 4294967295) dX5_join_43 (by decide +kernel) ?_
  exact g_iret (pc := 44) dX5_join_44 ⟨mg_narI _, Or.inl rfl⟩ ⟨rfl, rfl⟩
/-- X4_join(r4.0, a[2,2147483647], b[0,4294967295]) at qms6 -/
theorem qa227 (l : Launch) {D : va_G} {E : mg_E} {B : Nat} (a : Nat) (h_a : 2 ≤ a) (k_a : a ≤ 2147483647) (b : Nat) (h_b : 0 ≤ b) (k_b : b ≤ 4294967295) : mg_C l (D, E, true, B) mX4_join [rv (D, E, true, B) 4 0, iv a, iv b] qms6 (fun v g' => v = some 4294967295 ∧ g' = qms6) := by
  refine mg_C.of (by decide) rfl (Nat.le_of_ble_eq_true rfl) (List.forall_mem_cons.mpr ⟨rfl, (List.forall_mem_cons.mpr ⟨rfl, (List.forall_mem_cons.mpr ⟨rfl, (fun _ h => nomatch h)⟩)⟩)⟩) (fun K => ?_)
  refine g_aload_n (pc := 0) dX4_join_0 rfl ?_
  refine g_iload_n (pc := 1) dX4_join_1 rfl ?_
  refine g_callVi (pc := 2) (Y' := mX4_isStation) (As := [iv a]) (st := []) (k := 4) (i := 0) (qa22 K.2.1 a h_a k_a) gX4_join_X4_isStation rfl (show 0 < 1 by omega) rfl rfl (na := 1) rfl (by decide +kernel) (by decide) (by decide) (Nat.le_of_ble_eq_true rfl) dX4_join_2 (fun r1 g1 hp => ?_)
  obtain ⟨h1, rfl⟩ := hp
  cases h1
  refine g_if_eq (pc := 5) 16 dX4_join_5 (by decide) (by decide) (fun _ => ?_) (fun h => absurd (by decide) h)
  refine g_iconst (pc := 16) (v := 4294967295) dX4_join_16 (by decide +kernel) ?_
  exact g_iret (pc := 17) dX4_join_17 ⟨mg_narI _, Or.inl rfl⟩ ⟨rfl, rfl⟩
/-- X5_isStation(r5.0, a[2,2147483647]) at qas6 -/
theorem qa228 (l : Launch) {D : va_G} {E : mg_E} {B : Nat} (a : Nat) (h_a : 2 ≤ a) (k_a : a ≤ 2147483647) : mg_C l (D, E, true, B) mX5_isStation [rv (D, E, true, B) 5 0, iv a] qas6 (fun v g' => v = some 0 ∧ g' = qas6) := by
  refine mg_C.of (by decide) rfl (Nat.le_of_ble_eq_true rfl) (List.forall_mem_cons.mpr ⟨rfl, (List.forall_mem_cons.mpr ⟨rfl, (fun _ h => nomatch h)⟩)⟩) (fun K => ?_)
  refine g_iload_n (pc := 0) dX5_isStation_0 rfl ?_
  refine g_sif_lt (pc := 1) 16 dX5_isStation_1 (by decide) (by omega) (fun h => absurd h (by have q := mg_sgs (a := a) (by omega); omega)) (fun _ => ?_)
  refine g_iload_n (pc := 4) dX5_isStation_4 rfl ?_
  refine g_aload_n (pc := 5) dX5_isStation_5 rfl ?_
  refine fg_X5_isStation_101 (pc := 6) (by rfl) dX5_isStation_6 ?_
  refine g_top (b := 2) (by decide +kernel) ?_
  refine g_icmp_ge (pc := 9) 16 dX5_isStation_9 (by decide) (by omega) (by decide) (fun _ => ?_) (fun h => absurd (by omega) h)
  refine g_iconst (pc := 16) (v := 0) dX5_isStation_16 (by decide +kernel) ?_
  exact g_iret (pc := 17) dX5_isStation_17 ⟨mg_narZ (by decide), Or.inr rfl⟩ ⟨rfl, rfl⟩
/-- X5_join(r5.0, a[2,2147483647], b[0,4294967295]) at qms6 -/
theorem qa229 (l : Launch) {D : va_G} {E : mg_E} {B : Nat} (a : Nat) (h_a : 2 ≤ a) (k_a : a ≤ 2147483647) (b : Nat) (h_b : 0 ≤ b) (k_b : b ≤ 4294967295) : mg_C l (D, E, true, B) mX5_join [rv (D, E, true, B) 5 0, iv a, iv b] qms6 (fun v g' => v = some 4294967295 ∧ g' = qas6) := by
  refine mg_C.of (by decide) rfl (Nat.le_of_ble_eq_true rfl) (List.forall_mem_cons.mpr ⟨rfl, (List.forall_mem_cons.mpr ⟨rfl, (List.forall_mem_cons.mpr ⟨rfl, (fun _ h => nomatch h)⟩)⟩)⟩) (fun K => ?_)
  refine g_aload_n (pc := 0) dX5_join_0 rfl ?_
  refine g_callVi (pc := 1) (Y' := mX5_part) (As := []) (st := []) (k := 5) (i := 0) (qa10 K.2.1) gX5_join_X5_part rfl (show 0 < 1 by omega) rfl rfl (na := 0) rfl (by decide +kernel) (by decide) (by decide) (Nat.le_of_ble_eq_true rfl) dX5_join_1 (fun r1 g1 hp => ?_)
  obtain ⟨h1, rfl⟩ := hp
  cases h1
  refine g_istore_n (pc := 4) (ls' := [rv (D, E, true, B) 5 0, iv a, iv b, iv 1]) dX5_join_4 (Nat.le_of_ble_eq_true rfl) (Nat.le_of_ble_eq_true rfl) rfl ?_
  refine g_aload_n (pc := 5) dX5_join_5 rfl ?_
  refine fg_X5_join_105 (pc := 6) (by rfl) dX5_join_6 ?_
  refine g_top (b := 1) (by decide +kernel) ?_
  refine g_if_eq (pc := 9) 43 dX5_join_9 (by decide) (by decide) (fun h => absurd h (by decide)) (fun _ => ?_)
  refine g_aload_n (pc := 12) dX5_join_12 rfl ?_
  refine g_iload_n (pc := 13) dX5_join_13 rfl ?_
  refine g_callVi (pc := 14) (Y' := mX5_isStation) (As := [iv a]) (st := []) (k := 5) (i := 0) (qa228 K.2.1 a h_a k_a) gX5_join_X5_isStation rfl (show 0 < 1 by omega) rfl rfl (na := 1) rfl (by decide +kernel) (by decide) (by decide) (Nat.le_of_ble_eq_true rfl) dX5_join_14 (fun r1 g1 hp => ?_)
  obtain ⟨h1, rfl⟩ := hp
  cases h1
  refine g_if_eq (pc := 17) 43 dX5_join_17 (by decide) (by decide) (fun _ => ?_) (fun h => absurd (by decide) h)
  refine g_iconst (pc := 43) (v := 4294967295) dX5_join_43 (by decide +kernel) ?_
  exact g_iret (pc := 44) dX5_join_44 ⟨mg_narI _, Or.inl rfl⟩ ⟨rfl, rfl⟩
/-- X4_join(r4.0, 0, b[2147483648,4294967295]) at qms6 -/
theorem qa230 (l : Launch) {D : va_G} {E : mg_E} {B : Nat} (b : Nat) (h_b : 2147483648 ≤ b) (k_b : b ≤ 4294967295) : mg_C l (D, E, true, B) mX4_join [rv (D, E, true, B) 4 0, iv 0, iv b] qms6 (fun v g' => v = some 4294967295 ∧ g' = qms6) := by
  refine mg_C.of (by decide) rfl (Nat.le_of_ble_eq_true rfl) (List.forall_mem_cons.mpr ⟨rfl, (List.forall_mem_cons.mpr ⟨rfl, (List.forall_mem_cons.mpr ⟨rfl, (fun _ h => nomatch h)⟩)⟩)⟩) (fun K => ?_)
  refine g_aload_n (pc := 0) dX4_join_0 rfl ?_
  refine g_iload_n (pc := 1) dX4_join_1 rfl ?_
  refine g_callVi (pc := 2) (Y' := mX4_isStation) (As := [iv 0]) (st := []) (k := 4) (i := 0) (qa29 K.2.1) gX4_join_X4_isStation rfl (show 0 < 1 by omega) rfl rfl (na := 1) rfl (by decide +kernel) (by decide) (by decide) (Nat.le_of_ble_eq_true rfl) dX4_join_2 (fun r1 g1 hp => ?_)
  obtain ⟨h1, rfl⟩ := hp
  cases h1
  refine g_if_eq (pc := 5) 16 dX4_join_5 (by decide) (by decide) (fun h => absurd h (by decide)) (fun _ => ?_)
  refine g_aload_n (pc := 8) dX4_join_8 rfl ?_
  refine g_iload_n (pc := 9) dX4_join_9 rfl ?_
  refine g_callVi (pc := 10) (Y' := mX4_isStation) (As := [iv b]) (st := []) (k := 4) (i := 0) (qa167 K.2.1 b h_b k_b) gX4_join_X4_isStation rfl (show 0 < 1 by omega) rfl rfl (na := 1) rfl (by decide +kernel) (by decide) (by decide) (Nat.le_of_ble_eq_true rfl) dX4_join_10 (fun r1 g1 hp => ?_)
  obtain ⟨h1, rfl⟩ := hp
  cases h1
  refine g_if_ne (pc := 13) 18 dX4_join_13 (by decide) (by decide) (fun h => absurd (by decide) h) (fun _ => ?_)
  refine g_iconst (pc := 16) (v := 4294967295) dX4_join_16 (by decide +kernel) ?_
  exact g_iret (pc := 17) dX4_join_17 ⟨mg_narI _, Or.inl rfl⟩ ⟨rfl, rfl⟩
/-- X5_isStation(r5.0, 0) at qas6 -/
theorem qa231 (l : Launch) {D : va_G} {E : mg_E} {B : Nat} : mg_C l (D, E, true, B) mX5_isStation [rv (D, E, true, B) 5 0, iv 0] qas6 (fun v g' => v = some 1 ∧ g' = qas6) := by
  refine mg_C.of (by decide) rfl (Nat.le_of_ble_eq_true rfl) (List.forall_mem_cons.mpr ⟨rfl, (List.forall_mem_cons.mpr ⟨rfl, (fun _ h => nomatch h)⟩)⟩) (fun K => ?_)
  refine g_iload_n (pc := 0) dX5_isStation_0 rfl ?_
  refine g_sif_lt (pc := 1) 16 dX5_isStation_1 (by decide) (by decide) (fun h => absurd h (by decide)) (fun _ => ?_)
  refine g_iload_n (pc := 4) dX5_isStation_4 rfl ?_
  refine g_aload_n (pc := 5) dX5_isStation_5 rfl ?_
  refine fg_X5_isStation_101 (pc := 6) (by rfl) dX5_isStation_6 ?_
  refine g_top (b := 2) (by decide +kernel) ?_
  refine g_icmp_ge (pc := 9) 16 dX5_isStation_9 (by decide) (by decide) (by decide) (fun h => absurd h (by decide)) (fun _ => ?_)
  refine g_iconst (pc := 12) (v := 1) dX5_isStation_12 (by decide +kernel) ?_
  refine g_goto (pc := 13) 17 dX5_isStation_13 (by decide) ?_
  exact g_iret (pc := 17) dX5_isStation_17 ⟨mg_narZ (by decide), Or.inr rfl⟩ ⟨rfl, rfl⟩
/-- X5_isStation(r5.0, b[2147483648,4294967295]) at qas6 -/
theorem qa232 (l : Launch) {D : va_G} {E : mg_E} {B : Nat} (b : Nat) (h_b : 2147483648 ≤ b) (k_b : b ≤ 4294967295) : mg_C l (D, E, true, B) mX5_isStation [rv (D, E, true, B) 5 0, iv b] qas6 (fun v g' => v = some 0 ∧ g' = qas6) := by
  refine mg_C.of (by decide) rfl (Nat.le_of_ble_eq_true rfl) (List.forall_mem_cons.mpr ⟨rfl, (List.forall_mem_cons.mpr ⟨rfl, (fun _ h => nomatch h)⟩)⟩) (fun K => ?_)
  refine g_iload_n (pc := 0) dX5_isStation_0 rfl ?_
  refine g_sif_lt (pc := 1) 16 dX5_isStation_1 (by decide) (by omega) (fun _ => ?_) (fun h => absurd (by have q := mg_sgn h_b (by omega : b < 4294967296); omega) h)
  refine g_iconst (pc := 16) (v := 0) dX5_isStation_16 (by decide +kernel) ?_
  exact g_iret (pc := 17) dX5_isStation_17 ⟨mg_narZ (by decide), Or.inr rfl⟩ ⟨rfl, rfl⟩
/-- X5_join(r5.0, 0, b[2147483648,4294967295]) at qms6 -/
theorem qa233 (l : Launch) {D : va_G} {E : mg_E} {B : Nat} (b : Nat) (h_b : 2147483648 ≤ b) (k_b : b ≤ 4294967295) : mg_C l (D, E, true, B) mX5_join [rv (D, E, true, B) 5 0, iv 0, iv b] qms6 (fun v g' => v = some 4294967295 ∧ g' = qas6) := by
  refine mg_C.of (by decide) rfl (Nat.le_of_ble_eq_true rfl) (List.forall_mem_cons.mpr ⟨rfl, (List.forall_mem_cons.mpr ⟨rfl, (List.forall_mem_cons.mpr ⟨rfl, (fun _ h => nomatch h)⟩)⟩)⟩) (fun K => ?_)
  refine g_aload_n (pc := 0) dX5_join_0 rfl ?_
  refine g_callVi (pc := 1) (Y' := mX5_part) (As := []) (st := []) (k := 5) (i := 0) (qa10 K.2.1) gX5_join_X5_part rfl (show 0 < 1 by omega) rfl rfl (na := 0) rfl (by decide +kernel) (by decide) (by decide) (Nat.le_of_ble_eq_true rfl) dX5_join_1 (fun r1 g1 hp => ?_)
  obtain ⟨h1, rfl⟩ := hp
  cases h1
  refine g_istore_n (pc := 4) (ls' := [rv (D, E, true, B) 5 0, iv 0, iv b, iv 1]) dX5_join_4 (Nat.le_of_ble_eq_true rfl) (Nat.le_of_ble_eq_true rfl) rfl ?_
  refine g_aload_n (pc := 5) dX5_join_5 rfl ?_
  refine fg_X5_join_105 (pc := 6) (by rfl) dX5_join_6 ?_
  refine g_top (b := 1) (by decide +kernel) ?_
  refine g_if_eq (pc := 9) 43 dX5_join_9 (by decide) (by decide) (fun h => absurd h (by decide)) (fun _ => ?_)
  refine g_aload_n (pc := 12) dX5_join_12 rfl ?_
  refine g_iload_n (pc := 13) dX5_join_13 rfl ?_
  refine g_callVi (pc := 14) (Y' := mX5_isStation) (As := [iv 0]) (st := []) (k := 5) (i := 0) (qa231 K.2.1) gX5_join_X5_isStation rfl (show 0 < 1 by omega) rfl rfl (na := 1) rfl (by decide +kernel) (by decide) (by decide) (Nat.le_of_ble_eq_true rfl) dX5_join_14 (fun r1 g1 hp => ?_)
  obtain ⟨h1, rfl⟩ := hp
  cases h1
  refine g_if_eq (pc := 17) 43 dX5_join_17 (by decide) (by decide) (fun h => absurd h (by decide)) (fun _ => ?_)
  refine g_aload_n (pc := 20) dX5_join_20 rfl ?_
  refine g_iload_n (pc := 21) dX5_join_21 rfl ?_
  refine g_callVi (pc := 22) (Y' := mX5_isStation) (As := [iv b]) (st := []) (k := 5) (i := 0) (qa232 K.2.1 b h_b k_b) gX5_join_X5_isStation rfl (show 0 < 1 by omega) rfl rfl (na := 1) rfl (by decide +kernel) (by decide) (by decide) (Nat.le_of_ble_eq_true rfl) dX5_join_22 (fun r1 g1 hp => ?_)
  obtain ⟨h1, rfl⟩ := hp
  cases h1
  refine g_if_eq (pc := 25) 43 dX5_join_25 (by decide) (by decide) (fun _ => ?_) (fun h => absurd (by decide) h)
  refine g_iconst (pc := 43) (v := 4294967295) dX5_join_43 (by decide +kernel) ?_
  exact g_iret (pc := 44) dX5_join_44 ⟨mg_narI _, Or.inl rfl⟩ ⟨rfl, rfl⟩
/-- X4_join(r4.0, 0, b[2,2147483647]) at qms6 -/
theorem qa234 (l : Launch) {D : va_G} {E : mg_E} {B : Nat} (b : Nat) (h_b : 2 ≤ b) (k_b : b ≤ 2147483647) : mg_C l (D, E, true, B) mX4_join [rv (D, E, true, B) 4 0, iv 0, iv b] qms6 (fun v g' => v = some 4294967295 ∧ g' = qms6) := by
  refine mg_C.of (by decide) rfl (Nat.le_of_ble_eq_true rfl) (List.forall_mem_cons.mpr ⟨rfl, (List.forall_mem_cons.mpr ⟨rfl, (List.forall_mem_cons.mpr ⟨rfl, (fun _ h => nomatch h)⟩)⟩)⟩) (fun K => ?_)
  refine g_aload_n (pc := 0) dX4_join_0 rfl ?_
  refine g_iload_n (pc := 1) dX4_join_1 rfl ?_
  refine g_callVi (pc := 2) (Y' := mX4_isStation) (As := [iv 0]) (st := []) (k := 4) (i := 0) (qa29 K.2.1) gX4_join_X4_isStation rfl (show 0 < 1 by omega) rfl rfl (na := 1) rfl (by decide +kernel) (by decide) (by decide) (Nat.le_of_ble_eq_true rfl) dX4_join_2 (fun r1 g1 hp => ?_)
  obtain ⟨h1, rfl⟩ := hp
  cases h1
  refine g_if_eq (pc := 5) 16 dX4_join_5 (by decide) (by decide) (fun h => absurd h (by decide)) (fun _ => ?_)
  refine g_aload_n (pc := 8) dX4_join_8 rfl ?_
  refine g_iload_n (pc := 9) dX4_join_9 rfl ?_
  refine g_callVi (pc := 10) (Y' := mX4_isStation) (As := [iv b]) (st := []) (k := 4) (i := 0) (qa172 K.2.1 b h_b k_b) gX4_join_X4_isStation rfl (show 0 < 1 by omega) rfl rfl (na := 1) rfl (by decide +kernel) (by decide) (by decide) (Nat.le_of_ble_eq_true rfl) dX4_join_10 (fun r1 g1 hp => ?_)
  obtain ⟨h1, rfl⟩ := hp
  cases h1
  refine g_if_ne (pc := 13) 18 dX4_join_13 (by decide) (by decide) (fun h => absurd (by decide) h) (fun _ => ?_)
  refine g_iconst (pc := 16) (v := 4294967295) dX4_join_16 (by decide +kernel) ?_
  exact g_iret (pc := 17) dX4_join_17 ⟨mg_narI _, Or.inl rfl⟩ ⟨rfl, rfl⟩
/-- X5_isStation(r5.0, b[2,2147483647]) at qas6 -/
theorem qa235 (l : Launch) {D : va_G} {E : mg_E} {B : Nat} (b : Nat) (h_b : 2 ≤ b) (k_b : b ≤ 2147483647) : mg_C l (D, E, true, B) mX5_isStation [rv (D, E, true, B) 5 0, iv b] qas6 (fun v g' => v = some 0 ∧ g' = qas6) := by
  refine mg_C.of (by decide) rfl (Nat.le_of_ble_eq_true rfl) (List.forall_mem_cons.mpr ⟨rfl, (List.forall_mem_cons.mpr ⟨rfl, (fun _ h => nomatch h)⟩)⟩) (fun K => ?_)
  refine g_iload_n (pc := 0) dX5_isStation_0 rfl ?_
  refine g_sif_lt (pc := 1) 16 dX5_isStation_1 (by decide) (by omega) (fun h => absurd h (by have q := mg_sgs (a := b) (by omega); omega)) (fun _ => ?_)
  refine g_iload_n (pc := 4) dX5_isStation_4 rfl ?_
  refine g_aload_n (pc := 5) dX5_isStation_5 rfl ?_
  refine fg_X5_isStation_101 (pc := 6) (by rfl) dX5_isStation_6 ?_
  refine g_top (b := 2) (by decide +kernel) ?_
  refine g_icmp_ge (pc := 9) 16 dX5_isStation_9 (by decide) (by omega) (by decide) (fun _ => ?_) (fun h => absurd (by omega) h)
  refine g_iconst (pc := 16) (v := 0) dX5_isStation_16 (by decide +kernel) ?_
  exact g_iret (pc := 17) dX5_isStation_17 ⟨mg_narZ (by decide), Or.inr rfl⟩ ⟨rfl, rfl⟩
/-- X5_join(r5.0, 0, b[2,2147483647]) at qms6 -/
theorem qa236 (l : Launch) {D : va_G} {E : mg_E} {B : Nat} (b : Nat) (h_b : 2 ≤ b) (k_b : b ≤ 2147483647) : mg_C l (D, E, true, B) mX5_join [rv (D, E, true, B) 5 0, iv 0, iv b] qms6 (fun v g' => v = some 4294967295 ∧ g' = qas6) := by
  refine mg_C.of (by decide) rfl (Nat.le_of_ble_eq_true rfl) (List.forall_mem_cons.mpr ⟨rfl, (List.forall_mem_cons.mpr ⟨rfl, (List.forall_mem_cons.mpr ⟨rfl, (fun _ h => nomatch h)⟩)⟩)⟩) (fun K => ?_)
  refine g_aload_n (pc := 0) dX5_join_0 rfl ?_
  refine g_callVi (pc := 1) (Y' := mX5_part) (As := []) (st := []) (k := 5) (i := 0) (qa10 K.2.1) gX5_join_X5_part rfl (show 0 < 1 by omega) rfl rfl (na := 0) rfl (by decide +kernel) (by decide) (by decide) (Nat.le_of_ble_eq_true rfl) dX5_join_1 (fun r1 g1 hp => ?_)
  obtain ⟨h1, rfl⟩ := hp
  cases h1
  refine g_istore_n (pc := 4) (ls' := [rv (D, E, true, B) 5 0, iv 0, iv b, iv 1]) dX5_join_4 (Nat.le_of_ble_eq_true rfl) (Nat.le_of_ble_eq_true rfl) rfl ?_
  refine g_aload_n (pc := 5) dX5_join_5 rfl ?_
  refine fg_X5_join_105 (pc := 6) (by rfl) dX5_join_6 ?_
  refine g_top (b := 1) (by decide +kernel) ?_
  refine g_if_eq (pc := 9) 43 dX5_join_9 (by decide) (by decide) (fun h => absurd h (by decide)) (fun _ => ?_)
  refine g_aload_n (pc := 12) dX5_join_12 rfl ?_
  refine g_iload_n (pc := 13) dX5_join_13 rfl ?_
  refine g_callVi (pc := 14) (Y' := mX5_isStation) (As := [iv 0]) (st := []) (k := 5) (i := 0) (qa231 K.2.1) gX5_join_X5_isStation rfl (show 0 < 1 by omega) rfl rfl (na := 1) rfl (by decide +kernel) (by decide) (by decide) (Nat.le_of_ble_eq_true rfl) dX5_join_14 (fun r1 g1 hp => ?_)
  obtain ⟨h1, rfl⟩ := hp
  cases h1
  refine g_if_eq (pc := 17) 43 dX5_join_17 (by decide) (by decide) (fun h => absurd h (by decide)) (fun _ => ?_)
  refine g_aload_n (pc := 20) dX5_join_20 rfl ?_
  refine g_iload_n (pc := 21) dX5_join_21 rfl ?_
  refine g_callVi (pc := 22) (Y' := mX5_isStation) (As := [iv b]) (st := []) (k := 5) (i := 0) (qa235 K.2.1 b h_b k_b) gX5_join_X5_isStation rfl (show 0 < 1 by omega) rfl rfl (na := 1) rfl (by decide +kernel) (by decide) (by decide) (Nat.le_of_ble_eq_true rfl) dX5_join_22 (fun r1 g1 hp => ?_)
  obtain ⟨h1, rfl⟩ := hp
  cases h1
  refine g_if_eq (pc := 25) 43 dX5_join_25 (by decide) (by decide) (fun _ => ?_) (fun h => absurd (by decide) h)
  refine g_iconst (pc := 43) (v := 4294967295) dX5_join_43 (by decide +kernel) ?_
  exact g_iret (pc := 44) dX5_join_44 ⟨mg_narI _, Or.inl rfl⟩ ⟨rfl, rfl⟩
/-- X4_contains(3, 1) at qms6 -/
theorem qa237 (l : Launch) {D : va_G} {E : mg_E} {B : Nat} : mg_C l (D, E, true, B) mX4_contains [iv 3, iv 1] qms6 (fun v g' => v = some 1 ∧ g' = qms6) := by
  refine mg_C.of (by decide) rfl (Nat.le_of_ble_eq_true rfl) (List.forall_mem_cons.mpr ⟨rfl, (List.forall_mem_cons.mpr ⟨rfl, (fun _ h => nomatch h)⟩)⟩) (fun K => ?_)
  refine g_iload_n (pc := 0) dX4_contains_0 rfl ?_
  refine g_iconst (pc := 1) (v := 1) dX4_contains_1 (by decide +kernel) ?_
  refine g_iload_n (pc := 2) dX4_contains_2 rfl ?_
  refine g_ishl (pc := 3) (by decide) dX4_contains_3 ?_
  refine g_top (b := 2) (by decide +kernel) ?_
  refine g_iand (pc := 4) dX4_contains_4 ?_
  refine g_top (b := 2) (by decide +kernel) ?_
  refine g_if_eq (pc := 5) 12 dX4_contains_5 (by decide) (by decide) (fun h => absurd h (by decide)) (fun _ => ?_)
  refine g_iconst (pc := 8) (v := 1) dX4_contains_8 (by decide +kernel) ?_
  refine g_goto (pc := 9) 13 dX4_contains_9 (by decide) ?_
  exact g_iret (pc := 13) dX4_contains_13 ⟨mg_narZ (by decide), Or.inr rfl⟩ ⟨rfl, rfl⟩
/-- X0_partOf(r0.0, 0) at qms6 -/
theorem qa238 (l : Launch) {D : va_G} {E : mg_E} {B : Nat} : mg_C l (D, E, true, B) mX0_partOf [rv (D, E, true, B) 0 0, iv 0] qms6 (fun v g' => v = some 3 ∧ g' = qms6) := by
  refine mg_C.of (by decide) rfl (Nat.le_of_ble_eq_true rfl) (List.forall_mem_cons.mpr ⟨rfl, (List.forall_mem_cons.mpr ⟨rfl, (fun _ h => nomatch h)⟩)⟩) (fun K => ?_)
  refine g_iconst (pc := 0) (v := 1) dX0_partOf_0 (by decide +kernel) ?_
  refine g_iload_n (pc := 1) dX0_partOf_1 rfl ?_
  refine g_ishl (pc := 2) (by decide) dX0_partOf_2 ?_
  refine g_top (b := 1) (by decide +kernel) ?_
  refine g_istore_n (pc := 3) (ls' := [rv (D, E, true, B) 0 0, iv 0, iv 1]) dX0_partOf_3 (Nat.le_of_ble_eq_true rfl) (Nat.le_of_ble_eq_true rfl) rfl ?_
  refine g_iconst (pc := 4) (v := 1) dX0_partOf_4 (by decide +kernel) ?_
  refine g_istore_n (pc := 5) (ls' := [rv (D, E, true, B) 0 0, iv 0, iv 1, iv 1]) dX0_partOf_5 (Nat.le_of_ble_eq_true rfl) (Nat.le_of_ble_eq_true rfl) rfl ?_
  refine g_iload_n (pc := 6) dX0_partOf_6 rfl ?_
  refine g_aload_n (pc := 7) dX0_partOf_7 rfl ?_
  refine fg_X0_partOf_21 (pc := 8) dX0_partOf_8 ?_
  refine g_top (b := 2) (by decide +kernel) ?_
  refine g_icmp_ge (pc := 11) 57 dX0_partOf_11 (by decide) (by decide) (by decide) (fun h => absurd h (by decide)) (fun _ => ?_)
  refine g_iconst (pc := 14) (v := 0) dX0_partOf_14 (by decide +kernel) ?_
  refine g_istore (pc := 15) (ls' := [rv (D, E, true, B) 0 0, iv 0, iv 1, iv 1, iv 0]) dX0_partOf_15 (Nat.le_of_ble_eq_true rfl) (Nat.le_of_ble_eq_true rfl) rfl ?_
  refine g_iload (pc := 17) dX0_partOf_17 rfl ?_
  refine g_aload_n (pc := 19) dX0_partOf_19 rfl ?_
  refine fg_X0_partOf_21 (pc := 20) dX0_partOf_20 ?_
  refine g_top (b := 2) (by decide +kernel) ?_
  refine g_icmp_ge (pc := 23) 51 dX0_partOf_23 (by decide) (by decide) (by decide) (fun h => absurd h (by decide)) (fun _ => ?_)
  refine g_iload_n (pc := 26) dX0_partOf_26 rfl ?_
  refine g_iload (pc := 27) dX0_partOf_27 rfl ?_
  refine g_callNi (pc := 29) (Y' := mX4_contains) (As := [iv 1, iv 0]) (st := []) (qa204 K.2.1) gX0_partOf_X4_contains_n28 rfl (fun _ h => h.2.2.1) (by decide +kernel) (by decide +kernel) (na := 2) rfl (by decide +kernel) (by decide) (by decide) (Nat.le_of_ble_eq_true rfl) dX0_partOf_29 (fun r1 g1 hp => ?_)
  obtain ⟨h1, rfl⟩ := hp
  cases h1
  refine g_if_eq (pc := 32) 45 dX0_partOf_32 (by decide) (by decide) (fun h => absurd h (by decide)) (fun _ => ?_)
  refine g_iload_n (pc := 35) dX0_partOf_35 rfl ?_
  refine g_aload_n (pc := 36) dX0_partOf_36 rfl ?_
  refine fg_X0_partOf_9 (pc := 37) dX0_partOf_37 ?_
  refine g_iload (pc := 40) dX0_partOf_40 rfl ?_
  refine g_iaload (pc := 42) (k := 10) (i := 0) (n := 24) (show 0 < 1 by omega) rfl (by decide) (by decide) dX0_partOf_42 ?_
  refine g_top (b := 2) (by decide +kernel) ?_
  refine g_ior (pc := 43) dX0_partOf_43 ?_
  refine g_top (b := 3) (by decide +kernel) ?_
  refine g_istore_n (pc := 44) (ls' := [rv (D, E, true, B) 0 0, iv 0, iv 3, iv 1, iv 0]) dX0_partOf_44 (Nat.le_of_ble_eq_true rfl) (Nat.le_of_ble_eq_true rfl) rfl ?_
  refine g_iinc (pc := 45) (v := 1) (ls' := [rv (D, E, true, B) 0 0, iv 0, iv 3, iv 1, iv 1]) dX0_partOf_45 (Nat.le_of_ble_eq_true rfl) rfl (by decide +kernel) rfl ?_
  refine g_goto (pc := 48) 17 dX0_partOf_48 (by decide) ?_
  refine g_iload (pc := 17) dX0_partOf_17 rfl ?_
  refine g_aload_n (pc := 19) dX0_partOf_19 rfl ?_
  refine fg_X0_partOf_21 (pc := 20) dX0_partOf_20 ?_
  refine g_top (b := 2) (by decide +kernel) ?_
  refine g_icmp_ge (pc := 23) 51 dX0_partOf_23 (by decide) (by decide) (by decide) (fun h => absurd h (by decide)) (fun _ => ?_)
  refine g_iload_n (pc := 26) dX0_partOf_26 rfl ?_
  refine g_iload (pc := 27) dX0_partOf_27 rfl ?_
  refine g_callNi (pc := 29) (Y' := mX4_contains) (As := [iv 3, iv 1]) (st := []) (qa237 K.2.1) gX0_partOf_X4_contains_n28 rfl (fun _ h => h.2.2.1) (by decide +kernel) (by decide +kernel) (na := 2) rfl (by decide +kernel) (by decide) (by decide) (Nat.le_of_ble_eq_true rfl) dX0_partOf_29 (fun r1 g1 hp => ?_)
  obtain ⟨h1, rfl⟩ := hp
  cases h1
  refine g_if_eq (pc := 32) 45 dX0_partOf_32 (by decide) (by decide) (fun h => absurd h (by decide)) (fun _ => ?_)
  refine g_iload_n (pc := 35) dX0_partOf_35 rfl ?_
  refine g_aload_n (pc := 36) dX0_partOf_36 rfl ?_
  refine fg_X0_partOf_9 (pc := 37) dX0_partOf_37 ?_
  refine g_iload (pc := 40) dX0_partOf_40 rfl ?_
  refine g_iaload (pc := 42) (k := 10) (i := 0) (n := 24) (show 0 < 1 by omega) rfl (by decide) (by decide) dX0_partOf_42 ?_
  refine g_top (b := 1) (by decide +kernel) ?_
  refine g_ior (pc := 43) dX0_partOf_43 ?_
  refine g_top (b := 3) (by decide +kernel) ?_
  refine g_istore_n (pc := 44) (ls' := [rv (D, E, true, B) 0 0, iv 0, iv 3, iv 1, iv 1]) dX0_partOf_44 (Nat.le_of_ble_eq_true rfl) (Nat.le_of_ble_eq_true rfl) rfl ?_
  refine g_iinc (pc := 45) (v := 2) (ls' := [rv (D, E, true, B) 0 0, iv 0, iv 3, iv 1, iv 2]) dX0_partOf_45 (Nat.le_of_ble_eq_true rfl) rfl (by decide +kernel) rfl ?_
  refine g_goto (pc := 48) 17 dX0_partOf_48 (by decide) ?_
  refine g_iload (pc := 17) dX0_partOf_17 rfl ?_
  refine g_aload_n (pc := 19) dX0_partOf_19 rfl ?_
  refine fg_X0_partOf_21 (pc := 20) dX0_partOf_20 ?_
  refine g_top (b := 2) (by decide +kernel) ?_
  refine g_icmp_ge (pc := 23) 51 dX0_partOf_23 (by decide) (by decide) (by decide) (fun _ => ?_) (fun h => absurd (by decide) h)
  refine g_iinc (pc := 51) (v := 2) (ls' := [rv (D, E, true, B) 0 0, iv 0, iv 3, iv 2, iv 2]) dX0_partOf_51 (Nat.le_of_ble_eq_true rfl) rfl (by decide +kernel) rfl ?_
  refine g_goto (pc := 54) 6 dX0_partOf_54 (by decide) ?_
  refine g_iload_n (pc := 6) dX0_partOf_6 rfl ?_
  refine g_aload_n (pc := 7) dX0_partOf_7 rfl ?_
  refine fg_X0_partOf_21 (pc := 8) dX0_partOf_8 ?_
  refine g_top (b := 2) (by decide +kernel) ?_
  refine g_icmp_ge (pc := 11) 57 dX0_partOf_11 (by decide) (by decide) (by decide) (fun _ => ?_) (fun h => absurd (by decide) h)
  refine g_iload_n (pc := 57) dX0_partOf_57 rfl ?_
  exact g_iret (pc := 58) dX0_partOf_58 ⟨mg_narI _, Or.inl rfl⟩ ⟨rfl, rfl⟩
/-- X4_whoHolds(r4.0) at qms6 -/
theorem qa239 (l : Launch) {D : va_G} {E : mg_E} {B : Nat} : mg_C l (D, E, true, B) mX4_whoHolds [rv (D, E, true, B) 4 0] qms6 (fun v g' => v = some 0 ∧ g' = qms6) := by
  refine mg_C.of (by decide) rfl (Nat.le_of_ble_eq_true rfl) (List.forall_mem_cons.mpr ⟨rfl, (fun _ h => nomatch h)⟩) (fun K => ?_)
  refine g_iconst (pc := 0) (v := 0) dX4_whoHolds_0 (by decide +kernel) ?_
  refine g_istore_n (pc := 1) (ls' := [rv (D, E, true, B) 4 0, iv 0]) dX4_whoHolds_1 (Nat.le_of_ble_eq_true rfl) (Nat.le_of_ble_eq_true rfl) rfl ?_
  refine g_iload_n (pc := 2) dX4_whoHolds_2 rfl ?_
  refine g_aload_n (pc := 3) dX4_whoHolds_3 rfl ?_
  refine fg_X4_whoHolds_10 (pc := 4) dX4_whoHolds_4 ?_
  refine fg_X4_whoHolds_229 (pc := 7) dX4_whoHolds_7 ?_
  refine g_top (b := 2) (by decide +kernel) ?_
  refine g_icmp_ge (pc := 10) 33 dX4_whoHolds_10 (by decide) (by decide) (by decide) (fun h => absurd h (by decide)) (fun _ => ?_)
  refine g_aload_n (pc := 13) dX4_whoHolds_13 rfl ?_
  refine fg_X4_whoHolds_18 (pc := 14) dX4_whoHolds_14 ?_
  refine g_iload_n (pc := 17) dX4_whoHolds_17 rfl ?_
  refine g_aastation (pc := 18) (a := 0) (by decide) dX4_whoHolds_18 ?_
  refine g_callVi (pc := 19) (Y' := mX3_holds) (As := []) (st := []) (k := 3) (i := 0) (qa75 K.2.1) gX4_whoHolds_X3_holds rfl (show 0 < 24 by omega) rfl rfl (na := 0) rfl (by decide +kernel) (by decide) (by decide) (Nat.le_of_ble_eq_true rfl) dX4_whoHolds_19 (fun r1 g1 hp => ?_)
  obtain ⟨h1, rfl⟩ := hp
  cases h1
  refine g_if_eq (pc := 22) 27 dX4_whoHolds_22 (by decide) (by decide) (fun h => absurd h (by decide)) (fun _ => ?_)
  refine g_iload_n (pc := 25) dX4_whoHolds_25 rfl ?_
  exact g_iret (pc := 26) dX4_whoHolds_26 ⟨mg_narI _, Or.inl rfl⟩ ⟨rfl, rfl⟩
/-- X4_placeOfRight(r4.0) at qms6 -/
theorem qa240 (l : Launch) {D : va_G} {E : mg_E} {B : Nat} : mg_C l (D, E, true, B) mX4_placeOfRight [rv (D, E, true, B) 4 0] qms6 (fun v g' => v = some 0 ∧ g' = qms6) := by
  refine mg_C.of (by decide) rfl (Nat.le_of_ble_eq_true rfl) (List.forall_mem_cons.mpr ⟨rfl, (fun _ h => nomatch h)⟩) (fun K => ?_)
  refine g_aload_n (pc := 0) dX4_placeOfRight_0 rfl ?_
  refine g_callVi (pc := 1) (Y' := mX4_whoHolds) (As := []) (st := []) (k := 4) (i := 0) (qa239 K.2.1) gX4_placeOfRight_X4_whoHolds rfl (show 0 < 1 by omega) rfl rfl (na := 0) rfl (by decide +kernel) (by decide) (by decide) (Nat.le_of_ble_eq_true rfl) dX4_placeOfRight_1 (fun r1 g1 hp => ?_)
  obtain ⟨h1, rfl⟩ := hp
  cases h1
  refine g_istore_n (pc := 4) (ls' := [rv (D, E, true, B) 4 0, iv 0]) dX4_placeOfRight_4 (Nat.le_of_ble_eq_true rfl) (Nat.le_of_ble_eq_true rfl) rfl ?_
  refine g_iconst (pc := 5) (v := 0) dX4_placeOfRight_5 (by decide +kernel) ?_
  refine g_istore_n (pc := 6) (ls' := [rv (D, E, true, B) 4 0, iv 0, iv 0]) dX4_placeOfRight_6 (Nat.le_of_ble_eq_true rfl) (Nat.le_of_ble_eq_true rfl) rfl ?_
  refine g_iload_n (pc := 7) dX4_placeOfRight_7 rfl ?_
  refine g_aload_n (pc := 8) dX4_placeOfRight_8 rfl ?_
  refine fg_X4_placeOfRight_27 (pc := 9) dX4_placeOfRight_9 ?_
  refine fg_X4_placeOfRight_94 (pc := 12) (show 0 < 2 by omega) dX4_placeOfRight_12 ?_
  refine g_top (b := 0) (by decide +kernel) ?_
  refine g_icmp_ge (pc := 15) 83 dX4_placeOfRight_15 (by decide) (by decide) (by decide) (fun _ => ?_) (fun h => absurd (by decide) h)
  refine g_iload_n (pc := 83) dX4_placeOfRight_83 rfl ?_
  exact g_iret (pc := 84) dX4_placeOfRight_84 ⟨mg_narI _, Or.inl rfl⟩ ⟨rfl, rfl⟩
/-- X4_contains(3, 0) at qms6 -/
theorem qa241 (l : Launch) {D : va_G} {E : mg_E} {B : Nat} : mg_C l (D, E, true, B) mX4_contains [iv 3, iv 0] qms6 (fun v g' => v = some 1 ∧ g' = qms6) := by
  refine mg_C.of (by decide) rfl (Nat.le_of_ble_eq_true rfl) (List.forall_mem_cons.mpr ⟨rfl, (List.forall_mem_cons.mpr ⟨rfl, (fun _ h => nomatch h)⟩)⟩) (fun K => ?_)
  refine g_iload_n (pc := 0) dX4_contains_0 rfl ?_
  refine g_iconst (pc := 1) (v := 1) dX4_contains_1 (by decide +kernel) ?_
  refine g_iload_n (pc := 2) dX4_contains_2 rfl ?_
  refine g_ishl (pc := 3) (by decide) dX4_contains_3 ?_
  refine g_top (b := 1) (by decide +kernel) ?_
  refine g_iand (pc := 4) dX4_contains_4 ?_
  refine g_top (b := 1) (by decide +kernel) ?_
  refine g_if_eq (pc := 5) 12 dX4_contains_5 (by decide) (by decide) (fun h => absurd h (by decide)) (fun _ => ?_)
  refine g_iconst (pc := 8) (v := 1) dX4_contains_8 (by decide +kernel) ?_
  refine g_goto (pc := 9) 13 dX4_contains_9 (by decide) ?_
  exact g_iret (pc := 13) dX4_contains_13 ⟨mg_narZ (by decide), Or.inr rfl⟩ ⟨rfl, rfl⟩
/-- X4_join(r4.0, 0, 0) at qms6 -/
theorem qa242 (l : Launch) {D : va_G} {E : mg_E} {B : Nat} : mg_C l (D, E, true, B) mX4_join [rv (D, E, true, B) 4 0, iv 0, iv 0] qms6 (fun v g' => v = some 4294967295 ∧ g' = qms6) := by
  refine mg_C.of (by decide) rfl (Nat.le_of_ble_eq_true rfl) (List.forall_mem_cons.mpr ⟨rfl, (List.forall_mem_cons.mpr ⟨rfl, (List.forall_mem_cons.mpr ⟨rfl, (fun _ h => nomatch h)⟩)⟩)⟩) (fun K => ?_)
  refine g_aload_n (pc := 0) dX4_join_0 rfl ?_
  refine g_iload_n (pc := 1) dX4_join_1 rfl ?_
  refine g_callVi (pc := 2) (Y' := mX4_isStation) (As := [iv 0]) (st := []) (k := 4) (i := 0) (qa29 K.2.1) gX4_join_X4_isStation rfl (show 0 < 1 by omega) rfl rfl (na := 1) rfl (by decide +kernel) (by decide) (by decide) (Nat.le_of_ble_eq_true rfl) dX4_join_2 (fun r1 g1 hp => ?_)
  obtain ⟨h1, rfl⟩ := hp
  cases h1
  refine g_if_eq (pc := 5) 16 dX4_join_5 (by decide) (by decide) (fun h => absurd h (by decide)) (fun _ => ?_)
  refine g_aload_n (pc := 8) dX4_join_8 rfl ?_
  refine g_iload_n (pc := 9) dX4_join_9 rfl ?_
  refine g_callVi (pc := 10) (Y' := mX4_isStation) (As := [iv 0]) (st := []) (k := 4) (i := 0) (qa29 K.2.1) gX4_join_X4_isStation rfl (show 0 < 1 by omega) rfl rfl (na := 1) rfl (by decide +kernel) (by decide) (by decide) (Nat.le_of_ble_eq_true rfl) dX4_join_10 (fun r1 g1 hp => ?_)
  obtain ⟨h1, rfl⟩ := hp
  cases h1
  refine g_if_ne (pc := 13) 18 dX4_join_13 (by decide) (by decide) (fun _ => ?_) (fun h => absurd h (by decide))
  refine g_aload_n (pc := 18) dX4_join_18 rfl ?_
  refine fg_X4_join_10 (pc := 19) dX4_join_19 ?_
  refine g_iload_n (pc := 22) dX4_join_22 rfl ?_
  refine g_callVi (pc := 23) (Y' := mX0_partOf) (As := [iv 0]) (st := []) (k := 0) (i := 0) (qa238 K.2.1) gX4_join_X0_partOf rfl (show 0 < 1 by omega) rfl rfl (na := 1) rfl (by decide +kernel) (by decide) (by decide) (Nat.le_of_ble_eq_true rfl) dX4_join_23 (fun r1 g1 hp => ?_)
  obtain ⟨h1, rfl⟩ := hp
  cases h1
  refine g_istore_n (pc := 26) (ls' := [rv (D, E, true, B) 4 0, iv 0, iv 0, iv 3]) dX4_join_26 (Nat.le_of_ble_eq_true rfl) (Nat.le_of_ble_eq_true rfl) rfl ?_
  refine g_aload_n (pc := 27) dX4_join_27 rfl ?_
  refine g_callVi (pc := 28) (Y' := mX4_placeOfRight) (As := []) (st := []) (k := 4) (i := 0) (qa240 K.2.1) gX4_join_X4_placeOfRight rfl (show 0 < 1 by omega) rfl rfl (na := 0) rfl (by decide +kernel) (by decide) (by decide) (Nat.le_of_ble_eq_true rfl) dX4_join_28 (fun r1 g1 hp => ?_)
  obtain ⟨h1, rfl⟩ := hp
  cases h1
  refine g_istore (pc := 31) (ls' := [rv (D, E, true, B) 4 0, iv 0, iv 0, iv 3, iv 0]) dX4_join_31 (Nat.le_of_ble_eq_true rfl) (Nat.le_of_ble_eq_true rfl) rfl ?_
  refine g_iload_n (pc := 33) dX4_join_33 rfl ?_
  refine g_iload_n (pc := 34) dX4_join_34 rfl ?_
  refine g_callSi (pc := 35) (Y' := mX4_contains) (As := [iv 3, iv 0]) (st := []) (qa241 K.2.1) gX4_join_X4_contains rfl (na := 2) rfl (by decide +kernel) (by decide) (by decide) (Nat.le_of_ble_eq_true rfl) dX4_join_35 (fun r1 g1 hp => ?_)
  obtain ⟨h1, rfl⟩ := hp
  cases h1
  refine g_if_ne (pc := 38) 48 dX4_join_38 (by decide) (by decide) (fun _ => ?_) (fun h => absurd h (by decide))
  refine g_iconst (pc := 48) (v := 4294967295) dX4_join_48 (by decide +kernel) ?_
  exact g_iret (pc := 49) dX4_join_49 ⟨mg_narI _, Or.inl rfl⟩ ⟨rfl, rfl⟩
/-- X5_join(r5.0, 0, 0) at qms6 -/
theorem qa243 (l : Launch) {D : va_G} {E : mg_E} {B : Nat} : mg_C l (D, E, true, B) mX5_join [rv (D, E, true, B) 5 0, iv 0, iv 0] qms6 (fun v g' => v = some 4294967295 ∧ g' = qas6) := by
  refine mg_C.of (by decide) rfl (Nat.le_of_ble_eq_true rfl) (List.forall_mem_cons.mpr ⟨rfl, (List.forall_mem_cons.mpr ⟨rfl, (List.forall_mem_cons.mpr ⟨rfl, (fun _ h => nomatch h)⟩)⟩)⟩) (fun K => ?_)
  refine g_aload_n (pc := 0) dX5_join_0 rfl ?_
  refine g_callVi (pc := 1) (Y' := mX5_part) (As := []) (st := []) (k := 5) (i := 0) (qa10 K.2.1) gX5_join_X5_part rfl (show 0 < 1 by omega) rfl rfl (na := 0) rfl (by decide +kernel) (by decide) (by decide) (Nat.le_of_ble_eq_true rfl) dX5_join_1 (fun r1 g1 hp => ?_)
  obtain ⟨h1, rfl⟩ := hp
  cases h1
  refine g_istore_n (pc := 4) (ls' := [rv (D, E, true, B) 5 0, iv 0, iv 0, iv 1]) dX5_join_4 (Nat.le_of_ble_eq_true rfl) (Nat.le_of_ble_eq_true rfl) rfl ?_
  refine g_aload_n (pc := 5) dX5_join_5 rfl ?_
  refine fg_X5_join_105 (pc := 6) (by rfl) dX5_join_6 ?_
  refine g_top (b := 1) (by decide +kernel) ?_
  refine g_if_eq (pc := 9) 43 dX5_join_9 (by decide) (by decide) (fun h => absurd h (by decide)) (fun _ => ?_)
  refine g_aload_n (pc := 12) dX5_join_12 rfl ?_
  refine g_iload_n (pc := 13) dX5_join_13 rfl ?_
  refine g_callVi (pc := 14) (Y' := mX5_isStation) (As := [iv 0]) (st := []) (k := 5) (i := 0) (qa231 K.2.1) gX5_join_X5_isStation rfl (show 0 < 1 by omega) rfl rfl (na := 1) rfl (by decide +kernel) (by decide) (by decide) (Nat.le_of_ble_eq_true rfl) dX5_join_14 (fun r1 g1 hp => ?_)
  obtain ⟨h1, rfl⟩ := hp
  cases h1
  refine g_if_eq (pc := 17) 43 dX5_join_17 (by decide) (by decide) (fun h => absurd h (by decide)) (fun _ => ?_)
  refine g_aload_n (pc := 20) dX5_join_20 rfl ?_
  refine g_iload_n (pc := 21) dX5_join_21 rfl ?_
  refine g_callVi (pc := 22) (Y' := mX5_isStation) (As := [iv 0]) (st := []) (k := 5) (i := 0) (qa231 K.2.1) gX5_join_X5_isStation rfl (show 0 < 1 by omega) rfl rfl (na := 1) rfl (by decide +kernel) (by decide) (by decide) (Nat.le_of_ble_eq_true rfl) dX5_join_22 (fun r1 g1 hp => ?_)
  obtain ⟨h1, rfl⟩ := hp
  cases h1
  refine g_if_eq (pc := 25) 43 dX5_join_25 (by decide) (by decide) (fun h => absurd h (by decide)) (fun _ => ?_)
  refine g_aload_n (pc := 28) dX5_join_28 rfl ?_
  refine fg_X5_join_80 (pc := 29) (by rfl) dX5_join_29 ?_
  refine g_iload_n (pc := 32) dX5_join_32 rfl ?_
  refine g_iaload (pc := 33) (k := 61) (i := 0) (n := 24) (show 0 < 1 by omega) rfl (by decide) (by decide) dX5_join_33 ?_
  refine g_top (b := 0) (by decide +kernel) ?_
  refine g_aload_n (pc := 34) dX5_join_34 rfl ?_
  refine fg_X5_join_80 (pc := 35) (by rfl) dX5_join_35 ?_
  refine g_iload_n (pc := 38) dX5_join_38 rfl ?_
  refine g_iaload (pc := 39) (k := 61) (i := 0) (n := 24) (show 0 < 1 by omega) rfl (by decide) (by decide) dX5_join_39 ?_
  refine g_top (b := 0) (by decide +kernel) ?_
  refine g_icmp_ne (pc := 40) 45 dX5_join_40 (by decide) (by decide) (by decide) (fun h => absurd (by decide) h) (fun _ => ?_)
  refine g_iconst (pc := 43) (v := 4294967295) dX5_join_43 (by decide +kernel) ?_
  exact g_iret (pc := 44) dX5_join_44 ⟨mg_narI _, Or.inl rfl⟩ ⟨rfl, rfl⟩
/-- X4_join(r4.0, 0, 1) at qms6 -/
theorem qa244 (l : Launch) {D : va_G} {E : mg_E} {B : Nat} : mg_C l (D, E, true, B) mX4_join [rv (D, E, true, B) 4 0, iv 0, iv 1] qms6 (fun v g' => v = some 4294967295 ∧ g' = qms6) := by
  refine mg_C.of (by decide) rfl (Nat.le_of_ble_eq_true rfl) (List.forall_mem_cons.mpr ⟨rfl, (List.forall_mem_cons.mpr ⟨rfl, (List.forall_mem_cons.mpr ⟨rfl, (fun _ h => nomatch h)⟩)⟩)⟩) (fun K => ?_)
  refine g_aload_n (pc := 0) dX4_join_0 rfl ?_
  refine g_iload_n (pc := 1) dX4_join_1 rfl ?_
  refine g_callVi (pc := 2) (Y' := mX4_isStation) (As := [iv 0]) (st := []) (k := 4) (i := 0) (qa29 K.2.1) gX4_join_X4_isStation rfl (show 0 < 1 by omega) rfl rfl (na := 1) rfl (by decide +kernel) (by decide) (by decide) (Nat.le_of_ble_eq_true rfl) dX4_join_2 (fun r1 g1 hp => ?_)
  obtain ⟨h1, rfl⟩ := hp
  cases h1
  refine g_if_eq (pc := 5) 16 dX4_join_5 (by decide) (by decide) (fun h => absurd h (by decide)) (fun _ => ?_)
  refine g_aload_n (pc := 8) dX4_join_8 rfl ?_
  refine g_iload_n (pc := 9) dX4_join_9 rfl ?_
  refine g_callVi (pc := 10) (Y' := mX4_isStation) (As := [iv 1]) (st := []) (k := 4) (i := 0) (qa50 K.2.1) gX4_join_X4_isStation rfl (show 0 < 1 by omega) rfl rfl (na := 1) rfl (by decide +kernel) (by decide) (by decide) (Nat.le_of_ble_eq_true rfl) dX4_join_10 (fun r1 g1 hp => ?_)
  obtain ⟨h1, rfl⟩ := hp
  cases h1
  refine g_if_ne (pc := 13) 18 dX4_join_13 (by decide) (by decide) (fun _ => ?_) (fun h => absurd h (by decide))
  refine g_aload_n (pc := 18) dX4_join_18 rfl ?_
  refine fg_X4_join_10 (pc := 19) dX4_join_19 ?_
  refine g_iload_n (pc := 22) dX4_join_22 rfl ?_
  refine g_callVi (pc := 23) (Y' := mX0_partOf) (As := [iv 0]) (st := []) (k := 0) (i := 0) (qa238 K.2.1) gX4_join_X0_partOf rfl (show 0 < 1 by omega) rfl rfl (na := 1) rfl (by decide +kernel) (by decide) (by decide) (Nat.le_of_ble_eq_true rfl) dX4_join_23 (fun r1 g1 hp => ?_)
  obtain ⟨h1, rfl⟩ := hp
  cases h1
  refine g_istore_n (pc := 26) (ls' := [rv (D, E, true, B) 4 0, iv 0, iv 1, iv 3]) dX4_join_26 (Nat.le_of_ble_eq_true rfl) (Nat.le_of_ble_eq_true rfl) rfl ?_
  refine g_aload_n (pc := 27) dX4_join_27 rfl ?_
  refine g_callVi (pc := 28) (Y' := mX4_placeOfRight) (As := []) (st := []) (k := 4) (i := 0) (qa240 K.2.1) gX4_join_X4_placeOfRight rfl (show 0 < 1 by omega) rfl rfl (na := 0) rfl (by decide +kernel) (by decide) (by decide) (Nat.le_of_ble_eq_true rfl) dX4_join_28 (fun r1 g1 hp => ?_)
  obtain ⟨h1, rfl⟩ := hp
  cases h1
  refine g_istore (pc := 31) (ls' := [rv (D, E, true, B) 4 0, iv 0, iv 1, iv 3, iv 0]) dX4_join_31 (Nat.le_of_ble_eq_true rfl) (Nat.le_of_ble_eq_true rfl) rfl ?_
  refine g_iload_n (pc := 33) dX4_join_33 rfl ?_
  refine g_iload_n (pc := 34) dX4_join_34 rfl ?_
  refine g_callSi (pc := 35) (Y' := mX4_contains) (As := [iv 3, iv 1]) (st := []) (qa237 K.2.1) gX4_join_X4_contains rfl (na := 2) rfl (by decide +kernel) (by decide) (by decide) (Nat.le_of_ble_eq_true rfl) dX4_join_35 (fun r1 g1 hp => ?_)
  obtain ⟨h1, rfl⟩ := hp
  cases h1
  refine g_if_ne (pc := 38) 48 dX4_join_38 (by decide) (by decide) (fun _ => ?_) (fun h => absurd h (by decide))
  refine g_iconst (pc := 48) (v := 4294967295) dX4_join_48 (by decide +kernel) ?_
  exact g_iret (pc := 49) dX4_join_49 ⟨mg_narI _, Or.inl rfl⟩ ⟨rfl, rfl⟩
/-- X5_isStation(r5.0, 1) at qas6 -/
theorem qa245 (l : Launch) {D : va_G} {E : mg_E} {B : Nat} : mg_C l (D, E, true, B) mX5_isStation [rv (D, E, true, B) 5 0, iv 1] qas6 (fun v g' => v = some 1 ∧ g' = qas6) := by
  refine mg_C.of (by decide) rfl (Nat.le_of_ble_eq_true rfl) (List.forall_mem_cons.mpr ⟨rfl, (List.forall_mem_cons.mpr ⟨rfl, (fun _ h => nomatch h)⟩)⟩) (fun K => ?_)
  refine g_iload_n (pc := 0) dX5_isStation_0 rfl ?_
  refine g_sif_lt (pc := 1) 16 dX5_isStation_1 (by decide) (by decide) (fun h => absurd h (by decide)) (fun _ => ?_)
  refine g_iload_n (pc := 4) dX5_isStation_4 rfl ?_
  refine g_aload_n (pc := 5) dX5_isStation_5 rfl ?_
  refine fg_X5_isStation_101 (pc := 6) (by rfl) dX5_isStation_6 ?_
  refine g_top (b := 2) (by decide +kernel) ?_
  refine g_icmp_ge (pc := 9) 16 dX5_isStation_9 (by decide) (by decide) (by decide) (fun h => absurd h (by decide)) (fun _ => ?_)
  refine g_iconst (pc := 12) (v := 1) dX5_isStation_12 (by decide +kernel) ?_
  refine g_goto (pc := 13) 17 dX5_isStation_13 (by decide) ?_
  exact g_iret (pc := 17) dX5_isStation_17 ⟨mg_narZ (by decide), Or.inr rfl⟩ ⟨rfl, rfl⟩
/-- X5_join(r5.0, 0, 1) at qms6 -/
theorem qa246 (l : Launch) {D : va_G} {E : mg_E} {B : Nat} : mg_C l (D, E, true, B) mX5_join [rv (D, E, true, B) 5 0, iv 0, iv 1] qms6 (fun v g' => v = some 4294967295 ∧ g' = qas6) := by
  refine mg_C.of (by decide) rfl (Nat.le_of_ble_eq_true rfl) (List.forall_mem_cons.mpr ⟨rfl, (List.forall_mem_cons.mpr ⟨rfl, (List.forall_mem_cons.mpr ⟨rfl, (fun _ h => nomatch h)⟩)⟩)⟩) (fun K => ?_)
  refine g_aload_n (pc := 0) dX5_join_0 rfl ?_
  refine g_callVi (pc := 1) (Y' := mX5_part) (As := []) (st := []) (k := 5) (i := 0) (qa10 K.2.1) gX5_join_X5_part rfl (show 0 < 1 by omega) rfl rfl (na := 0) rfl (by decide +kernel) (by decide) (by decide) (Nat.le_of_ble_eq_true rfl) dX5_join_1 (fun r1 g1 hp => ?_)
  obtain ⟨h1, rfl⟩ := hp
  cases h1
  refine g_istore_n (pc := 4) (ls' := [rv (D, E, true, B) 5 0, iv 0, iv 1, iv 1]) dX5_join_4 (Nat.le_of_ble_eq_true rfl) (Nat.le_of_ble_eq_true rfl) rfl ?_
  refine g_aload_n (pc := 5) dX5_join_5 rfl ?_
  refine fg_X5_join_105 (pc := 6) (by rfl) dX5_join_6 ?_
  refine g_top (b := 1) (by decide +kernel) ?_
  refine g_if_eq (pc := 9) 43 dX5_join_9 (by decide) (by decide) (fun h => absurd h (by decide)) (fun _ => ?_)
  refine g_aload_n (pc := 12) dX5_join_12 rfl ?_
  refine g_iload_n (pc := 13) dX5_join_13 rfl ?_
  refine g_callVi (pc := 14) (Y' := mX5_isStation) (As := [iv 0]) (st := []) (k := 5) (i := 0) (qa231 K.2.1) gX5_join_X5_isStation rfl (show 0 < 1 by omega) rfl rfl (na := 1) rfl (by decide +kernel) (by decide) (by decide) (Nat.le_of_ble_eq_true rfl) dX5_join_14 (fun r1 g1 hp => ?_)
  obtain ⟨h1, rfl⟩ := hp
  cases h1
  refine g_if_eq (pc := 17) 43 dX5_join_17 (by decide) (by decide) (fun h => absurd h (by decide)) (fun _ => ?_)
  refine g_aload_n (pc := 20) dX5_join_20 rfl ?_
  refine g_iload_n (pc := 21) dX5_join_21 rfl ?_
  refine g_callVi (pc := 22) (Y' := mX5_isStation) (As := [iv 1]) (st := []) (k := 5) (i := 0) (qa245 K.2.1) gX5_join_X5_isStation rfl (show 0 < 1 by omega) rfl rfl (na := 1) rfl (by decide +kernel) (by decide) (by decide) (Nat.le_of_ble_eq_true rfl) dX5_join_22 (fun r1 g1 hp => ?_)
  obtain ⟨h1, rfl⟩ := hp
  cases h1
  refine g_if_eq (pc := 25) 43 dX5_join_25 (by decide) (by decide) (fun h => absurd h (by decide)) (fun _ => ?_)
  refine g_aload_n (pc := 28) dX5_join_28 rfl ?_
  refine fg_X5_join_80 (pc := 29) (by rfl) dX5_join_29 ?_
  refine g_iload_n (pc := 32) dX5_join_32 rfl ?_
  refine g_iaload (pc := 33) (k := 61) (i := 0) (n := 24) (show 0 < 1 by omega) rfl (by decide) (by decide) dX5_join_33 ?_
  refine g_top (b := 0) (by decide +kernel) ?_
  refine g_aload_n (pc := 34) dX5_join_34 rfl ?_
  refine fg_X5_join_80 (pc := 35) (by rfl) dX5_join_35 ?_
  refine g_iload_n (pc := 38) dX5_join_38 rfl ?_
  refine g_iaload (pc := 39) (k := 61) (i := 0) (n := 24) (show 0 < 1 by omega) rfl (by decide) (by decide) dX5_join_39 ?_
  refine g_top (b := 0) (by decide +kernel) ?_
  refine g_icmp_ne (pc := 40) 45 dX5_join_40 (by decide) (by decide) (by decide) (fun h => absurd (by decide) h) (fun _ => ?_)
  refine g_iconst (pc := 43) (v := 4294967295) dX5_join_43 (by decide +kernel) ?_
  exact g_iret (pc := 44) dX5_join_44 ⟨mg_narI _, Or.inl rfl⟩ ⟨rfl, rfl⟩
/-- X4_join(r4.0, 1, b[2147483648,4294967295]) at qms6 -/
theorem qa247 (l : Launch) {D : va_G} {E : mg_E} {B : Nat} (b : Nat) (h_b : 2147483648 ≤ b) (k_b : b ≤ 4294967295) : mg_C l (D, E, true, B) mX4_join [rv (D, E, true, B) 4 0, iv 1, iv b] qms6 (fun v g' => v = some 4294967295 ∧ g' = qms6) := by
  refine mg_C.of (by decide) rfl (Nat.le_of_ble_eq_true rfl) (List.forall_mem_cons.mpr ⟨rfl, (List.forall_mem_cons.mpr ⟨rfl, (List.forall_mem_cons.mpr ⟨rfl, (fun _ h => nomatch h)⟩)⟩)⟩) (fun K => ?_)
  refine g_aload_n (pc := 0) dX4_join_0 rfl ?_
  refine g_iload_n (pc := 1) dX4_join_1 rfl ?_
  refine g_callVi (pc := 2) (Y' := mX4_isStation) (As := [iv 1]) (st := []) (k := 4) (i := 0) (qa50 K.2.1) gX4_join_X4_isStation rfl (show 0 < 1 by omega) rfl rfl (na := 1) rfl (by decide +kernel) (by decide) (by decide) (Nat.le_of_ble_eq_true rfl) dX4_join_2 (fun r1 g1 hp => ?_)
  obtain ⟨h1, rfl⟩ := hp
  cases h1
  refine g_if_eq (pc := 5) 16 dX4_join_5 (by decide) (by decide) (fun h => absurd h (by decide)) (fun _ => ?_)
  refine g_aload_n (pc := 8) dX4_join_8 rfl ?_
  refine g_iload_n (pc := 9) dX4_join_9 rfl ?_
  refine g_callVi (pc := 10) (Y' := mX4_isStation) (As := [iv b]) (st := []) (k := 4) (i := 0) (qa167 K.2.1 b h_b k_b) gX4_join_X4_isStation rfl (show 0 < 1 by omega) rfl rfl (na := 1) rfl (by decide +kernel) (by decide) (by decide) (Nat.le_of_ble_eq_true rfl) dX4_join_10 (fun r1 g1 hp => ?_)
  obtain ⟨h1, rfl⟩ := hp
  cases h1
  refine g_if_ne (pc := 13) 18 dX4_join_13 (by decide) (by decide) (fun h => absurd (by decide) h) (fun _ => ?_)
  refine g_iconst (pc := 16) (v := 4294967295) dX4_join_16 (by decide +kernel) ?_
  exact g_iret (pc := 17) dX4_join_17 ⟨mg_narI _, Or.inl rfl⟩ ⟨rfl, rfl⟩
/-- X5_join(r5.0, 1, b[2147483648,4294967295]) at qms6 -/
theorem qa248 (l : Launch) {D : va_G} {E : mg_E} {B : Nat} (b : Nat) (h_b : 2147483648 ≤ b) (k_b : b ≤ 4294967295) : mg_C l (D, E, true, B) mX5_join [rv (D, E, true, B) 5 0, iv 1, iv b] qms6 (fun v g' => v = some 4294967295 ∧ g' = qas6) := by
  refine mg_C.of (by decide) rfl (Nat.le_of_ble_eq_true rfl) (List.forall_mem_cons.mpr ⟨rfl, (List.forall_mem_cons.mpr ⟨rfl, (List.forall_mem_cons.mpr ⟨rfl, (fun _ h => nomatch h)⟩)⟩)⟩) (fun K => ?_)
  refine g_aload_n (pc := 0) dX5_join_0 rfl ?_
  refine g_callVi (pc := 1) (Y' := mX5_part) (As := []) (st := []) (k := 5) (i := 0) (qa10 K.2.1) gX5_join_X5_part rfl (show 0 < 1 by omega) rfl rfl (na := 0) rfl (by decide +kernel) (by decide) (by decide) (Nat.le_of_ble_eq_true rfl) dX5_join_1 (fun r1 g1 hp => ?_)
  obtain ⟨h1, rfl⟩ := hp
  cases h1
  refine g_istore_n (pc := 4) (ls' := [rv (D, E, true, B) 5 0, iv 1, iv b, iv 1]) dX5_join_4 (Nat.le_of_ble_eq_true rfl) (Nat.le_of_ble_eq_true rfl) rfl ?_
  refine g_aload_n (pc := 5) dX5_join_5 rfl ?_
  refine fg_X5_join_105 (pc := 6) (by rfl) dX5_join_6 ?_
  refine g_top (b := 1) (by decide +kernel) ?_
  refine g_if_eq (pc := 9) 43 dX5_join_9 (by decide) (by decide) (fun h => absurd h (by decide)) (fun _ => ?_)
  refine g_aload_n (pc := 12) dX5_join_12 rfl ?_
  refine g_iload_n (pc := 13) dX5_join_13 rfl ?_
  refine g_callVi (pc := 14) (Y' := mX5_isStation) (As := [iv 1]) (st := []) (k := 5) (i := 0) (qa245 K.2.1) gX5_join_X5_isStation rfl (show 0 < 1 by omega) rfl rfl (na := 1) rfl (by decide +kernel) (by decide) (by decide) (Nat.le_of_ble_eq_true rfl) dX5_join_14 (fun r1 g1 hp => ?_)
  obtain ⟨h1, rfl⟩ := hp
  cases h1
  refine g_if_eq (pc := 17) 43 dX5_join_17 (by decide) (by decide) (fun h => absurd h (by decide)) (fun _ => ?_)
  refine g_aload_n (pc := 20) dX5_join_20 rfl ?_
  refine g_iload_n (pc := 21) dX5_join_21 rfl ?_
  refine g_callVi (pc := 22) (Y' := mX5_isStation) (As := [iv b]) (st := []) (k := 5) (i := 0) (qa232 K.2.1 b h_b k_b) gX5_join_X5_isStation rfl (show 0 < 1 by omega) rfl rfl (na := 1) rfl (by decide +kernel) (by decide) (by decide) (Nat.le_of_ble_eq_true rfl) dX5_join_22 (fun r1 g1 hp => ?_)
  obtain ⟨h1, rfl⟩ := hp
  cases h1
  refine g_if_eq (pc := 25) 43 dX5_join_25 (by decide) (by decide) (fun _ => ?_) (fun h => absurd (by decide) h)
  refine g_iconst (pc := 43) (v := 4294967295) dX5_join_43 (by decide +kernel) ?_
  exact g_iret (pc := 44) dX5_join_44 ⟨mg_narI _, Or.inl rfl⟩ ⟨rfl, rfl⟩
/-- X4_join(r4.0, 1, b[2,2147483647]) at qms6 -/
theorem qa249 (l : Launch) {D : va_G} {E : mg_E} {B : Nat} (b : Nat) (h_b : 2 ≤ b) (k_b : b ≤ 2147483647) : mg_C l (D, E, true, B) mX4_join [rv (D, E, true, B) 4 0, iv 1, iv b] qms6 (fun v g' => v = some 4294967295 ∧ g' = qms6) := by
  refine mg_C.of (by decide) rfl (Nat.le_of_ble_eq_true rfl) (List.forall_mem_cons.mpr ⟨rfl, (List.forall_mem_cons.mpr ⟨rfl, (List.forall_mem_cons.mpr ⟨rfl, (fun _ h => nomatch h)⟩)⟩)⟩) (fun K => ?_)
  refine g_aload_n (pc := 0) dX4_join_0 rfl ?_
  refine g_iload_n (pc := 1) dX4_join_1 rfl ?_
  refine g_callVi (pc := 2) (Y' := mX4_isStation) (As := [iv 1]) (st := []) (k := 4) (i := 0) (qa50 K.2.1) gX4_join_X4_isStation rfl (show 0 < 1 by omega) rfl rfl (na := 1) rfl (by decide +kernel) (by decide) (by decide) (Nat.le_of_ble_eq_true rfl) dX4_join_2 (fun r1 g1 hp => ?_)
  obtain ⟨h1, rfl⟩ := hp
  cases h1
  refine g_if_eq (pc := 5) 16 dX4_join_5 (by decide) (by decide) (fun h => absurd h (by decide)) (fun _ => ?_)
  refine g_aload_n (pc := 8) dX4_join_8 rfl ?_
  refine g_iload_n (pc := 9) dX4_join_9 rfl ?_
  refine g_callVi (pc := 10) (Y' := mX4_isStation) (As := [iv b]) (st := []) (k := 4) (i := 0) (qa172 K.2.1 b h_b k_b) gX4_join_X4_isStation rfl (show 0 < 1 by omega) rfl rfl (na := 1) rfl (by decide +kernel) (by decide) (by decide) (Nat.le_of_ble_eq_true rfl) dX4_join_10 (fun r1 g1 hp => ?_)
  obtain ⟨h1, rfl⟩ := hp
  cases h1
  refine g_if_ne (pc := 13) 18 dX4_join_13 (by decide) (by decide) (fun h => absurd (by decide) h) (fun _ => ?_)
  refine g_iconst (pc := 16) (v := 4294967295) dX4_join_16 (by decide +kernel) ?_
  exact g_iret (pc := 17) dX4_join_17 ⟨mg_narI _, Or.inl rfl⟩ ⟨rfl, rfl⟩
/-- X5_join(r5.0, 1, b[2,2147483647]) at qms6 -/
theorem qa250 (l : Launch) {D : va_G} {E : mg_E} {B : Nat} (b : Nat) (h_b : 2 ≤ b) (k_b : b ≤ 2147483647) : mg_C l (D, E, true, B) mX5_join [rv (D, E, true, B) 5 0, iv 1, iv b] qms6 (fun v g' => v = some 4294967295 ∧ g' = qas6) := by
  refine mg_C.of (by decide) rfl (Nat.le_of_ble_eq_true rfl) (List.forall_mem_cons.mpr ⟨rfl, (List.forall_mem_cons.mpr ⟨rfl, (List.forall_mem_cons.mpr ⟨rfl, (fun _ h => nomatch h)⟩)⟩)⟩) (fun K => ?_)
  refine g_aload_n (pc := 0) dX5_join_0 rfl ?_
  refine g_callVi (pc := 1) (Y' := mX5_part) (As := []) (st := []) (k := 5) (i := 0) (qa10 K.2.1) gX5_join_X5_part rfl (show 0 < 1 by omega) rfl rfl (na := 0) rfl (by decide +kernel) (by decide) (by decide) (Nat.le_of_ble_eq_true rfl) dX5_join_1 (fun r1 g1 hp => ?_)
  obtain ⟨h1, rfl⟩ := hp
  cases h1
  refine g_istore_n (pc := 4) (ls' := [rv (D, E, true, B) 5 0, iv 1, iv b, iv 1]) dX5_join_4 (Nat.le_of_ble_eq_true rfl) (Nat.le_of_ble_eq_true rfl) rfl ?_
  refine g_aload_n (pc := 5) dX5_join_5 rfl ?_
  refine fg_X5_join_105 (pc := 6) (by rfl) dX5_join_6 ?_
  refine g_top (b := 1) (by decide +kernel) ?_
  refine g_if_eq (pc := 9) 43 dX5_join_9 (by decide) (by decide) (fun h => absurd h (by decide)) (fun _ => ?_)
  refine g_aload_n (pc := 12) dX5_join_12 rfl ?_
  refine g_iload_n (pc := 13) dX5_join_13 rfl ?_
  refine g_callVi (pc := 14) (Y' := mX5_isStation) (As := [iv 1]) (st := []) (k := 5) (i := 0) (qa245 K.2.1) gX5_join_X5_isStation rfl (show 0 < 1 by omega) rfl rfl (na := 1) rfl (by decide +kernel) (by decide) (by decide) (Nat.le_of_ble_eq_true rfl) dX5_join_14 (fun r1 g1 hp => ?_)
  obtain ⟨h1, rfl⟩ := hp
  cases h1
  refine g_if_eq (pc := 17) 43 dX5_join_17 (by decide) (by decide) (fun h => absurd h (by decide)) (fun _ => ?_)
  refine g_aload_n (pc := 20) dX5_join_20 rfl ?_
  refine g_iload_n (pc := 21) dX5_join_21 rfl ?_
  refine g_callVi (pc := 22) (Y' := mX5_isStation) (As := [iv b]) (st := []) (k := 5) (i := 0) (qa235 K.2.1 b h_b k_b) gX5_join_X5_isStation rfl (show 0 < 1 by omega) rfl rfl (na := 1) rfl (by decide +kernel) (by decide) (by decide) (Nat.le_of_ble_eq_true rfl) dX5_join_22 (fun r1 g1 hp => ?_)
  obtain ⟨h1, rfl⟩ := hp
  cases h1
  refine g_if_eq (pc := 25) 43 dX5_join_25 (by decide) (by decide) (fun _ => ?_) (fun h => absurd (by decide) h)
  refine g_iconst (pc := 43) (v := 4294967295) dX5_join_43 (by decide +kernel) ?_
  exact g_iret (pc := 44) dX5_join_44 ⟨mg_narI _, Or.inl rfl⟩ ⟨rfl, rfl⟩
/-- X0_partOf(r0.0, 1) at qms6 -/
theorem qa251 (l : Launch) {D : va_G} {E : mg_E} {B : Nat} : mg_C l (D, E, true, B) mX0_partOf [rv (D, E, true, B) 0 0, iv 1] qms6 (fun v g' => v = some 3 ∧ g' = qms6) := by
  refine mg_C.of (by decide) rfl (Nat.le_of_ble_eq_true rfl) (List.forall_mem_cons.mpr ⟨rfl, (List.forall_mem_cons.mpr ⟨rfl, (fun _ h => nomatch h)⟩)⟩) (fun K => ?_)
  refine g_iconst (pc := 0) (v := 1) dX0_partOf_0 (by decide +kernel) ?_
  refine g_iload_n (pc := 1) dX0_partOf_1 rfl ?_
  refine g_ishl (pc := 2) (by decide) dX0_partOf_2 ?_
  refine g_top (b := 2) (by decide +kernel) ?_
  refine g_istore_n (pc := 3) (ls' := [rv (D, E, true, B) 0 0, iv 1, iv 2]) dX0_partOf_3 (Nat.le_of_ble_eq_true rfl) (Nat.le_of_ble_eq_true rfl) rfl ?_
  refine g_iconst (pc := 4) (v := 1) dX0_partOf_4 (by decide +kernel) ?_
  refine g_istore_n (pc := 5) (ls' := [rv (D, E, true, B) 0 0, iv 1, iv 2, iv 1]) dX0_partOf_5 (Nat.le_of_ble_eq_true rfl) (Nat.le_of_ble_eq_true rfl) rfl ?_
  refine g_iload_n (pc := 6) dX0_partOf_6 rfl ?_
  refine g_aload_n (pc := 7) dX0_partOf_7 rfl ?_
  refine fg_X0_partOf_21 (pc := 8) dX0_partOf_8 ?_
  refine g_top (b := 2) (by decide +kernel) ?_
  refine g_icmp_ge (pc := 11) 57 dX0_partOf_11 (by decide) (by decide) (by decide) (fun h => absurd h (by decide)) (fun _ => ?_)
  refine g_iconst (pc := 14) (v := 0) dX0_partOf_14 (by decide +kernel) ?_
  refine g_istore (pc := 15) (ls' := [rv (D, E, true, B) 0 0, iv 1, iv 2, iv 1, iv 0]) dX0_partOf_15 (Nat.le_of_ble_eq_true rfl) (Nat.le_of_ble_eq_true rfl) rfl ?_
  refine g_iload (pc := 17) dX0_partOf_17 rfl ?_
  refine g_aload_n (pc := 19) dX0_partOf_19 rfl ?_
  refine fg_X0_partOf_21 (pc := 20) dX0_partOf_20 ?_
  refine g_top (b := 2) (by decide +kernel) ?_
  refine g_icmp_ge (pc := 23) 51 dX0_partOf_23 (by decide) (by decide) (by decide) (fun h => absurd h (by decide)) (fun _ => ?_)
  refine g_iload_n (pc := 26) dX0_partOf_26 rfl ?_
  refine g_iload (pc := 27) dX0_partOf_27 rfl ?_
  refine g_callNi (pc := 29) (Y' := mX4_contains) (As := [iv 2, iv 0]) (st := []) (qa176 K.2.1) gX0_partOf_X4_contains_n28 rfl (fun _ h => h.2.2.1) (by decide +kernel) (by decide +kernel) (na := 2) rfl (by decide +kernel) (by decide) (by decide) (Nat.le_of_ble_eq_true rfl) dX0_partOf_29 (fun r1 g1 hp => ?_)
  obtain ⟨h1, rfl⟩ := hp
  cases h1
  refine g_if_eq (pc := 32) 45 dX0_partOf_32 (by decide) (by decide) (fun _ => ?_) (fun h => absurd (by decide) h)
  refine g_iinc (pc := 45) (v := 1) (ls' := [rv (D, E, true, B) 0 0, iv 1, iv 2, iv 1, iv 1]) dX0_partOf_45 (Nat.le_of_ble_eq_true rfl) rfl (by decide +kernel) rfl ?_
  refine g_goto (pc := 48) 17 dX0_partOf_48 (by decide) ?_
  refine g_iload (pc := 17) dX0_partOf_17 rfl ?_
  refine g_aload_n (pc := 19) dX0_partOf_19 rfl ?_
  refine fg_X0_partOf_21 (pc := 20) dX0_partOf_20 ?_
  refine g_top (b := 2) (by decide +kernel) ?_
  refine g_icmp_ge (pc := 23) 51 dX0_partOf_23 (by decide) (by decide) (by decide) (fun h => absurd h (by decide)) (fun _ => ?_)
  refine g_iload_n (pc := 26) dX0_partOf_26 rfl ?_
  refine g_iload (pc := 27) dX0_partOf_27 rfl ?_
  refine g_callNi (pc := 29) (Y' := mX4_contains) (As := [iv 2, iv 1]) (st := []) (qa180 K.2.1) gX0_partOf_X4_contains_n28 rfl (fun _ h => h.2.2.1) (by decide +kernel) (by decide +kernel) (na := 2) rfl (by decide +kernel) (by decide) (by decide) (Nat.le_of_ble_eq_true rfl) dX0_partOf_29 (fun r1 g1 hp => ?_)
  obtain ⟨h1, rfl⟩ := hp
  cases h1
  refine g_if_eq (pc := 32) 45 dX0_partOf_32 (by decide) (by decide) (fun h => absurd h (by decide)) (fun _ => ?_)
  refine g_iload_n (pc := 35) dX0_partOf_35 rfl ?_
  refine g_aload_n (pc := 36) dX0_partOf_36 rfl ?_
  refine fg_X0_partOf_9 (pc := 37) dX0_partOf_37 ?_
  refine g_iload (pc := 40) dX0_partOf_40 rfl ?_
  refine g_iaload (pc := 42) (k := 10) (i := 0) (n := 24) (show 0 < 1 by omega) rfl (by decide) (by decide) dX0_partOf_42 ?_
  refine g_top (b := 1) (by decide +kernel) ?_
  refine g_ior (pc := 43) dX0_partOf_43 ?_
  refine g_top (b := 3) (by decide +kernel) ?_
  refine g_istore_n (pc := 44) (ls' := [rv (D, E, true, B) 0 0, iv 1, iv 3, iv 1, iv 1]) dX0_partOf_44 (Nat.le_of_ble_eq_true rfl) (Nat.le_of_ble_eq_true rfl) rfl ?_
  refine g_iinc (pc := 45) (v := 2) (ls' := [rv (D, E, true, B) 0 0, iv 1, iv 3, iv 1, iv 2]) dX0_partOf_45 (Nat.le_of_ble_eq_true rfl) rfl (by decide +kernel) rfl ?_
  refine g_goto (pc := 48) 17 dX0_partOf_48 (by decide) ?_
  refine g_iload (pc := 17) dX0_partOf_17 rfl ?_
  refine g_aload_n (pc := 19) dX0_partOf_19 rfl ?_
  refine fg_X0_partOf_21 (pc := 20) dX0_partOf_20 ?_
  refine g_top (b := 2) (by decide +kernel) ?_
  refine g_icmp_ge (pc := 23) 51 dX0_partOf_23 (by decide) (by decide) (by decide) (fun _ => ?_) (fun h => absurd (by decide) h)
  refine g_iinc (pc := 51) (v := 2) (ls' := [rv (D, E, true, B) 0 0, iv 1, iv 3, iv 2, iv 2]) dX0_partOf_51 (Nat.le_of_ble_eq_true rfl) rfl (by decide +kernel) rfl ?_
  refine g_goto (pc := 54) 6 dX0_partOf_54 (by decide) ?_
  refine g_iload_n (pc := 6) dX0_partOf_6 rfl ?_
  refine g_aload_n (pc := 7) dX0_partOf_7 rfl ?_
  refine fg_X0_partOf_21 (pc := 8) dX0_partOf_8 ?_
  refine g_top (b := 2) (by decide +kernel) ?_
  refine g_icmp_ge (pc := 11) 57 dX0_partOf_11 (by decide) (by decide) (by decide) (fun _ => ?_) (fun h => absurd (by decide) h)
  refine g_iload_n (pc := 57) dX0_partOf_57 rfl ?_
  exact g_iret (pc := 58) dX0_partOf_58 ⟨mg_narI _, Or.inl rfl⟩ ⟨rfl, rfl⟩
/-- X4_join(r4.0, 1, 0) at qms6 -/
theorem qa252 (l : Launch) {D : va_G} {E : mg_E} {B : Nat} : mg_C l (D, E, true, B) mX4_join [rv (D, E, true, B) 4 0, iv 1, iv 0] qms6 (fun v g' => v = some 4294967295 ∧ g' = qms6) := by
  refine mg_C.of (by decide) rfl (Nat.le_of_ble_eq_true rfl) (List.forall_mem_cons.mpr ⟨rfl, (List.forall_mem_cons.mpr ⟨rfl, (List.forall_mem_cons.mpr ⟨rfl, (fun _ h => nomatch h)⟩)⟩)⟩) (fun K => ?_)
  refine g_aload_n (pc := 0) dX4_join_0 rfl ?_
  refine g_iload_n (pc := 1) dX4_join_1 rfl ?_
  refine g_callVi (pc := 2) (Y' := mX4_isStation) (As := [iv 1]) (st := []) (k := 4) (i := 0) (qa50 K.2.1) gX4_join_X4_isStation rfl (show 0 < 1 by omega) rfl rfl (na := 1) rfl (by decide +kernel) (by decide) (by decide) (Nat.le_of_ble_eq_true rfl) dX4_join_2 (fun r1 g1 hp => ?_)
  obtain ⟨h1, rfl⟩ := hp
  cases h1
  refine g_if_eq (pc := 5) 16 dX4_join_5 (by decide) (by decide) (fun h => absurd h (by decide)) (fun _ => ?_)
  refine g_aload_n (pc := 8) dX4_join_8 rfl ?_
  refine g_iload_n (pc := 9) dX4_join_9 rfl ?_
  refine g_callVi (pc := 10) (Y' := mX4_isStation) (As := [iv 0]) (st := []) (k := 4) (i := 0) (qa29 K.2.1) gX4_join_X4_isStation rfl (show 0 < 1 by omega) rfl rfl (na := 1) rfl (by decide +kernel) (by decide) (by decide) (Nat.le_of_ble_eq_true rfl) dX4_join_10 (fun r1 g1 hp => ?_)
  obtain ⟨h1, rfl⟩ := hp
  cases h1
  refine g_if_ne (pc := 13) 18 dX4_join_13 (by decide) (by decide) (fun _ => ?_) (fun h => absurd h (by decide))
  refine g_aload_n (pc := 18) dX4_join_18 rfl ?_
  refine fg_X4_join_10 (pc := 19) dX4_join_19 ?_
  refine g_iload_n (pc := 22) dX4_join_22 rfl ?_
  refine g_callVi (pc := 23) (Y' := mX0_partOf) (As := [iv 1]) (st := []) (k := 0) (i := 0) (qa251 K.2.1) gX4_join_X0_partOf rfl (show 0 < 1 by omega) rfl rfl (na := 1) rfl (by decide +kernel) (by decide) (by decide) (Nat.le_of_ble_eq_true rfl) dX4_join_23 (fun r1 g1 hp => ?_)
  obtain ⟨h1, rfl⟩ := hp
  cases h1
  refine g_istore_n (pc := 26) (ls' := [rv (D, E, true, B) 4 0, iv 1, iv 0, iv 3]) dX4_join_26 (Nat.le_of_ble_eq_true rfl) (Nat.le_of_ble_eq_true rfl) rfl ?_
  refine g_aload_n (pc := 27) dX4_join_27 rfl ?_
  refine g_callVi (pc := 28) (Y' := mX4_placeOfRight) (As := []) (st := []) (k := 4) (i := 0) (qa240 K.2.1) gX4_join_X4_placeOfRight rfl (show 0 < 1 by omega) rfl rfl (na := 0) rfl (by decide +kernel) (by decide) (by decide) (Nat.le_of_ble_eq_true rfl) dX4_join_28 (fun r1 g1 hp => ?_)
  obtain ⟨h1, rfl⟩ := hp
  cases h1
  refine g_istore (pc := 31) (ls' := [rv (D, E, true, B) 4 0, iv 1, iv 0, iv 3, iv 0]) dX4_join_31 (Nat.le_of_ble_eq_true rfl) (Nat.le_of_ble_eq_true rfl) rfl ?_
  refine g_iload_n (pc := 33) dX4_join_33 rfl ?_
  refine g_iload_n (pc := 34) dX4_join_34 rfl ?_
  refine g_callSi (pc := 35) (Y' := mX4_contains) (As := [iv 3, iv 0]) (st := []) (qa241 K.2.1) gX4_join_X4_contains rfl (na := 2) rfl (by decide +kernel) (by decide) (by decide) (Nat.le_of_ble_eq_true rfl) dX4_join_35 (fun r1 g1 hp => ?_)
  obtain ⟨h1, rfl⟩ := hp
  cases h1
  refine g_if_ne (pc := 38) 48 dX4_join_38 (by decide) (by decide) (fun _ => ?_) (fun h => absurd h (by decide))
  refine g_iconst (pc := 48) (v := 4294967295) dX4_join_48 (by decide +kernel) ?_
  exact g_iret (pc := 49) dX4_join_49 ⟨mg_narI _, Or.inl rfl⟩ ⟨rfl, rfl⟩
/-- X5_join(r5.0, 1, 0) at qms6 -/
theorem qa253 (l : Launch) {D : va_G} {E : mg_E} {B : Nat} : mg_C l (D, E, true, B) mX5_join [rv (D, E, true, B) 5 0, iv 1, iv 0] qms6 (fun v g' => v = some 4294967295 ∧ g' = qas6) := by
  refine mg_C.of (by decide) rfl (Nat.le_of_ble_eq_true rfl) (List.forall_mem_cons.mpr ⟨rfl, (List.forall_mem_cons.mpr ⟨rfl, (List.forall_mem_cons.mpr ⟨rfl, (fun _ h => nomatch h)⟩)⟩)⟩) (fun K => ?_)
  refine g_aload_n (pc := 0) dX5_join_0 rfl ?_
  refine g_callVi (pc := 1) (Y' := mX5_part) (As := []) (st := []) (k := 5) (i := 0) (qa10 K.2.1) gX5_join_X5_part rfl (show 0 < 1 by omega) rfl rfl (na := 0) rfl (by decide +kernel) (by decide) (by decide) (Nat.le_of_ble_eq_true rfl) dX5_join_1 (fun r1 g1 hp => ?_)
  obtain ⟨h1, rfl⟩ := hp
  cases h1
  refine g_istore_n (pc := 4) (ls' := [rv (D, E, true, B) 5 0, iv 1, iv 0, iv 1]) dX5_join_4 (Nat.le_of_ble_eq_true rfl) (Nat.le_of_ble_eq_true rfl) rfl ?_
  refine g_aload_n (pc := 5) dX5_join_5 rfl ?_
  refine fg_X5_join_105 (pc := 6) (by rfl) dX5_join_6 ?_
  refine g_top (b := 1) (by decide +kernel) ?_
  refine g_if_eq (pc := 9) 43 dX5_join_9 (by decide) (by decide) (fun h => absurd h (by decide)) (fun _ => ?_)
  refine g_aload_n (pc := 12) dX5_join_12 rfl ?_
  refine g_iload_n (pc := 13) dX5_join_13 rfl ?_
  refine g_callVi (pc := 14) (Y' := mX5_isStation) (As := [iv 1]) (st := []) (k := 5) (i := 0) (qa245 K.2.1) gX5_join_X5_isStation rfl (show 0 < 1 by omega) rfl rfl (na := 1) rfl (by decide +kernel) (by decide) (by decide) (Nat.le_of_ble_eq_true rfl) dX5_join_14 (fun r1 g1 hp => ?_)
  obtain ⟨h1, rfl⟩ := hp
  cases h1
  refine g_if_eq (pc := 17) 43 dX5_join_17 (by decide) (by decide) (fun h => absurd h (by decide)) (fun _ => ?_)
  refine g_aload_n (pc := 20) dX5_join_20 rfl ?_
  refine g_iload_n (pc := 21) dX5_join_21 rfl ?_
  refine g_callVi (pc := 22) (Y' := mX5_isStation) (As := [iv 0]) (st := []) (k := 5) (i := 0) (qa231 K.2.1) gX5_join_X5_isStation rfl (show 0 < 1 by omega) rfl rfl (na := 1) rfl (by decide +kernel) (by decide) (by decide) (Nat.le_of_ble_eq_true rfl) dX5_join_22 (fun r1 g1 hp => ?_)
  obtain ⟨h1, rfl⟩ := hp
  cases h1
  refine g_if_eq (pc := 25) 43 dX5_join_25 (by decide) (by decide) (fun h => absurd h (by decide)) (fun _ => ?_)
  refine g_aload_n (pc := 28) dX5_join_28 rfl ?_
  refine fg_X5_join_80 (pc := 29) (by rfl) dX5_join_29 ?_
  refine g_iload_n (pc := 32) dX5_join_32 rfl ?_
  refine g_iaload (pc := 33) (k := 61) (i := 0) (n := 24) (show 0 < 1 by omega) rfl (by decide) (by decide) dX5_join_33 ?_
  refine g_top (b := 0) (by decide +kernel) ?_
  refine g_aload_n (pc := 34) dX5_join_34 rfl ?_
  refine fg_X5_join_80 (pc := 35) (by rfl) dX5_join_35 ?_
  refine g_iload_n (pc := 38) dX5_join_38 rfl ?_
  refine g_iaload (pc := 39) (k := 61) (i := 0) (n := 24) (show 0 < 1 by omega) rfl (by decide) (by decide) dX5_join_39 ?_
  refine g_top (b := 0) (by decide +kernel) ?_
  refine g_icmp_ne (pc := 40) 45 dX5_join_40 (by decide) (by decide) (by decide) (fun h => absurd (by decide) h) (fun _ => ?_)
  refine g_iconst (pc := 43) (v := 4294967295) dX5_join_43 (by decide +kernel) ?_
  exact g_iret (pc := 44) dX5_join_44 ⟨mg_narI _, Or.inl rfl⟩ ⟨rfl, rfl⟩
/-- X4_join(r4.0, 1, 1) at qms6 -/
theorem qa254 (l : Launch) {D : va_G} {E : mg_E} {B : Nat} : mg_C l (D, E, true, B) mX4_join [rv (D, E, true, B) 4 0, iv 1, iv 1] qms6 (fun v g' => v = some 4294967295 ∧ g' = qms6) := by
  refine mg_C.of (by decide) rfl (Nat.le_of_ble_eq_true rfl) (List.forall_mem_cons.mpr ⟨rfl, (List.forall_mem_cons.mpr ⟨rfl, (List.forall_mem_cons.mpr ⟨rfl, (fun _ h => nomatch h)⟩)⟩)⟩) (fun K => ?_)
  refine g_aload_n (pc := 0) dX4_join_0 rfl ?_
  refine g_iload_n (pc := 1) dX4_join_1 rfl ?_
  refine g_callVi (pc := 2) (Y' := mX4_isStation) (As := [iv 1]) (st := []) (k := 4) (i := 0) (qa50 K.2.1) gX4_join_X4_isStation rfl (show 0 < 1 by omega) rfl rfl (na := 1) rfl (by decide +kernel) (by decide) (by decide) (Nat.le_of_ble_eq_true rfl) dX4_join_2 (fun r1 g1 hp => ?_)
  obtain ⟨h1, rfl⟩ := hp
  cases h1
  refine g_if_eq (pc := 5) 16 dX4_join_5 (by decide) (by decide) (fun h => absurd h (by decide)) (fun _ => ?_)
  refine g_aload_n (pc := 8) dX4_join_8 rfl ?_
  refine g_iload_n (pc := 9) dX4_join_9 rfl ?_
  refine g_callVi (pc := 10) (Y' := mX4_isStation) (As := [iv 1]) (st := []) (k := 4) (i := 0) (qa50 K.2.1) gX4_join_X4_isStation rfl (show 0 < 1 by omega) rfl rfl (na := 1) rfl (by decide +kernel) (by decide) (by decide) (Nat.le_of_ble_eq_true rfl) dX4_join_10 (fun r1 g1 hp => ?_)
  obtain ⟨h1, rfl⟩ := hp
  cases h1
  refine g_if_ne (pc := 13) 18 dX4_join_13 (by decide) (by decide) (fun _ => ?_) (fun h => absurd h (by decide))
  refine g_aload_n (pc := 18) dX4_join_18 rfl ?_
  refine fg_X4_join_10 (pc := 19) dX4_join_19 ?_
  refine g_iload_n (pc := 22) dX4_join_22 rfl ?_
  refine g_callVi (pc := 23) (Y' := mX0_partOf) (As := [iv 1]) (st := []) (k := 0) (i := 0) (qa251 K.2.1) gX4_join_X0_partOf rfl (show 0 < 1 by omega) rfl rfl (na := 1) rfl (by decide +kernel) (by decide) (by decide) (Nat.le_of_ble_eq_true rfl) dX4_join_23 (fun r1 g1 hp => ?_)
  obtain ⟨h1, rfl⟩ := hp
  cases h1
  refine g_istore_n (pc := 26) (ls' := [rv (D, E, true, B) 4 0, iv 1, iv 1, iv 3]) dX4_join_26 (Nat.le_of_ble_eq_true rfl) (Nat.le_of_ble_eq_true rfl) rfl ?_
  refine g_aload_n (pc := 27) dX4_join_27 rfl ?_
  refine g_callVi (pc := 28) (Y' := mX4_placeOfRight) (As := []) (st := []) (k := 4) (i := 0) (qa240 K.2.1) gX4_join_X4_placeOfRight rfl (show 0 < 1 by omega) rfl rfl (na := 0) rfl (by decide +kernel) (by decide) (by decide) (Nat.le_of_ble_eq_true rfl) dX4_join_28 (fun r1 g1 hp => ?_)
  obtain ⟨h1, rfl⟩ := hp
  cases h1
  refine g_istore (pc := 31) (ls' := [rv (D, E, true, B) 4 0, iv 1, iv 1, iv 3, iv 0]) dX4_join_31 (Nat.le_of_ble_eq_true rfl) (Nat.le_of_ble_eq_true rfl) rfl ?_
  refine g_iload_n (pc := 33) dX4_join_33 rfl ?_
  refine g_iload_n (pc := 34) dX4_join_34 rfl ?_
  refine g_callSi (pc := 35) (Y' := mX4_contains) (As := [iv 3, iv 1]) (st := []) (qa237 K.2.1) gX4_join_X4_contains rfl (na := 2) rfl (by decide +kernel) (by decide) (by decide) (Nat.le_of_ble_eq_true rfl) dX4_join_35 (fun r1 g1 hp => ?_)
  obtain ⟨h1, rfl⟩ := hp
  cases h1
  refine g_if_ne (pc := 38) 48 dX4_join_38 (by decide) (by decide) (fun _ => ?_) (fun h => absurd h (by decide))
  refine g_iconst (pc := 48) (v := 4294967295) dX4_join_48 (by decide +kernel) ?_
  exact g_iret (pc := 49) dX4_join_49 ⟨mg_narI _, Or.inl rfl⟩ ⟨rfl, rfl⟩
/-- X5_join(r5.0, 1, 1) at qms6 -/
theorem qa255 (l : Launch) {D : va_G} {E : mg_E} {B : Nat} : mg_C l (D, E, true, B) mX5_join [rv (D, E, true, B) 5 0, iv 1, iv 1] qms6 (fun v g' => v = some 4294967295 ∧ g' = qas6) := by
  refine mg_C.of (by decide) rfl (Nat.le_of_ble_eq_true rfl) (List.forall_mem_cons.mpr ⟨rfl, (List.forall_mem_cons.mpr ⟨rfl, (List.forall_mem_cons.mpr ⟨rfl, (fun _ h => nomatch h)⟩)⟩)⟩) (fun K => ?_)
  refine g_aload_n (pc := 0) dX5_join_0 rfl ?_
  refine g_callVi (pc := 1) (Y' := mX5_part) (As := []) (st := []) (k := 5) (i := 0) (qa10 K.2.1) gX5_join_X5_part rfl (show 0 < 1 by omega) rfl rfl (na := 0) rfl (by decide +kernel) (by decide) (by decide) (Nat.le_of_ble_eq_true rfl) dX5_join_1 (fun r1 g1 hp => ?_)
  obtain ⟨h1, rfl⟩ := hp
  cases h1
  refine g_istore_n (pc := 4) (ls' := [rv (D, E, true, B) 5 0, iv 1, iv 1, iv 1]) dX5_join_4 (Nat.le_of_ble_eq_true rfl) (Nat.le_of_ble_eq_true rfl) rfl ?_
  refine g_aload_n (pc := 5) dX5_join_5 rfl ?_
  refine fg_X5_join_105 (pc := 6) (by rfl) dX5_join_6 ?_
  refine g_top (b := 1) (by decide +kernel) ?_
  refine g_if_eq (pc := 9) 43 dX5_join_9 (by decide) (by decide) (fun h => absurd h (by decide)) (fun _ => ?_)
  refine g_aload_n (pc := 12) dX5_join_12 rfl ?_
  refine g_iload_n (pc := 13) dX5_join_13 rfl ?_
  refine g_callVi (pc := 14) (Y' := mX5_isStation) (As := [iv 1]) (st := []) (k := 5) (i := 0) (qa245 K.2.1) gX5_join_X5_isStation rfl (show 0 < 1 by omega) rfl rfl (na := 1) rfl (by decide +kernel) (by decide) (by decide) (Nat.le_of_ble_eq_true rfl) dX5_join_14 (fun r1 g1 hp => ?_)
  obtain ⟨h1, rfl⟩ := hp
  cases h1
  refine g_if_eq (pc := 17) 43 dX5_join_17 (by decide) (by decide) (fun h => absurd h (by decide)) (fun _ => ?_)
  refine g_aload_n (pc := 20) dX5_join_20 rfl ?_
  refine g_iload_n (pc := 21) dX5_join_21 rfl ?_
  refine g_callVi (pc := 22) (Y' := mX5_isStation) (As := [iv 1]) (st := []) (k := 5) (i := 0) (qa245 K.2.1) gX5_join_X5_isStation rfl (show 0 < 1 by omega) rfl rfl (na := 1) rfl (by decide +kernel) (by decide) (by decide) (Nat.le_of_ble_eq_true rfl) dX5_join_22 (fun r1 g1 hp => ?_)
  obtain ⟨h1, rfl⟩ := hp
  cases h1
  refine g_if_eq (pc := 25) 43 dX5_join_25 (by decide) (by decide) (fun h => absurd h (by decide)) (fun _ => ?_)
  refine g_aload_n (pc := 28) dX5_join_28 rfl ?_
  refine fg_X5_join_80 (pc := 29) (by rfl) dX5_join_29 ?_
  refine g_iload_n (pc := 32) dX5_join_32 rfl ?_
  refine g_iaload (pc := 33) (k := 61) (i := 0) (n := 24) (show 0 < 1 by omega) rfl (by decide) (by decide) dX5_join_33 ?_
  refine g_top (b := 0) (by decide +kernel) ?_
  refine g_aload_n (pc := 34) dX5_join_34 rfl ?_
  refine fg_X5_join_80 (pc := 35) (by rfl) dX5_join_35 ?_
  refine g_iload_n (pc := 38) dX5_join_38 rfl ?_
  refine g_iaload (pc := 39) (k := 61) (i := 0) (n := 24) (show 0 < 1 by omega) rfl (by decide) (by decide) dX5_join_39 ?_
  refine g_top (b := 0) (by decide +kernel) ?_
  refine g_icmp_ne (pc := 40) 45 dX5_join_40 (by decide) (by decide) (by decide) (fun h => absurd (by decide) h) (fun _ => ?_)
  refine g_iconst (pc := 43) (v := 4294967295) dX5_join_43 (by decide +kernel) ?_
  exact g_iret (pc := 44) dX5_join_44 ⟨mg_narI _, Or.inl rfl⟩ ⟨rfl, rfl⟩
/-- X4_holder(r4.0) at qms6 -/
theorem qa256 (l : Launch) {D : va_G} {E : mg_E} {B : Nat} : mg_C l (D, E, true, B) mX4_holder [rv (D, E, true, B) 4 0] qms6 (fun v g' => v = some 0 ∧ g' = qms6) := by
  refine mg_C.of (by decide) rfl (Nat.le_of_ble_eq_true rfl) (List.forall_mem_cons.mpr ⟨rfl, (fun _ h => nomatch h)⟩) (fun K => ?_)
  refine g_aload_n (pc := 0) dX4_holder_0 rfl ?_
  refine fg_X4_holder_55 (pc := 1) dX4_holder_1 ?_
  refine g_top (b := 1) (by decide +kernel) ?_
  refine g_if_eq (pc := 4) 14 dX4_holder_4 (by decide) (by decide) (fun h => absurd h (by decide)) (fun _ => ?_)
  refine g_aload_n (pc := 7) dX4_holder_7 rfl ?_
  refine g_callVi (pc := 8) (Y' := mX4_whoHolds) (As := []) (st := []) (k := 4) (i := 0) (qa239 K.2.1) gX4_holder_X4_whoHolds rfl (show 0 < 1 by omega) rfl rfl (na := 0) rfl (by decide +kernel) (by decide) (by decide) (Nat.le_of_ble_eq_true rfl) dX4_holder_8 (fun r1 g1 hp => ?_)
  obtain ⟨h1, rfl⟩ := hp
  cases h1
  refine g_goto (pc := 11) 15 dX4_holder_11 (by decide) ?_
  exact g_iret (pc := 15) dX4_holder_15 ⟨mg_narI _, Or.inl rfl⟩ ⟨rfl, rfl⟩
/-- X5_holder(r5.0) at qms6 -/
theorem qa257 (l : Launch) {D : va_G} {E : mg_E} {B : Nat} : mg_C l (D, E, true, B) mX5_holder [rv (D, E, true, B) 5 0] qms6 (fun v g' => v = some 0 ∧ g' = qms6) := by
  refine mg_C.of (by decide) rfl (Nat.le_of_ble_eq_true rfl) (List.forall_mem_cons.mpr ⟨rfl, (fun _ h => nomatch h)⟩) (fun K => ?_)
  refine g_aload_n (pc := 0) dX5_holder_0 rfl ?_
  refine fg_X5_holder_105 (pc := 1) (by rfl) dX5_holder_1 ?_
  refine g_top (b := 1) (by decide +kernel) ?_
  refine g_if_ne (pc := 4) 9 dX5_holder_4 (by decide) (by decide) (fun _ => ?_) (fun h => absurd h (by decide))
  refine g_bipush (pc := 9) (v := 4294967294) dX5_holder_9 (by decide +kernel) ?_
  refine g_istore_n (pc := 11) (ls' := [rv (D, E, true, B) 5 0, iv 4294967294]) dX5_holder_11 (Nat.le_of_ble_eq_true rfl) (Nat.le_of_ble_eq_true rfl) rfl ?_
  refine g_iconst (pc := 12) (v := 0) dX5_holder_12 (by decide +kernel) ?_
  refine g_istore_n (pc := 13) (ls' := [rv (D, E, true, B) 5 0, iv 4294967294, iv 0]) dX5_holder_13 (Nat.le_of_ble_eq_true rfl) (Nat.le_of_ble_eq_true rfl) rfl ?_
  refine g_iload_n (pc := 14) dX5_holder_14 rfl ?_
  refine g_aload_n (pc := 15) dX5_holder_15 rfl ?_
  refine fg_X5_holder_101 (pc := 16) (by rfl) dX5_holder_16 ?_
  refine g_top (b := 2) (by decide +kernel) ?_
  refine g_icmp_ge (pc := 19) 44 dX5_holder_19 (by decide) (by decide) (by decide) (fun h => absurd h (by decide)) (fun _ => ?_)
  refine g_aload_n (pc := 22) dX5_holder_22 rfl ?_
  refine fg_X5_holder_13 (pc := 23) (by rfl) dX5_holder_23 ?_
  refine g_iload_n (pc := 26) dX5_holder_26 rfl ?_
  refine g_iaload (pc := 27) (k := 36) (i := 0) (n := 24) (show 0 < 1 by omega) rfl (by decide) (by decide) dX5_holder_27 ?_
  refine g_top (b := 0) (by decide +kernel) ?_
  refine g_iload_n (pc := 28) dX5_holder_28 rfl ?_
  refine g_icmp_ne (pc := 29) 36 dX5_holder_29 (by decide) (by decide) (by decide) (fun h => absurd (by decide) h) (fun _ => ?_)
  refine g_iload_n (pc := 32) dX5_holder_32 rfl ?_
  refine g_goto (pc := 33) 37 dX5_holder_33 (by decide) ?_
  refine g_istore_n (pc := 37) (ls' := [rv (D, E, true, B) 5 0, iv 0, iv 0]) dX5_holder_37 (Nat.le_of_ble_eq_true rfl) (Nat.le_of_ble_eq_true rfl) rfl ?_
  refine g_iinc (pc := 38) (v := 1) (ls' := [rv (D, E, true, B) 5 0, iv 0, iv 1]) dX5_holder_38 (Nat.le_of_ble_eq_true rfl) rfl (by decide +kernel) rfl ?_
  refine g_goto (pc := 41) 14 dX5_holder_41 (by decide) ?_
  refine g_iload_n (pc := 14) dX5_holder_14 rfl ?_
  refine g_aload_n (pc := 15) dX5_holder_15 rfl ?_
  refine fg_X5_holder_101 (pc := 16) (by rfl) dX5_holder_16 ?_
  refine g_top (b := 2) (by decide +kernel) ?_
  refine g_icmp_ge (pc := 19) 44 dX5_holder_19 (by decide) (by decide) (by decide) (fun h => absurd h (by decide)) (fun _ => ?_)
  refine g_aload_n (pc := 22) dX5_holder_22 rfl ?_
  refine fg_X5_holder_13 (pc := 23) (by rfl) dX5_holder_23 ?_
  refine g_iload_n (pc := 26) dX5_holder_26 rfl ?_
  refine g_iaload (pc := 27) (k := 36) (i := 0) (n := 24) (show 0 < 1 by omega) rfl (by decide) (by decide) dX5_holder_27 ?_
  refine g_top (b := 0) (by decide +kernel) ?_
  refine g_iload_n (pc := 28) dX5_holder_28 rfl ?_
  refine g_icmp_ne (pc := 29) 36 dX5_holder_29 (by decide) (by decide) (by decide) (fun _ => ?_) (fun h => absurd h (by decide))
  refine g_iload_n (pc := 36) dX5_holder_36 rfl ?_
  refine g_istore_n (pc := 37) (ls' := [rv (D, E, true, B) 5 0, iv 0, iv 1]) dX5_holder_37 (Nat.le_of_ble_eq_true rfl) (Nat.le_of_ble_eq_true rfl) rfl ?_
  refine g_iinc (pc := 38) (v := 2) (ls' := [rv (D, E, true, B) 5 0, iv 0, iv 2]) dX5_holder_38 (Nat.le_of_ble_eq_true rfl) rfl (by decide +kernel) rfl ?_
  refine g_goto (pc := 41) 14 dX5_holder_41 (by decide) ?_
  refine g_iload_n (pc := 14) dX5_holder_14 rfl ?_
  refine g_aload_n (pc := 15) dX5_holder_15 rfl ?_
  refine fg_X5_holder_101 (pc := 16) (by rfl) dX5_holder_16 ?_
  refine g_top (b := 2) (by decide +kernel) ?_
  refine g_icmp_ge (pc := 19) 44 dX5_holder_19 (by decide) (by decide) (by decide) (fun _ => ?_) (fun h => absurd (by decide) h)
  refine g_iload_n (pc := 44) dX5_holder_44 rfl ?_
  exact g_iret (pc := 45) dX5_holder_45 ⟨mg_narI _, Or.inl rfl⟩ ⟨rfl, rfl⟩
/-- X4_pointer(r4.0, a[2147483648,4294967295]) at qms6 -/
theorem qa258 (l : Launch) {D : va_G} {E : mg_E} {B : Nat} (a : Nat) (h_a : 2147483648 ≤ a) (k_a : a ≤ 4294967295) : mg_C l (D, E, true, B) mX4_pointer [rv (D, E, true, B) 4 0, iv a] qms6 (fun v g' => v = some 4294967295 ∧ g' = qms6) := by
  refine mg_C.of (by decide) rfl (Nat.le_of_ble_eq_true rfl) (List.forall_mem_cons.mpr ⟨rfl, (List.forall_mem_cons.mpr ⟨rfl, (fun _ h => nomatch h)⟩)⟩) (fun K => ?_)
  refine g_aload_n (pc := 0) dX4_pointer_0 rfl ?_
  refine g_iload_n (pc := 1) dX4_pointer_1 rfl ?_
  refine g_callVi (pc := 2) (Y' := mX4_isStation) (As := [iv a]) (st := []) (k := 4) (i := 0) (qa15 K.2.1 a h_a k_a) gX4_pointer_X4_isStation rfl (show 0 < 1 by omega) rfl rfl (na := 1) rfl (by decide +kernel) (by decide) (by decide) (Nat.le_of_ble_eq_true rfl) dX4_pointer_2 (fun r1 g1 hp => ?_)
  obtain ⟨h1, rfl⟩ := hp
  cases h1
  refine g_if_eq (pc := 5) 20 dX4_pointer_5 (by decide) (by decide) (fun _ => ?_) (fun h => absurd (by decide) h)
  refine g_iconst (pc := 20) (v := 4294967295) dX4_pointer_20 (by decide +kernel) ?_
  exact g_iret (pc := 21) dX4_pointer_21 ⟨mg_narI _, Or.inl rfl⟩ ⟨rfl, rfl⟩
/-- X5_pointer(r5.0, a[2147483648,4294967295]) at qms6 -/
theorem qa259 (l : Launch) {D : va_G} {E : mg_E} {B : Nat} (a : Nat) (h_a : 2147483648 ≤ a) (k_a : a ≤ 4294967295) : mg_C l (D, E, true, B) mX5_pointer [rv (D, E, true, B) 5 0, iv a] qms6 (fun v g' => v = some 4294967295 ∧ g' = qms6) := by
  refine mg_C.of (by decide) rfl (Nat.le_of_ble_eq_true rfl) (List.forall_mem_cons.mpr ⟨rfl, (List.forall_mem_cons.mpr ⟨rfl, (fun _ h => nomatch h)⟩)⟩) (fun K => ?_)
  refine g_aload_n (pc := 0) dX5_pointer_0 rfl ?_
  refine fg_X5_pointer_105 (pc := 1) (by rfl) dX5_pointer_1 ?_
  refine g_top (b := 1) (by decide +kernel) ?_
  refine g_if_eq (pc := 4) 24 dX5_pointer_4 (by decide) (by decide) (fun h => absurd h (by decide)) (fun _ => ?_)
  refine g_aload_n (pc := 7) dX5_pointer_7 rfl ?_
  refine g_iload_n (pc := 8) dX5_pointer_8 rfl ?_
  refine g_callVi (pc := 9) (Y' := mX5_isStation) (As := [iv a]) (st := []) (k := 5) (i := 0) (qa18 K.2.1 a h_a k_a) gX5_pointer_X5_isStation rfl (show 0 < 1 by omega) rfl rfl (na := 1) rfl (by decide +kernel) (by decide) (by decide) (Nat.le_of_ble_eq_true rfl) dX5_pointer_9 (fun r1 g1 hp => ?_)
  obtain ⟨h1, rfl⟩ := hp
  cases h1
  refine g_if_eq (pc := 12) 24 dX5_pointer_12 (by decide) (by decide) (fun _ => ?_) (fun h => absurd (by decide) h)
  refine g_iconst (pc := 24) (v := 4294967295) dX5_pointer_24 (by decide +kernel) ?_
  exact g_iret (pc := 25) dX5_pointer_25 ⟨mg_narI _, Or.inl rfl⟩ ⟨rfl, rfl⟩
/-- X4_pointer(r4.0, a[2,2147483647]) at qms6 -/
theorem qa260 (l : Launch) {D : va_G} {E : mg_E} {B : Nat} (a : Nat) (h_a : 2 ≤ a) (k_a : a ≤ 2147483647) : mg_C l (D, E, true, B) mX4_pointer [rv (D, E, true, B) 4 0, iv a] qms6 (fun v g' => v = some 4294967295 ∧ g' = qms6) := by
  refine mg_C.of (by decide) rfl (Nat.le_of_ble_eq_true rfl) (List.forall_mem_cons.mpr ⟨rfl, (List.forall_mem_cons.mpr ⟨rfl, (fun _ h => nomatch h)⟩)⟩) (fun K => ?_)
  refine g_aload_n (pc := 0) dX4_pointer_0 rfl ?_
  refine g_iload_n (pc := 1) dX4_pointer_1 rfl ?_
  refine g_callVi (pc := 2) (Y' := mX4_isStation) (As := [iv a]) (st := []) (k := 4) (i := 0) (qa22 K.2.1 a h_a k_a) gX4_pointer_X4_isStation rfl (show 0 < 1 by omega) rfl rfl (na := 1) rfl (by decide +kernel) (by decide) (by decide) (Nat.le_of_ble_eq_true rfl) dX4_pointer_2 (fun r1 g1 hp => ?_)
  obtain ⟨h1, rfl⟩ := hp
  cases h1
  refine g_if_eq (pc := 5) 20 dX4_pointer_5 (by decide) (by decide) (fun _ => ?_) (fun h => absurd (by decide) h)
  refine g_iconst (pc := 20) (v := 4294967295) dX4_pointer_20 (by decide +kernel) ?_
  exact g_iret (pc := 21) dX4_pointer_21 ⟨mg_narI _, Or.inl rfl⟩ ⟨rfl, rfl⟩
/-- X5_pointer(r5.0, a[2,2147483647]) at qms6 -/
theorem qa261 (l : Launch) {D : va_G} {E : mg_E} {B : Nat} (a : Nat) (h_a : 2 ≤ a) (k_a : a ≤ 2147483647) : mg_C l (D, E, true, B) mX5_pointer [rv (D, E, true, B) 5 0, iv a] qms6 (fun v g' => v = some 4294967295 ∧ g' = qms6) := by
  refine mg_C.of (by decide) rfl (Nat.le_of_ble_eq_true rfl) (List.forall_mem_cons.mpr ⟨rfl, (List.forall_mem_cons.mpr ⟨rfl, (fun _ h => nomatch h)⟩)⟩) (fun K => ?_)
  refine g_aload_n (pc := 0) dX5_pointer_0 rfl ?_
  refine fg_X5_pointer_105 (pc := 1) (by rfl) dX5_pointer_1 ?_
  refine g_top (b := 1) (by decide +kernel) ?_
  refine g_if_eq (pc := 4) 24 dX5_pointer_4 (by decide) (by decide) (fun h => absurd h (by decide)) (fun _ => ?_)
  refine g_aload_n (pc := 7) dX5_pointer_7 rfl ?_
  refine g_iload_n (pc := 8) dX5_pointer_8 rfl ?_
  refine g_callVi (pc := 9) (Y' := mX5_isStation) (As := [iv a]) (st := []) (k := 5) (i := 0) (qa25 K.2.1 a h_a k_a) gX5_pointer_X5_isStation rfl (show 0 < 1 by omega) rfl rfl (na := 1) rfl (by decide +kernel) (by decide) (by decide) (Nat.le_of_ble_eq_true rfl) dX5_pointer_9 (fun r1 g1 hp => ?_)
  obtain ⟨h1, rfl⟩ := hp
  cases h1
  refine g_if_eq (pc := 12) 24 dX5_pointer_12 (by decide) (by decide) (fun _ => ?_) (fun h => absurd (by decide) h)
  refine g_iconst (pc := 24) (v := 4294967295) dX5_pointer_24 (by decide +kernel) ?_
  exact g_iret (pc := 25) dX5_pointer_25 ⟨mg_narI _, Or.inl rfl⟩ ⟨rfl, rfl⟩
/-- X4_pointer(r4.0, 0) at qms6 -/
theorem qa262 (l : Launch) {D : va_G} {E : mg_E} {B : Nat} : mg_C l (D, E, true, B) mX4_pointer [rv (D, E, true, B) 4 0, iv 0] qms6 (fun v g' => v = some 0 ∧ g' = qms6) := by
  refine mg_C.of (by decide) rfl (Nat.le_of_ble_eq_true rfl) (List.forall_mem_cons.mpr ⟨rfl, (List.forall_mem_cons.mpr ⟨rfl, (fun _ h => nomatch h)⟩)⟩) (fun K => ?_)
  refine g_aload_n (pc := 0) dX4_pointer_0 rfl ?_
  refine g_iload_n (pc := 1) dX4_pointer_1 rfl ?_
  refine g_callVi (pc := 2) (Y' := mX4_isStation) (As := [iv 0]) (st := []) (k := 4) (i := 0) (qa29 K.2.1) gX4_pointer_X4_isStation rfl (show 0 < 1 by omega) rfl rfl (na := 1) rfl (by decide +kernel) (by decide) (by decide) (Nat.le_of_ble_eq_true rfl) dX4_pointer_2 (fun r1 g1 hp => ?_)
  obtain ⟨h1, rfl⟩ := hp
  cases h1
  refine g_if_eq (pc := 5) 20 dX4_pointer_5 (by decide) (by decide) (fun h => absurd h (by decide)) (fun _ => ?_)
  refine g_aload_n (pc := 8) dX4_pointer_8 rfl ?_
  refine fg_X4_pointer_18 (pc := 9) dX4_pointer_9 ?_
  refine g_iload_n (pc := 12) dX4_pointer_12 rfl ?_
  refine g_aastation (pc := 13) (a := 0) (by decide) dX4_pointer_13 ?_
  refine fg_X4_pointer_258 (pc := 14) (show 0 < 24 by omega) dX4_pointer_14 ?_
  refine g_top (b := 0) (by decide +kernel) ?_
  refine g_goto (pc := 17) 21 dX4_pointer_17 (by decide) ?_
  exact g_iret (pc := 21) dX4_pointer_21 ⟨mg_narI _, Or.inl rfl⟩ ⟨rfl, rfl⟩
/-- X5_pointer(r5.0, 0) at qms6 -/
theorem qa263 (l : Launch) {D : va_G} {E : mg_E} {B : Nat} : mg_C l (D, E, true, B) mX5_pointer [rv (D, E, true, B) 5 0, iv 0] qms6 (fun v g' => v = some 0 ∧ g' = qms6) := by
  refine mg_C.of (by decide) rfl (Nat.le_of_ble_eq_true rfl) (List.forall_mem_cons.mpr ⟨rfl, (List.forall_mem_cons.mpr ⟨rfl, (fun _ h => nomatch h)⟩)⟩) (fun K => ?_)
  refine g_aload_n (pc := 0) dX5_pointer_0 rfl ?_
  refine fg_X5_pointer_105 (pc := 1) (by rfl) dX5_pointer_1 ?_
  refine g_top (b := 1) (by decide +kernel) ?_
  refine g_if_eq (pc := 4) 24 dX5_pointer_4 (by decide) (by decide) (fun h => absurd h (by decide)) (fun _ => ?_)
  refine g_aload_n (pc := 7) dX5_pointer_7 rfl ?_
  refine g_iload_n (pc := 8) dX5_pointer_8 rfl ?_
  refine g_callVi (pc := 9) (Y' := mX5_isStation) (As := [iv 0]) (st := []) (k := 5) (i := 0) (qa32 K.2.1) gX5_pointer_X5_isStation rfl (show 0 < 1 by omega) rfl rfl (na := 1) rfl (by decide +kernel) (by decide) (by decide) (Nat.le_of_ble_eq_true rfl) dX5_pointer_9 (fun r1 g1 hp => ?_)
  obtain ⟨h1, rfl⟩ := hp
  cases h1
  refine g_if_eq (pc := 12) 24 dX5_pointer_12 (by decide) (by decide) (fun h => absurd h (by decide)) (fun _ => ?_)
  refine g_aload_n (pc := 15) dX5_pointer_15 rfl ?_
  refine fg_X5_pointer_13 (pc := 16) (by rfl) dX5_pointer_16 ?_
  refine g_iload_n (pc := 19) dX5_pointer_19 rfl ?_
  refine g_iaload (pc := 20) (k := 36) (i := 0) (n := 24) (show 0 < 1 by omega) rfl (by decide) (by decide) dX5_pointer_20 ?_
  refine g_top (b := 0) (by decide +kernel) ?_
  refine g_goto (pc := 21) 25 dX5_pointer_21 (by decide) ?_
  exact g_iret (pc := 25) dX5_pointer_25 ⟨mg_narI _, Or.inl rfl⟩ ⟨rfl, rfl⟩
/-- X4_pointer(r4.0, 1) at qms6 -/
theorem qa264 (l : Launch) {D : va_G} {E : mg_E} {B : Nat} : mg_C l (D, E, true, B) mX4_pointer [rv (D, E, true, B) 4 0, iv 1] qms6 (fun v g' => v = some 0 ∧ g' = qms6) := by
  refine mg_C.of (by decide) rfl (Nat.le_of_ble_eq_true rfl) (List.forall_mem_cons.mpr ⟨rfl, (List.forall_mem_cons.mpr ⟨rfl, (fun _ h => nomatch h)⟩)⟩) (fun K => ?_)
  refine g_aload_n (pc := 0) dX4_pointer_0 rfl ?_
  refine g_iload_n (pc := 1) dX4_pointer_1 rfl ?_
  refine g_callVi (pc := 2) (Y' := mX4_isStation) (As := [iv 1]) (st := []) (k := 4) (i := 0) (qa50 K.2.1) gX4_pointer_X4_isStation rfl (show 0 < 1 by omega) rfl rfl (na := 1) rfl (by decide +kernel) (by decide) (by decide) (Nat.le_of_ble_eq_true rfl) dX4_pointer_2 (fun r1 g1 hp => ?_)
  obtain ⟨h1, rfl⟩ := hp
  cases h1
  refine g_if_eq (pc := 5) 20 dX4_pointer_5 (by decide) (by decide) (fun h => absurd h (by decide)) (fun _ => ?_)
  refine g_aload_n (pc := 8) dX4_pointer_8 rfl ?_
  refine fg_X4_pointer_18 (pc := 9) dX4_pointer_9 ?_
  refine g_iload_n (pc := 12) dX4_pointer_12 rfl ?_
  refine g_aastation (pc := 13) (a := 1) (by decide) dX4_pointer_13 ?_
  refine fg_X4_pointer_258 (pc := 14) (show 1 < 24 by omega) dX4_pointer_14 ?_
  refine g_top (b := 0) (by decide +kernel) ?_
  refine g_goto (pc := 17) 21 dX4_pointer_17 (by decide) ?_
  exact g_iret (pc := 21) dX4_pointer_21 ⟨mg_narI _, Or.inl rfl⟩ ⟨rfl, rfl⟩
/-- X5_pointer(r5.0, 1) at qms6 -/
theorem qa265 (l : Launch) {D : va_G} {E : mg_E} {B : Nat} : mg_C l (D, E, true, B) mX5_pointer [rv (D, E, true, B) 5 0, iv 1] qms6 (fun v g' => v = some 0 ∧ g' = qms6) := by
  refine mg_C.of (by decide) rfl (Nat.le_of_ble_eq_true rfl) (List.forall_mem_cons.mpr ⟨rfl, (List.forall_mem_cons.mpr ⟨rfl, (fun _ h => nomatch h)⟩)⟩) (fun K => ?_)
  refine g_aload_n (pc := 0) dX5_pointer_0 rfl ?_
  refine fg_X5_pointer_105 (pc := 1) (by rfl) dX5_pointer_1 ?_
  refine g_top (b := 1) (by decide +kernel) ?_
  refine g_if_eq (pc := 4) 24 dX5_pointer_4 (by decide) (by decide) (fun h => absurd h (by decide)) (fun _ => ?_)
  refine g_aload_n (pc := 7) dX5_pointer_7 rfl ?_
  refine g_iload_n (pc := 8) dX5_pointer_8 rfl ?_
  refine g_callVi (pc := 9) (Y' := mX5_isStation) (As := [iv 1]) (st := []) (k := 5) (i := 0) (qa53 K.2.1) gX5_pointer_X5_isStation rfl (show 0 < 1 by omega) rfl rfl (na := 1) rfl (by decide +kernel) (by decide) (by decide) (Nat.le_of_ble_eq_true rfl) dX5_pointer_9 (fun r1 g1 hp => ?_)
  obtain ⟨h1, rfl⟩ := hp
  cases h1
  refine g_if_eq (pc := 12) 24 dX5_pointer_12 (by decide) (by decide) (fun h => absurd h (by decide)) (fun _ => ?_)
  refine g_aload_n (pc := 15) dX5_pointer_15 rfl ?_
  refine fg_X5_pointer_13 (pc := 16) (by rfl) dX5_pointer_16 ?_
  refine g_iload_n (pc := 19) dX5_pointer_19 rfl ?_
  refine g_iaload (pc := 20) (k := 36) (i := 0) (n := 24) (show 0 < 1 by omega) rfl (by decide) (by decide) dX5_pointer_20 ?_
  refine g_top (b := 0) (by decide +kernel) ?_
  refine g_goto (pc := 21) 25 dX5_pointer_21 (by decide) ?_
  exact g_iret (pc := 25) dX5_pointer_25 ⟨mg_narI _, Or.inl rfl⟩ ⟨rfl, rfl⟩
/-- X4_queue(r4.0, a[2147483648,4294967295], b[0,4294967295], c[0,1]) at qms6 -/
theorem qa266 (l : Launch) {D : va_G} {E : mg_E} {B : Nat} (a : Nat) (h_a : 2147483648 ≤ a) (k_a : a ≤ 4294967295) (b : Nat) (h_b : 0 ≤ b) (k_b : b ≤ 4294967295) (c : Nat) (h_c : 0 ≤ c) (k_c : c ≤ 1) : mg_C l (D, E, true, B) mX4_queue [rv (D, E, true, B) 4 0, iv a, iv b, iv c] qms6 (fun v g' => v = some 4294967295 ∧ g' = qms6) := by
  refine mg_C.of (by decide) rfl (Nat.le_of_ble_eq_true rfl) (List.forall_mem_cons.mpr ⟨rfl, (List.forall_mem_cons.mpr ⟨rfl, (List.forall_mem_cons.mpr ⟨rfl, (List.forall_mem_cons.mpr ⟨rfl, (fun _ h => nomatch h)⟩)⟩)⟩)⟩) (fun K => ?_)
  refine g_aload_n (pc := 0) dX4_queue_0 rfl ?_
  refine g_iload_n (pc := 1) dX4_queue_1 rfl ?_
  refine g_callVi (pc := 2) (Y' := mX4_isStation) (As := [iv a]) (st := []) (k := 4) (i := 0) (qa15 K.2.1 a h_a k_a) gX4_queue_X4_isStation rfl (show 0 < 1 by omega) rfl rfl (na := 1) rfl (by decide +kernel) (by decide) (by decide) (Nat.le_of_ble_eq_true rfl) dX4_queue_2 (fun r1 g1 hp => ?_)
  obtain ⟨h1, rfl⟩ := hp
  cases h1
  refine g_if_eq (pc := 5) 28 dX4_queue_5 (by decide) (by decide) (fun _ => ?_) (fun h => absurd (by decide) h)
  refine g_iconst (pc := 28) (v := 4294967295) dX4_queue_28 (by decide +kernel) ?_
  exact g_iret (pc := 29) dX4_queue_29 ⟨mg_narI _, Or.inl rfl⟩ ⟨rfl, rfl⟩
/-- X5_queue(r5.0, a[2147483648,4294967295], b[0,4294967295], c[0,1]) at qms6 -/
theorem qa267 (l : Launch) {D : va_G} {E : mg_E} {B : Nat} (a : Nat) (h_a : 2147483648 ≤ a) (k_a : a ≤ 4294967295) (b : Nat) (h_b : 0 ≤ b) (k_b : b ≤ 4294967295) (c : Nat) (h_c : 0 ≤ c) (k_c : c ≤ 1) : mg_C l (D, E, true, B) mX5_queue [rv (D, E, true, B) 5 0, iv a, iv b, iv c] qms6 (fun v g' => v = some 4294967295 ∧ g' = qms6) := by
  refine mg_C.of (by decide) rfl (Nat.le_of_ble_eq_true rfl) (List.forall_mem_cons.mpr ⟨rfl, (List.forall_mem_cons.mpr ⟨rfl, (List.forall_mem_cons.mpr ⟨rfl, (List.forall_mem_cons.mpr ⟨rfl, (fun _ h => nomatch h)⟩)⟩)⟩)⟩) (fun K => ?_)
  refine g_aload_n (pc := 0) dX5_queue_0 rfl ?_
  refine fg_X5_queue_105 (pc := 1) (by rfl) dX5_queue_1 ?_
  refine g_top (b := 1) (by decide +kernel) ?_
  refine g_if_eq (pc := 4) 29 dX5_queue_4 (by decide) (by decide) (fun h => absurd h (by decide)) (fun _ => ?_)
  refine g_aload_n (pc := 7) dX5_queue_7 rfl ?_
  refine g_iload_n (pc := 8) dX5_queue_8 rfl ?_
  refine g_callVi (pc := 9) (Y' := mX5_isStation) (As := [iv a]) (st := []) (k := 5) (i := 0) (qa18 K.2.1 a h_a k_a) gX5_queue_X5_isStation rfl (show 0 < 1 by omega) rfl rfl (na := 1) rfl (by decide +kernel) (by decide) (by decide) (Nat.le_of_ble_eq_true rfl) dX5_queue_9 (fun r1 g1 hp => ?_)
  obtain ⟨h1, rfl⟩ := hp
  cases h1
  refine g_if_eq (pc := 12) 29 dX5_queue_12 (by decide) (by decide) (fun _ => ?_) (fun h => absurd (by decide) h)
  refine g_iconst (pc := 29) (v := 4294967295) dX5_queue_29 (by decide +kernel) ?_
  exact g_iret (pc := 30) dX5_queue_30 ⟨mg_narI _, Or.inl rfl⟩ ⟨rfl, rfl⟩
/-- X4_queue(r4.0, a[2,2147483647], b[0,4294967295], c[0,1]) at qms6 -/
theorem qa268 (l : Launch) {D : va_G} {E : mg_E} {B : Nat} (a : Nat) (h_a : 2 ≤ a) (k_a : a ≤ 2147483647) (b : Nat) (h_b : 0 ≤ b) (k_b : b ≤ 4294967295) (c : Nat) (h_c : 0 ≤ c) (k_c : c ≤ 1) : mg_C l (D, E, true, B) mX4_queue [rv (D, E, true, B) 4 0, iv a, iv b, iv c] qms6 (fun v g' => v = some 4294967295 ∧ g' = qms6) := by
  refine mg_C.of (by decide) rfl (Nat.le_of_ble_eq_true rfl) (List.forall_mem_cons.mpr ⟨rfl, (List.forall_mem_cons.mpr ⟨rfl, (List.forall_mem_cons.mpr ⟨rfl, (List.forall_mem_cons.mpr ⟨rfl, (fun _ h => nomatch h)⟩)⟩)⟩)⟩) (fun K => ?_)
  refine g_aload_n (pc := 0) dX4_queue_0 rfl ?_
  refine g_iload_n (pc := 1) dX4_queue_1 rfl ?_
  refine g_callVi (pc := 2) (Y' := mX4_isStation) (As := [iv a]) (st := []) (k := 4) (i := 0) (qa22 K.2.1 a h_a k_a) gX4_queue_X4_isStation rfl (show 0 < 1 by omega) rfl rfl (na := 1) rfl (by decide +kernel) (by decide) (by decide) (Nat.le_of_ble_eq_true rfl) dX4_queue_2 (fun r1 g1 hp => ?_)
  obtain ⟨h1, rfl⟩ := hp
  cases h1
  refine g_if_eq (pc := 5) 28 dX4_queue_5 (by decide) (by decide) (fun _ => ?_) (fun h => absurd (by decide) h)
  refine g_iconst (pc := 28) (v := 4294967295) dX4_queue_28 (by decide +kernel) ?_
  exact g_iret (pc := 29) dX4_queue_29 ⟨mg_narI _, Or.inl rfl⟩ ⟨rfl, rfl⟩
/-- X5_queue(r5.0, a[2,2147483647], b[0,4294967295], c[0,1]) at qms6 -/
theorem qa269 (l : Launch) {D : va_G} {E : mg_E} {B : Nat} (a : Nat) (h_a : 2 ≤ a) (k_a : a ≤ 2147483647) (b : Nat) (h_b : 0 ≤ b) (k_b : b ≤ 4294967295) (c : Nat) (h_c : 0 ≤ c) (k_c : c ≤ 1) : mg_C l (D, E, true, B) mX5_queue [rv (D, E, true, B) 5 0, iv a, iv b, iv c] qms6 (fun v g' => v = some 4294967295 ∧ g' = qms6) := by
  refine mg_C.of (by decide) rfl (Nat.le_of_ble_eq_true rfl) (List.forall_mem_cons.mpr ⟨rfl, (List.forall_mem_cons.mpr ⟨rfl, (List.forall_mem_cons.mpr ⟨rfl, (List.forall_mem_cons.mpr ⟨rfl, (fun _ h => nomatch h)⟩)⟩)⟩)⟩) (fun K => ?_)
  refine g_aload_n (pc := 0) dX5_queue_0 rfl ?_
  refine fg_X5_queue_105 (pc := 1) (by rfl) dX5_queue_1 ?_
  refine g_top (b := 1) (by decide +kernel) ?_
  refine g_if_eq (pc := 4) 29 dX5_queue_4 (by decide) (by decide) (fun h => absurd h (by decide)) (fun _ => ?_)
  refine g_aload_n (pc := 7) dX5_queue_7 rfl ?_
  refine g_iload_n (pc := 8) dX5_queue_8 rfl ?_
  refine g_callVi (pc := 9) (Y' := mX5_isStation) (As := [iv a]) (st := []) (k := 5) (i := 0) (qa25 K.2.1 a h_a k_a) gX5_queue_X5_isStation rfl (show 0 < 1 by omega) rfl rfl (na := 1) rfl (by decide +kernel) (by decide) (by decide) (Nat.le_of_ble_eq_true rfl) dX5_queue_9 (fun r1 g1 hp => ?_)
  obtain ⟨h1, rfl⟩ := hp
  cases h1
  refine g_if_eq (pc := 12) 29 dX5_queue_12 (by decide) (by decide) (fun _ => ?_) (fun h => absurd (by decide) h)
  refine g_iconst (pc := 29) (v := 4294967295) dX5_queue_29 (by decide +kernel) ?_
  exact g_iret (pc := 30) dX5_queue_30 ⟨mg_narI _, Or.inl rfl⟩ ⟨rfl, rfl⟩
/-- X4_queue(r4.0, 0, b[2147483648,4294967295], c[0,1]) at qms6 -/
theorem qa270 (l : Launch) {D : va_G} {E : mg_E} {B : Nat} (b : Nat) (h_b : 2147483648 ≤ b) (k_b : b ≤ 4294967295) (c : Nat) (h_c : 0 ≤ c) (k_c : c ≤ 1) : mg_C l (D, E, true, B) mX4_queue [rv (D, E, true, B) 4 0, iv 0, iv b, iv c] qms6 (fun v g' => v = some 4294967295 ∧ g' = qms6) := by
  refine mg_C.of (by decide) rfl (Nat.le_of_ble_eq_true rfl) (List.forall_mem_cons.mpr ⟨rfl, (List.forall_mem_cons.mpr ⟨rfl, (List.forall_mem_cons.mpr ⟨rfl, (List.forall_mem_cons.mpr ⟨rfl, (fun _ h => nomatch h)⟩)⟩)⟩)⟩) (fun K => ?_)
  refine g_aload_n (pc := 0) dX4_queue_0 rfl ?_
  refine g_iload_n (pc := 1) dX4_queue_1 rfl ?_
  refine g_callVi (pc := 2) (Y' := mX4_isStation) (As := [iv 0]) (st := []) (k := 4) (i := 0) (qa29 K.2.1) gX4_queue_X4_isStation rfl (show 0 < 1 by omega) rfl rfl (na := 1) rfl (by decide +kernel) (by decide) (by decide) (Nat.le_of_ble_eq_true rfl) dX4_queue_2 (fun r1 g1 hp => ?_)
  obtain ⟨h1, rfl⟩ := hp
  cases h1
  refine g_if_eq (pc := 5) 28 dX4_queue_5 (by decide) (by decide) (fun h => absurd h (by decide)) (fun _ => ?_)
  refine g_iload_n (pc := 8) dX4_queue_8 rfl ?_
  refine g_sif_lt (pc := 9) 28 dX4_queue_9 (by decide) (by omega) (fun _ => ?_) (fun h => absurd (by have q := mg_sgn h_b (by omega : b < 4294967296); omega) h)
  refine g_iconst (pc := 28) (v := 4294967295) dX4_queue_28 (by decide +kernel) ?_
  exact g_iret (pc := 29) dX4_queue_29 ⟨mg_narI _, Or.inl rfl⟩ ⟨rfl, rfl⟩
/-- X5_queue(r5.0, 0, b[2147483648,4294967295], c[0,1]) at qms6 -/
theorem qa271 (l : Launch) {D : va_G} {E : mg_E} {B : Nat} (b : Nat) (h_b : 2147483648 ≤ b) (k_b : b ≤ 4294967295) (c : Nat) (h_c : 0 ≤ c) (k_c : c ≤ 1) : mg_C l (D, E, true, B) mX5_queue [rv (D, E, true, B) 5 0, iv 0, iv b, iv c] qms6 (fun v g' => v = some 4294967295 ∧ g' = qms6) := by
  refine mg_C.of (by decide) rfl (Nat.le_of_ble_eq_true rfl) (List.forall_mem_cons.mpr ⟨rfl, (List.forall_mem_cons.mpr ⟨rfl, (List.forall_mem_cons.mpr ⟨rfl, (List.forall_mem_cons.mpr ⟨rfl, (fun _ h => nomatch h)⟩)⟩)⟩)⟩) (fun K => ?_)
  refine g_aload_n (pc := 0) dX5_queue_0 rfl ?_
  refine fg_X5_queue_105 (pc := 1) (by rfl) dX5_queue_1 ?_
  refine g_top (b := 1) (by decide +kernel) ?_
  refine g_if_eq (pc := 4) 29 dX5_queue_4 (by decide) (by decide) (fun h => absurd h (by decide)) (fun _ => ?_)
  refine g_aload_n (pc := 7) dX5_queue_7 rfl ?_
  refine g_iload_n (pc := 8) dX5_queue_8 rfl ?_
  refine g_callVi (pc := 9) (Y' := mX5_isStation) (As := [iv 0]) (st := []) (k := 5) (i := 0) (qa32 K.2.1) gX5_queue_X5_isStation rfl (show 0 < 1 by omega) rfl rfl (na := 1) rfl (by decide +kernel) (by decide) (by decide) (Nat.le_of_ble_eq_true rfl) dX5_queue_9 (fun r1 g1 hp => ?_)
  obtain ⟨h1, rfl⟩ := hp
  cases h1
  refine g_if_eq (pc := 12) 29 dX5_queue_12 (by decide) (by decide) (fun h => absurd h (by decide)) (fun _ => ?_)
  refine g_iload_n (pc := 15) dX5_queue_15 rfl ?_
  refine g_sif_lt (pc := 16) 29 dX5_queue_16 (by decide) (by omega) (fun _ => ?_) (fun h => absurd (by have q := mg_sgn h_b (by omega : b < 4294967296); omega) h)
  refine g_iconst (pc := 29) (v := 4294967295) dX5_queue_29 (by decide +kernel) ?_
  exact g_iret (pc := 30) dX5_queue_30 ⟨mg_narI _, Or.inl rfl⟩ ⟨rfl, rfl⟩
/-- X4_queue(r4.0, 0, b[0,2147483647], c[0,1]) at qms6 -/
theorem qa272 (l : Launch) {D : va_G} {E : mg_E} {B : Nat} (b : Nat) (h_b : 0 ≤ b) (k_b : b ≤ 2147483647) (c : Nat) (h_c : 0 ≤ c) (k_c : c ≤ 1) : mg_C l (D, E, true, B) mX4_queue [rv (D, E, true, B) 4 0, iv 0, iv b, iv c] qms6 (fun v g' => v = some 4294967295 ∧ g' = qms6) := by
  refine mg_C.of (by decide) rfl (Nat.le_of_ble_eq_true rfl) (List.forall_mem_cons.mpr ⟨rfl, (List.forall_mem_cons.mpr ⟨rfl, (List.forall_mem_cons.mpr ⟨rfl, (List.forall_mem_cons.mpr ⟨rfl, (fun _ h => nomatch h)⟩)⟩)⟩)⟩) (fun K => ?_)
  refine g_aload_n (pc := 0) dX4_queue_0 rfl ?_
  refine g_iload_n (pc := 1) dX4_queue_1 rfl ?_
  refine g_callVi (pc := 2) (Y' := mX4_isStation) (As := [iv 0]) (st := []) (k := 4) (i := 0) (qa29 K.2.1) gX4_queue_X4_isStation rfl (show 0 < 1 by omega) rfl rfl (na := 1) rfl (by decide +kernel) (by decide) (by decide) (Nat.le_of_ble_eq_true rfl) dX4_queue_2 (fun r1 g1 hp => ?_)
  obtain ⟨h1, rfl⟩ := hp
  cases h1
  refine g_if_eq (pc := 5) 28 dX4_queue_5 (by decide) (by decide) (fun h => absurd h (by decide)) (fun _ => ?_)
  refine g_iload_n (pc := 8) dX4_queue_8 rfl ?_
  refine g_sif_lt (pc := 9) 28 dX4_queue_9 (by decide) (by omega) (fun h => absurd h (by have q := mg_sgs (a := b) (by omega); omega)) (fun _ => ?_)
  refine g_iload_n (pc := 12) dX4_queue_12 rfl ?_
  refine g_aload_n (pc := 13) dX4_queue_13 rfl ?_
  refine fg_X4_queue_18 (pc := 14) dX4_queue_14 ?_
  refine g_iload_n (pc := 17) dX4_queue_17 rfl ?_
  refine g_aastation (pc := 18) (a := 0) (by decide) dX4_queue_18 ?_
  refine fg_X4_queue_118 (pc := 19) (show 0 < 24 by omega) dX4_queue_19 ?_
  refine fg_X4_queue_133 (pc := 22) (show 0 < 24 by omega) dX4_queue_22 ?_
  refine g_top (b := 0) (by decide +kernel) ?_
  refine g_icmp_lt (pc := 25) 30 dX4_queue_25 (by decide) (by omega) (by decide) (fun h => absurd h (by omega)) (fun _ => ?_)
  refine g_iconst (pc := 28) (v := 4294967295) dX4_queue_28 (by decide +kernel) ?_
  exact g_iret (pc := 29) dX4_queue_29 ⟨mg_narI _, Or.inl rfl⟩ ⟨rfl, rfl⟩
/-- X5_queue(r5.0, 0, b[0,2147483647], c[0,1]) at qms6 -/
theorem qa273 (l : Launch) {D : va_G} {E : mg_E} {B : Nat} (b : Nat) (h_b : 0 ≤ b) (k_b : b ≤ 2147483647) (c : Nat) (h_c : 0 ≤ c) (k_c : c ≤ 1) : mg_C l (D, E, true, B) mX5_queue [rv (D, E, true, B) 5 0, iv 0, iv b, iv c] qms6 (fun v g' => v = some 4294967295 ∧ g' = qms6) := by
  refine mg_C.of (by decide) rfl (Nat.le_of_ble_eq_true rfl) (List.forall_mem_cons.mpr ⟨rfl, (List.forall_mem_cons.mpr ⟨rfl, (List.forall_mem_cons.mpr ⟨rfl, (List.forall_mem_cons.mpr ⟨rfl, (fun _ h => nomatch h)⟩)⟩)⟩)⟩) (fun K => ?_)
  refine g_aload_n (pc := 0) dX5_queue_0 rfl ?_
  refine fg_X5_queue_105 (pc := 1) (by rfl) dX5_queue_1 ?_
  refine g_top (b := 1) (by decide +kernel) ?_
  refine g_if_eq (pc := 4) 29 dX5_queue_4 (by decide) (by decide) (fun h => absurd h (by decide)) (fun _ => ?_)
  refine g_aload_n (pc := 7) dX5_queue_7 rfl ?_
  refine g_iload_n (pc := 8) dX5_queue_8 rfl ?_
  refine g_callVi (pc := 9) (Y' := mX5_isStation) (As := [iv 0]) (st := []) (k := 5) (i := 0) (qa32 K.2.1) gX5_queue_X5_isStation rfl (show 0 < 1 by omega) rfl rfl (na := 1) rfl (by decide +kernel) (by decide) (by decide) (Nat.le_of_ble_eq_true rfl) dX5_queue_9 (fun r1 g1 hp => ?_)
  obtain ⟨h1, rfl⟩ := hp
  cases h1
  refine g_if_eq (pc := 12) 29 dX5_queue_12 (by decide) (by decide) (fun h => absurd h (by decide)) (fun _ => ?_)
  refine g_iload_n (pc := 15) dX5_queue_15 rfl ?_
  refine g_sif_lt (pc := 16) 29 dX5_queue_16 (by decide) (by omega) (fun h => absurd h (by have q := mg_sgs (a := b) (by omega); omega)) (fun _ => ?_)
  refine g_iload_n (pc := 19) dX5_queue_19 rfl ?_
  refine g_aload_n (pc := 20) dX5_queue_20 rfl ?_
  refine fg_X5_queue_41 (pc := 21) (by rfl) dX5_queue_21 ?_
  refine g_iload_n (pc := 24) dX5_queue_24 rfl ?_
  refine g_iaload (pc := 25) (k := 46) (i := 0) (n := 24) (show 0 < 1 by omega) rfl (by decide) (by decide) dX5_queue_25 ?_
  refine g_top (b := 0) (by decide +kernel) ?_
  refine g_icmp_lt (pc := 26) 31 dX5_queue_26 (by decide) (by omega) (by decide) (fun h => absurd h (by omega)) (fun _ => ?_)
  refine g_iconst (pc := 29) (v := 4294967295) dX5_queue_29 (by decide +kernel) ?_
  exact g_iret (pc := 30) dX5_queue_30 ⟨mg_narI _, Or.inl rfl⟩ ⟨rfl, rfl⟩
/-- X4_queue(r4.0, 1, b[2147483648,4294967295], c[0,1]) at qms6 -/
theorem qa274 (l : Launch) {D : va_G} {E : mg_E} {B : Nat} (b : Nat) (h_b : 2147483648 ≤ b) (k_b : b ≤ 4294967295) (c : Nat) (h_c : 0 ≤ c) (k_c : c ≤ 1) : mg_C l (D, E, true, B) mX4_queue [rv (D, E, true, B) 4 0, iv 1, iv b, iv c] qms6 (fun v g' => v = some 4294967295 ∧ g' = qms6) := by
  refine mg_C.of (by decide) rfl (Nat.le_of_ble_eq_true rfl) (List.forall_mem_cons.mpr ⟨rfl, (List.forall_mem_cons.mpr ⟨rfl, (List.forall_mem_cons.mpr ⟨rfl, (List.forall_mem_cons.mpr ⟨rfl, (fun _ h => nomatch h)⟩)⟩)⟩)⟩) (fun K => ?_)
  refine g_aload_n (pc := 0) dX4_queue_0 rfl ?_
  refine g_iload_n (pc := 1) dX4_queue_1 rfl ?_
  refine g_callVi (pc := 2) (Y' := mX4_isStation) (As := [iv 1]) (st := []) (k := 4) (i := 0) (qa50 K.2.1) gX4_queue_X4_isStation rfl (show 0 < 1 by omega) rfl rfl (na := 1) rfl (by decide +kernel) (by decide) (by decide) (Nat.le_of_ble_eq_true rfl) dX4_queue_2 (fun r1 g1 hp => ?_)
  obtain ⟨h1, rfl⟩ := hp
  cases h1
  refine g_if_eq (pc := 5) 28 dX4_queue_5 (by decide) (by decide) (fun h => absurd h (by decide)) (fun _ => ?_)
  refine g_iload_n (pc := 8) dX4_queue_8 rfl ?_
  refine g_sif_lt (pc := 9) 28 dX4_queue_9 (by decide) (by omega) (fun _ => ?_) (fun h => absurd (by have q := mg_sgn h_b (by omega : b < 4294967296); omega) h)
  refine g_iconst (pc := 28) (v := 4294967295) dX4_queue_28 (by decide +kernel) ?_
  exact g_iret (pc := 29) dX4_queue_29 ⟨mg_narI _, Or.inl rfl⟩ ⟨rfl, rfl⟩
/-- X5_queue(r5.0, 1, b[2147483648,4294967295], c[0,1]) at qms6 -/
theorem qa275 (l : Launch) {D : va_G} {E : mg_E} {B : Nat} (b : Nat) (h_b : 2147483648 ≤ b) (k_b : b ≤ 4294967295) (c : Nat) (h_c : 0 ≤ c) (k_c : c ≤ 1) : mg_C l (D, E, true, B) mX5_queue [rv (D, E, true, B) 5 0, iv 1, iv b, iv c] qms6 (fun v g' => v = some 4294967295 ∧ g' = qms6) := by
  refine mg_C.of (by decide) rfl (Nat.le_of_ble_eq_true rfl) (List.forall_mem_cons.mpr ⟨rfl, (List.forall_mem_cons.mpr ⟨rfl, (List.forall_mem_cons.mpr ⟨rfl, (List.forall_mem_cons.mpr ⟨rfl, (fun _ h => nomatch h)⟩)⟩)⟩)⟩) (fun K => ?_)
  refine g_aload_n (pc := 0) dX5_queue_0 rfl ?_
  refine fg_X5_queue_105 (pc := 1) (by rfl) dX5_queue_1 ?_
  refine g_top (b := 1) (by decide +kernel) ?_
  refine g_if_eq (pc := 4) 29 dX5_queue_4 (by decide) (by decide) (fun h => absurd h (by decide)) (fun _ => ?_)
  refine g_aload_n (pc := 7) dX5_queue_7 rfl ?_
  refine g_iload_n (pc := 8) dX5_queue_8 rfl ?_
  refine g_callVi (pc := 9) (Y' := mX5_isStation) (As := [iv 1]) (st := []) (k := 5) (i := 0) (qa53 K.2.1) gX5_queue_X5_isStation rfl (show 0 < 1 by omega) rfl rfl (na := 1) rfl (by decide +kernel) (by decide) (by decide) (Nat.le_of_ble_eq_true rfl) dX5_queue_9 (fun r1 g1 hp => ?_)
  obtain ⟨h1, rfl⟩ := hp
  cases h1
  refine g_if_eq (pc := 12) 29 dX5_queue_12 (by decide) (by decide) (fun h => absurd h (by decide)) (fun _ => ?_)
  refine g_iload_n (pc := 15) dX5_queue_15 rfl ?_
  refine g_sif_lt (pc := 16) 29 dX5_queue_16 (by decide) (by omega) (fun _ => ?_) (fun h => absurd (by have q := mg_sgn h_b (by omega : b < 4294967296); omega) h)
  refine g_iconst (pc := 29) (v := 4294967295) dX5_queue_29 (by decide +kernel) ?_
  exact g_iret (pc := 30) dX5_queue_30 ⟨mg_narI _, Or.inl rfl⟩ ⟨rfl, rfl⟩
/-- X4_queue(r4.0, 1, b[0,2147483647], c[0,1]) at qms6 -/
theorem qa276 (l : Launch) {D : va_G} {E : mg_E} {B : Nat} (b : Nat) (h_b : 0 ≤ b) (k_b : b ≤ 2147483647) (c : Nat) (h_c : 0 ≤ c) (k_c : c ≤ 1) : mg_C l (D, E, true, B) mX4_queue [rv (D, E, true, B) 4 0, iv 1, iv b, iv c] qms6 (fun v g' => v = some 4294967295 ∧ g' = qms6) := by
  refine mg_C.of (by decide) rfl (Nat.le_of_ble_eq_true rfl) (List.forall_mem_cons.mpr ⟨rfl, (List.forall_mem_cons.mpr ⟨rfl, (List.forall_mem_cons.mpr ⟨rfl, (List.forall_mem_cons.mpr ⟨rfl, (fun _ h => nomatch h)⟩)⟩)⟩)⟩) (fun K => ?_)
  refine g_aload_n (pc := 0) dX4_queue_0 rfl ?_
  refine g_iload_n (pc := 1) dX4_queue_1 rfl ?_
  refine g_callVi (pc := 2) (Y' := mX4_isStation) (As := [iv 1]) (st := []) (k := 4) (i := 0) (qa50 K.2.1) gX4_queue_X4_isStation rfl (show 0 < 1 by omega) rfl rfl (na := 1) rfl (by decide +kernel) (by decide) (by decide) (Nat.le_of_ble_eq_true rfl) dX4_queue_2 (fun r1 g1 hp => ?_)
  obtain ⟨h1, rfl⟩ := hp
  cases h1
  refine g_if_eq (pc := 5) 28 dX4_queue_5 (by decide) (by decide) (fun h => absurd h (by decide)) (fun _ => ?_)
  refine g_iload_n (pc := 8) dX4_queue_8 rfl ?_
  refine g_sif_lt (pc := 9) 28 dX4_queue_9 (by decide) (by omega) (fun h => absurd h (by have q := mg_sgs (a := b) (by omega); omega)) (fun _ => ?_)
  refine g_iload_n (pc := 12) dX4_queue_12 rfl ?_
  refine g_aload_n (pc := 13) dX4_queue_13 rfl ?_
  refine fg_X4_queue_18 (pc := 14) dX4_queue_14 ?_
  refine g_iload_n (pc := 17) dX4_queue_17 rfl ?_
  refine g_aastation (pc := 18) (a := 1) (by decide) dX4_queue_18 ?_
  refine fg_X4_queue_118 (pc := 19) (show 1 < 24 by omega) dX4_queue_19 ?_
  refine fg_X4_queue_133 (pc := 22) (show 1 < 24 by omega) dX4_queue_22 ?_
  refine g_top (b := 0) (by decide +kernel) ?_
  refine g_icmp_lt (pc := 25) 30 dX4_queue_25 (by decide) (by omega) (by decide) (fun h => absurd h (by omega)) (fun _ => ?_)
  refine g_iconst (pc := 28) (v := 4294967295) dX4_queue_28 (by decide +kernel) ?_
  exact g_iret (pc := 29) dX4_queue_29 ⟨mg_narI _, Or.inl rfl⟩ ⟨rfl, rfl⟩
/-- X5_queue(r5.0, 1, b[0,2147483647], c[0,1]) at qms6 -/
theorem qa277 (l : Launch) {D : va_G} {E : mg_E} {B : Nat} (b : Nat) (h_b : 0 ≤ b) (k_b : b ≤ 2147483647) (c : Nat) (h_c : 0 ≤ c) (k_c : c ≤ 1) : mg_C l (D, E, true, B) mX5_queue [rv (D, E, true, B) 5 0, iv 1, iv b, iv c] qms6 (fun v g' => v = some 4294967295 ∧ g' = qms6) := by
  refine mg_C.of (by decide) rfl (Nat.le_of_ble_eq_true rfl) (List.forall_mem_cons.mpr ⟨rfl, (List.forall_mem_cons.mpr ⟨rfl, (List.forall_mem_cons.mpr ⟨rfl, (List.forall_mem_cons.mpr ⟨rfl, (fun _ h => nomatch h)⟩)⟩)⟩)⟩) (fun K => ?_)
  refine g_aload_n (pc := 0) dX5_queue_0 rfl ?_
  refine fg_X5_queue_105 (pc := 1) (by rfl) dX5_queue_1 ?_
  refine g_top (b := 1) (by decide +kernel) ?_
  refine g_if_eq (pc := 4) 29 dX5_queue_4 (by decide) (by decide) (fun h => absurd h (by decide)) (fun _ => ?_)
  refine g_aload_n (pc := 7) dX5_queue_7 rfl ?_
  refine g_iload_n (pc := 8) dX5_queue_8 rfl ?_
  refine g_callVi (pc := 9) (Y' := mX5_isStation) (As := [iv 1]) (st := []) (k := 5) (i := 0) (qa53 K.2.1) gX5_queue_X5_isStation rfl (show 0 < 1 by omega) rfl rfl (na := 1) rfl (by decide +kernel) (by decide) (by decide) (Nat.le_of_ble_eq_true rfl) dX5_queue_9 (fun r1 g1 hp => ?_)
  obtain ⟨h1, rfl⟩ := hp
  cases h1
  refine g_if_eq (pc := 12) 29 dX5_queue_12 (by decide) (by decide) (fun h => absurd h (by decide)) (fun _ => ?_)
  refine g_iload_n (pc := 15) dX5_queue_15 rfl ?_
  refine g_sif_lt (pc := 16) 29 dX5_queue_16 (by decide) (by omega) (fun h => absurd h (by have q := mg_sgs (a := b) (by omega); omega)) (fun _ => ?_)
  refine g_iload_n (pc := 19) dX5_queue_19 rfl ?_
  refine g_aload_n (pc := 20) dX5_queue_20 rfl ?_
  refine fg_X5_queue_41 (pc := 21) (by rfl) dX5_queue_21 ?_
  refine g_iload_n (pc := 24) dX5_queue_24 rfl ?_
  refine g_iaload (pc := 25) (k := 46) (i := 0) (n := 24) (show 0 < 1 by omega) rfl (by decide) (by decide) dX5_queue_25 ?_
  refine g_top (b := 0) (by decide +kernel) ?_
  refine g_icmp_lt (pc := 26) 31 dX5_queue_26 (by decide) (by omega) (by decide) (fun h => absurd h (by omega)) (fun _ => ?_)
  refine g_iconst (pc := 29) (v := 4294967295) dX5_queue_29 (by decide +kernel) ?_
  exact g_iret (pc := 30) dX5_queue_30 ⟨mg_narI _, Or.inl rfl⟩ ⟨rfl, rfl⟩
/-- X4_letter(r4.0, a[2147483648,4294967295], b[0,4294967295]) at qms6 -/
theorem qa278 (l : Launch) {D : va_G} {E : mg_E} {B : Nat} (a : Nat) (h_a : 2147483648 ≤ a) (k_a : a ≤ 4294967295) (b : Nat) (h_b : 0 ≤ b) (k_b : b ≤ 4294967295) : mg_C l (D, E, true, B) mX4_letter [rv (D, E, true, B) 4 0, iv a, iv b] qms6 (fun v g' => v = some 4294967295 ∧ g' = qms6) := by
  refine mg_C.of (by decide) rfl (Nat.le_of_ble_eq_true rfl) (List.forall_mem_cons.mpr ⟨rfl, (List.forall_mem_cons.mpr ⟨rfl, (List.forall_mem_cons.mpr ⟨rfl, (fun _ h => nomatch h)⟩)⟩)⟩) (fun K => ?_)
  refine g_aload_n (pc := 0) dX4_letter_0 rfl ?_
  refine g_iload_n (pc := 1) dX4_letter_1 rfl ?_
  refine g_callVi (pc := 2) (Y' := mX4_isCopy) (As := [iv a]) (st := []) (k := 4) (i := 0) (qa102 K.2.1 a h_a k_a) gX4_letter_X4_isCopy rfl (show 0 < 1 by omega) rfl rfl (na := 1) rfl (by decide +kernel) (by decide) (by decide) (Nat.le_of_ble_eq_true rfl) dX4_letter_2 (fun r1 g1 hp => ?_)
  obtain ⟨h1, rfl⟩ := hp
  cases h1
  refine g_if_ne (pc := 5) 10 dX4_letter_5 (by decide) (by decide) (fun h => absurd (by decide) h) (fun _ => ?_)
  refine g_iconst (pc := 8) (v := 4294967295) dX4_letter_8 (by decide +kernel) ?_
  exact g_iret (pc := 9) dX4_letter_9 ⟨mg_narI _, Or.inl rfl⟩ ⟨rfl, rfl⟩
