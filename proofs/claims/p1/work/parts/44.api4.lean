/-- X5_letter(r5.0, a[2147483648,4294967295], b[0,4294967295]) at qms6 -/
theorem qa279 (l : Launch) {D : va_G} {E : mg_E} {B : Nat} (a : Nat) (h_a : 2147483648 ≤ a) (k_a : a ≤ 4294967295) (b : Nat) (h_b : 0 ≤ b) (k_b : b ≤ 4294967295) : mg_C l (D, E, true, B) mX5_letter [rv (D, E, true, B) 5 0, iv a, iv b] qms6 (fun v g' => v = some 4294967295 ∧ g' = qms6) := by
  refine mg_C.of (by decide) rfl (Nat.le_of_ble_eq_true rfl) (List.forall_mem_cons.mpr ⟨rfl, (List.forall_mem_cons.mpr ⟨rfl, (List.forall_mem_cons.mpr ⟨rfl, (fun _ h => nomatch h)⟩)⟩)⟩) (fun K => ?_)
  refine g_aload_n (pc := 0) dX5_letter_0 rfl ?_
  refine fg_X5_letter_105 (pc := 1) (by rfl) dX5_letter_1 ?_
  refine g_top (b := 1) (by decide +kernel) ?_
  refine g_if_eq (pc := 4) 19 dX5_letter_4 (by decide) (by decide) (fun h => absurd h (by decide)) (fun _ => ?_)
  refine g_iload_n (pc := 7) dX5_letter_7 rfl ?_
  refine g_sif_lt (pc := 8) 19 dX5_letter_8 (by decide) (by omega) (fun _ => ?_) (fun h => absurd (by have q := mg_sgn h_a (by omega : a < 4294967296); omega) h)
  refine g_iconst (pc := 19) (v := 4294967295) dX5_letter_19 (by decide +kernel) ?_
  exact g_iret (pc := 20) dX5_letter_20 ⟨mg_narI _, Or.inl rfl⟩ ⟨rfl, rfl⟩
/-- X4_letter(r4.0, a[0,2147483647], b[0,4294967295]) at qms6 -/
theorem qa280 (l : Launch) {D : va_G} {E : mg_E} {B : Nat} (a : Nat) (h_a : 0 ≤ a) (k_a : a ≤ 2147483647) (b : Nat) (h_b : 0 ≤ b) (k_b : b ≤ 4294967295) : mg_C l (D, E, true, B) mX4_letter [rv (D, E, true, B) 4 0, iv a, iv b] qms6 (fun v g' => v = some 4294967295 ∧ g' = qms6) := by
  refine mg_C.of (by decide) rfl (Nat.le_of_ble_eq_true rfl) (List.forall_mem_cons.mpr ⟨rfl, (List.forall_mem_cons.mpr ⟨rfl, (List.forall_mem_cons.mpr ⟨rfl, (fun _ h => nomatch h)⟩)⟩)⟩) (fun K => ?_)
  refine g_aload_n (pc := 0) dX4_letter_0 rfl ?_
  refine g_iload_n (pc := 1) dX4_letter_1 rfl ?_
  refine g_callVi (pc := 2) (Y' := mX4_isCopy) (As := [iv a]) (st := []) (k := 4) (i := 0) (qa105 K.2.1 a h_a k_a) gX4_letter_X4_isCopy rfl (show 0 < 1 by omega) rfl rfl (na := 1) rfl (by decide +kernel) (by decide) (by decide) (Nat.le_of_ble_eq_true rfl) dX4_letter_2 (fun r1 g1 hp => ?_)
  obtain ⟨h1, rfl⟩ := hp
  cases h1
  refine g_if_ne (pc := 5) 10 dX4_letter_5 (by decide) (by decide) (fun h => absurd (by decide) h) (fun _ => ?_)
  refine g_iconst (pc := 8) (v := 4294967295) dX4_letter_8 (by decide +kernel) ?_
  exact g_iret (pc := 9) dX4_letter_9 ⟨mg_narI _, Or.inl rfl⟩ ⟨rfl, rfl⟩
/-- X5_letter(r5.0, a[0,2147483647], b[0,4294967295]) at qms6 -/
theorem qa281 (l : Launch) {D : va_G} {E : mg_E} {B : Nat} (a : Nat) (h_a : 0 ≤ a) (k_a : a ≤ 2147483647) (b : Nat) (h_b : 0 ≤ b) (k_b : b ≤ 4294967295) : mg_C l (D, E, true, B) mX5_letter [rv (D, E, true, B) 5 0, iv a, iv b] qms6 (fun v g' => v = some 4294967295 ∧ g' = qms6) := by
  refine mg_C.of (by decide) rfl (Nat.le_of_ble_eq_true rfl) (List.forall_mem_cons.mpr ⟨rfl, (List.forall_mem_cons.mpr ⟨rfl, (List.forall_mem_cons.mpr ⟨rfl, (fun _ h => nomatch h)⟩)⟩)⟩) (fun K => ?_)
  refine g_aload_n (pc := 0) dX5_letter_0 rfl ?_
  refine fg_X5_letter_105 (pc := 1) (by rfl) dX5_letter_1 ?_
  refine g_top (b := 1) (by decide +kernel) ?_
  refine g_if_eq (pc := 4) 19 dX5_letter_4 (by decide) (by decide) (fun h => absurd h (by decide)) (fun _ => ?_)
  refine g_iload_n (pc := 7) dX5_letter_7 rfl ?_
  refine g_sif_lt (pc := 8) 19 dX5_letter_8 (by decide) (by omega) (fun h => absurd h (by have q := mg_sgs (a := a) (by omega); omega)) (fun _ => ?_)
  refine g_iload_n (pc := 11) dX5_letter_11 rfl ?_
  refine g_aload_n (pc := 12) dX5_letter_12 rfl ?_
  refine fg_X5_letter_136 (pc := 13) (by rfl) dX5_letter_13 ?_
  refine g_top (b := 0) (by decide +kernel) ?_
  refine g_icmp_lt (pc := 16) 21 dX5_letter_16 (by decide) (by omega) (by decide) (fun h => absurd h (by omega)) (fun _ => ?_)
  refine g_iconst (pc := 19) (v := 4294967295) dX5_letter_19 (by decide +kernel) ?_
  exact g_iret (pc := 20) dX5_letter_20 ⟨mg_narI _, Or.inl rfl⟩ ⟨rfl, rfl⟩
/-- X4_told(r4.0, a[2147483648,4294967295], b[0,4294967295]) at qms6 -/
theorem qa282 (l : Launch) {D : va_G} {E : mg_E} {B : Nat} (a : Nat) (h_a : 2147483648 ≤ a) (k_a : a ≤ 4294967295) (b : Nat) (h_b : 0 ≤ b) (k_b : b ≤ 4294967295) : mg_C l (D, E, true, B) mX4_told [rv (D, E, true, B) 4 0, iv a, iv b] qms6 (fun v g' => v = some 4294967295 ∧ g' = qms6) := by
  refine mg_C.of (by decide) rfl (Nat.le_of_ble_eq_true rfl) (List.forall_mem_cons.mpr ⟨rfl, (List.forall_mem_cons.mpr ⟨rfl, (List.forall_mem_cons.mpr ⟨rfl, (fun _ h => nomatch h)⟩)⟩)⟩) (fun K => ?_)
  refine g_aload_n (pc := 0) dX4_told_0 rfl ?_
  refine g_iload_n (pc := 1) dX4_told_1 rfl ?_
  refine g_callVi (pc := 2) (Y' := mX4_isStation) (As := [iv a]) (st := []) (k := 4) (i := 0) (qa15 K.2.1 a h_a k_a) gX4_told_X4_isStation rfl (show 0 < 1 by omega) rfl rfl (na := 1) rfl (by decide +kernel) (by decide) (by decide) (Nat.le_of_ble_eq_true rfl) dX4_told_2 (fun r1 g1 hp => ?_)
  obtain ⟨h1, rfl⟩ := hp
  cases h1
  refine g_if_ne (pc := 5) 10 dX4_told_5 (by decide) (by decide) (fun h => absurd (by decide) h) (fun _ => ?_)
  refine g_iconst (pc := 8) (v := 4294967295) dX4_told_8 (by decide +kernel) ?_
  exact g_iret (pc := 9) dX4_told_9 ⟨mg_narI _, Or.inl rfl⟩ ⟨rfl, rfl⟩
/-- X5_told(r5.0, a[2147483648,4294967295], b[0,4294967295]) at qms6 -/
theorem qa283 (l : Launch) {D : va_G} {E : mg_E} {B : Nat} (a : Nat) (h_a : 2147483648 ≤ a) (k_a : a ≤ 4294967295) (b : Nat) (h_b : 0 ≤ b) (k_b : b ≤ 4294967295) : mg_C l (D, E, true, B) mX5_told [rv (D, E, true, B) 5 0, iv a, iv b] qms6 (fun v g' => v = some 4294967295 ∧ g' = qms6) := by
  refine mg_C.of (by decide) rfl (Nat.le_of_ble_eq_true rfl) (List.forall_mem_cons.mpr ⟨rfl, (List.forall_mem_cons.mpr ⟨rfl, (List.forall_mem_cons.mpr ⟨rfl, (fun _ h => nomatch h)⟩)⟩)⟩) (fun K => ?_)
  refine g_aload_n (pc := 0) dX5_told_0 rfl ?_
  refine fg_X5_told_105 (pc := 1) (by rfl) dX5_told_1 ?_
  refine g_top (b := 1) (by decide +kernel) ?_
  refine g_if_eq (pc := 4) 15 dX5_told_4 (by decide) (by decide) (fun h => absurd h (by decide)) (fun _ => ?_)
  refine g_aload_n (pc := 7) dX5_told_7 rfl ?_
  refine g_iload_n (pc := 8) dX5_told_8 rfl ?_
  refine g_callVi (pc := 9) (Y' := mX5_isStation) (As := [iv a]) (st := []) (k := 5) (i := 0) (qa18 K.2.1 a h_a k_a) gX5_told_X5_isStation rfl (show 0 < 1 by omega) rfl rfl (na := 1) rfl (by decide +kernel) (by decide) (by decide) (Nat.le_of_ble_eq_true rfl) dX5_told_9 (fun r1 g1 hp => ?_)
  obtain ⟨h1, rfl⟩ := hp
  cases h1
  refine g_if_ne (pc := 12) 17 dX5_told_12 (by decide) (by decide) (fun h => absurd (by decide) h) (fun _ => ?_)
  refine g_iconst (pc := 15) (v := 4294967295) dX5_told_15 (by decide +kernel) ?_
  exact g_iret (pc := 16) dX5_told_16 ⟨mg_narI _, Or.inl rfl⟩ ⟨rfl, rfl⟩
/-- X4_told(r4.0, a[2,2147483647], b[0,4294967295]) at qms6 -/
theorem qa284 (l : Launch) {D : va_G} {E : mg_E} {B : Nat} (a : Nat) (h_a : 2 ≤ a) (k_a : a ≤ 2147483647) (b : Nat) (h_b : 0 ≤ b) (k_b : b ≤ 4294967295) : mg_C l (D, E, true, B) mX4_told [rv (D, E, true, B) 4 0, iv a, iv b] qms6 (fun v g' => v = some 4294967295 ∧ g' = qms6) := by
  refine mg_C.of (by decide) rfl (Nat.le_of_ble_eq_true rfl) (List.forall_mem_cons.mpr ⟨rfl, (List.forall_mem_cons.mpr ⟨rfl, (List.forall_mem_cons.mpr ⟨rfl, (fun _ h => nomatch h)⟩)⟩)⟩) (fun K => ?_)
  refine g_aload_n (pc := 0) dX4_told_0 rfl ?_
  refine g_iload_n (pc := 1) dX4_told_1 rfl ?_
  refine g_callVi (pc := 2) (Y' := mX4_isStation) (As := [iv a]) (st := []) (k := 4) (i := 0) (qa22 K.2.1 a h_a k_a) gX4_told_X4_isStation rfl (show 0 < 1 by omega) rfl rfl (na := 1) rfl (by decide +kernel) (by decide) (by decide) (Nat.le_of_ble_eq_true rfl) dX4_told_2 (fun r1 g1 hp => ?_)
  obtain ⟨h1, rfl⟩ := hp
  cases h1
  refine g_if_ne (pc := 5) 10 dX4_told_5 (by decide) (by decide) (fun h => absurd (by decide) h) (fun _ => ?_)
  refine g_iconst (pc := 8) (v := 4294967295) dX4_told_8 (by decide +kernel) ?_
  exact g_iret (pc := 9) dX4_told_9 ⟨mg_narI _, Or.inl rfl⟩ ⟨rfl, rfl⟩
/-- X5_told(r5.0, a[2,2147483647], b[0,4294967295]) at qms6 -/
theorem qa285 (l : Launch) {D : va_G} {E : mg_E} {B : Nat} (a : Nat) (h_a : 2 ≤ a) (k_a : a ≤ 2147483647) (b : Nat) (h_b : 0 ≤ b) (k_b : b ≤ 4294967295) : mg_C l (D, E, true, B) mX5_told [rv (D, E, true, B) 5 0, iv a, iv b] qms6 (fun v g' => v = some 4294967295 ∧ g' = qms6) := by
  refine mg_C.of (by decide) rfl (Nat.le_of_ble_eq_true rfl) (List.forall_mem_cons.mpr ⟨rfl, (List.forall_mem_cons.mpr ⟨rfl, (List.forall_mem_cons.mpr ⟨rfl, (fun _ h => nomatch h)⟩)⟩)⟩) (fun K => ?_)
  refine g_aload_n (pc := 0) dX5_told_0 rfl ?_
  refine fg_X5_told_105 (pc := 1) (by rfl) dX5_told_1 ?_
  refine g_top (b := 1) (by decide +kernel) ?_
  refine g_if_eq (pc := 4) 15 dX5_told_4 (by decide) (by decide) (fun h => absurd h (by decide)) (fun _ => ?_)
  refine g_aload_n (pc := 7) dX5_told_7 rfl ?_
  refine g_iload_n (pc := 8) dX5_told_8 rfl ?_
  refine g_callVi (pc := 9) (Y' := mX5_isStation) (As := [iv a]) (st := []) (k := 5) (i := 0) (qa25 K.2.1 a h_a k_a) gX5_told_X5_isStation rfl (show 0 < 1 by omega) rfl rfl (na := 1) rfl (by decide +kernel) (by decide) (by decide) (Nat.le_of_ble_eq_true rfl) dX5_told_9 (fun r1 g1 hp => ?_)
  obtain ⟨h1, rfl⟩ := hp
  cases h1
  refine g_if_ne (pc := 12) 17 dX5_told_12 (by decide) (by decide) (fun h => absurd (by decide) h) (fun _ => ?_)
  refine g_iconst (pc := 15) (v := 4294967295) dX5_told_15 (by decide +kernel) ?_
  exact g_iret (pc := 16) dX5_told_16 ⟨mg_narI _, Or.inl rfl⟩ ⟨rfl, rfl⟩
/-- X4_told(r4.0, 0, 0) at qms6 -/
theorem qa286 (l : Launch) {D : va_G} {E : mg_E} {B : Nat} : mg_C l (D, E, true, B) mX4_told [rv (D, E, true, B) 4 0, iv 0, iv 0] qms6 (fun v g' => v = some 0 ∧ g' = qms6) := by
  refine mg_C.of (by decide) rfl (Nat.le_of_ble_eq_true rfl) (List.forall_mem_cons.mpr ⟨rfl, (List.forall_mem_cons.mpr ⟨rfl, (List.forall_mem_cons.mpr ⟨rfl, (fun _ h => nomatch h)⟩)⟩)⟩) (fun K => ?_)
  refine g_aload_n (pc := 0) dX4_told_0 rfl ?_
  refine g_iload_n (pc := 1) dX4_told_1 rfl ?_
  refine g_callVi (pc := 2) (Y' := mX4_isStation) (As := [iv 0]) (st := []) (k := 4) (i := 0) (qa29 K.2.1) gX4_told_X4_isStation rfl (show 0 < 1 by omega) rfl rfl (na := 1) rfl (by decide +kernel) (by decide) (by decide) (Nat.le_of_ble_eq_true rfl) dX4_told_2 (fun r1 g1 hp => ?_)
  obtain ⟨h1, rfl⟩ := hp
  cases h1
  refine g_if_ne (pc := 5) 10 dX4_told_5 (by decide) (by decide) (fun _ => ?_) (fun h => absurd h (by decide))
  refine g_aload_n (pc := 10) dX4_told_10 rfl ?_
  refine fg_X4_told_18 (pc := 11) dX4_told_11 ?_
  refine g_iload_n (pc := 14) dX4_told_14 rfl ?_
  refine g_aastation (pc := 15) (a := 0) (by decide) dX4_told_15 ?_
  refine g_astore_n (pc := 16) (ls' := [rv (D, E, true, B) 4 0, iv 0, iv 0, rv (D, E, true, B) 3 0]) dX4_told_16 (Nat.le_of_ble_eq_true rfl) (Nat.le_of_ble_eq_true rfl) rfl ?_
  refine g_iload_n (pc := 17) dX4_told_17 rfl ?_
  refine g_switchIn (pc := 18) 72 dX4_told_18 (by decide) (by decide) (by decide) rfl (by decide) ?_
  refine g_aload_n (pc := 72) dX4_told_72 rfl ?_
  refine fg_X4_told_178 (pc := 73) (show 0 < 24 by omega) dX4_told_73 ?_
  refine g_top (b := 0) (by decide +kernel) ?_
  refine g_if_eq (pc := 76) 83 dX4_told_76 (by decide) (by decide) (fun _ => ?_) (fun h => absurd (by decide) h)
  refine g_iconst (pc := 83) (v := 0) dX4_told_83 (by decide +kernel) ?_
  exact g_iret (pc := 84) dX4_told_84 ⟨mg_narI _, Or.inl rfl⟩ ⟨rfl, rfl⟩
/-- X5_told(r5.0, 0, 0) at qms6 -/
theorem qa287 (l : Launch) {D : va_G} {E : mg_E} {B : Nat} : mg_C l (D, E, true, B) mX5_told [rv (D, E, true, B) 5 0, iv 0, iv 0] qms6 (fun v g' => v = some 0 ∧ g' = qms6) := by
  refine mg_C.of (by decide) rfl (Nat.le_of_ble_eq_true rfl) (List.forall_mem_cons.mpr ⟨rfl, (List.forall_mem_cons.mpr ⟨rfl, (List.forall_mem_cons.mpr ⟨rfl, (fun _ h => nomatch h)⟩)⟩)⟩) (fun K => ?_)
  refine g_aload_n (pc := 0) dX5_told_0 rfl ?_
  refine fg_X5_told_105 (pc := 1) (by rfl) dX5_told_1 ?_
  refine g_top (b := 1) (by decide +kernel) ?_
  refine g_if_eq (pc := 4) 15 dX5_told_4 (by decide) (by decide) (fun h => absurd h (by decide)) (fun _ => ?_)
  refine g_aload_n (pc := 7) dX5_told_7 rfl ?_
  refine g_iload_n (pc := 8) dX5_told_8 rfl ?_
  refine g_callVi (pc := 9) (Y' := mX5_isStation) (As := [iv 0]) (st := []) (k := 5) (i := 0) (qa32 K.2.1) gX5_told_X5_isStation rfl (show 0 < 1 by omega) rfl rfl (na := 1) rfl (by decide +kernel) (by decide) (by decide) (Nat.le_of_ble_eq_true rfl) dX5_told_9 (fun r1 g1 hp => ?_)
  obtain ⟨h1, rfl⟩ := hp
  cases h1
  refine g_if_ne (pc := 12) 17 dX5_told_12 (by decide) (by decide) (fun _ => ?_) (fun h => absurd h (by decide))
  refine g_iconst (pc := 17) (v := 0) dX5_told_17 (by decide +kernel) ?_
  refine g_istore_n (pc := 18) (ls' := [rv (D, E, true, B) 5 0, iv 0, iv 0, iv 0]) dX5_told_18 (Nat.le_of_ble_eq_true rfl) (Nat.le_of_ble_eq_true rfl) rfl ?_
  refine g_iload_n (pc := 19) dX5_told_19 rfl ?_
  refine g_switchIn (pc := 20) 76 dX5_told_20 (by decide) (by decide) (by decide) rfl (by decide) ?_
  refine g_aload_n (pc := 76) dX5_told_76 rfl ?_
  refine fg_X5_told_17 (pc := 77) (by rfl) dX5_told_77 ?_
  refine g_iload_n (pc := 80) dX5_told_80 rfl ?_
  refine g_baload (pc := 81) (k := 37) (i := 0) (n := 24) (show 0 < 1 by omega) rfl (by decide) (by decide) dX5_told_81 ?_
  refine g_top (b := 0) (by decide +kernel) ?_
  refine g_if_eq (pc := 82) 89 dX5_told_82 (by decide) (by decide) (fun _ => ?_) (fun h => absurd (by decide) h)
  refine g_iconst (pc := 89) (v := 0) dX5_told_89 (by decide +kernel) ?_
  exact g_iret (pc := 90) dX5_told_90 ⟨mg_narI _, Or.inl rfl⟩ ⟨rfl, rfl⟩
/-- X4_told(r4.0, 0, 1) at qms6 -/
theorem qa288 (l : Launch) {D : va_G} {E : mg_E} {B : Nat} : mg_C l (D, E, true, B) mX4_told [rv (D, E, true, B) 4 0, iv 0, iv 1] qms6 (fun v g' => v = some 0 ∧ g' = qms6) := by
  refine mg_C.of (by decide) rfl (Nat.le_of_ble_eq_true rfl) (List.forall_mem_cons.mpr ⟨rfl, (List.forall_mem_cons.mpr ⟨rfl, (List.forall_mem_cons.mpr ⟨rfl, (fun _ h => nomatch h)⟩)⟩)⟩) (fun K => ?_)
  refine g_aload_n (pc := 0) dX4_told_0 rfl ?_
  refine g_iload_n (pc := 1) dX4_told_1 rfl ?_
  refine g_callVi (pc := 2) (Y' := mX4_isStation) (As := [iv 0]) (st := []) (k := 4) (i := 0) (qa29 K.2.1) gX4_told_X4_isStation rfl (show 0 < 1 by omega) rfl rfl (na := 1) rfl (by decide +kernel) (by decide) (by decide) (Nat.le_of_ble_eq_true rfl) dX4_told_2 (fun r1 g1 hp => ?_)
  obtain ⟨h1, rfl⟩ := hp
  cases h1
  refine g_if_ne (pc := 5) 10 dX4_told_5 (by decide) (by decide) (fun _ => ?_) (fun h => absurd h (by decide))
  refine g_aload_n (pc := 10) dX4_told_10 rfl ?_
  refine fg_X4_told_18 (pc := 11) dX4_told_11 ?_
  refine g_iload_n (pc := 14) dX4_told_14 rfl ?_
  refine g_aastation (pc := 15) (a := 0) (by decide) dX4_told_15 ?_
  refine g_astore_n (pc := 16) (ls' := [rv (D, E, true, B) 4 0, iv 0, iv 1, rv (D, E, true, B) 3 0]) dX4_told_16 (Nat.le_of_ble_eq_true rfl) (Nat.le_of_ble_eq_true rfl) rfl ?_
  refine g_iload_n (pc := 17) dX4_told_17 rfl ?_
  refine g_switchIn (pc := 18) 85 dX4_told_18 (by decide) (by decide) (by decide) rfl (by decide) ?_
  refine g_aload_n (pc := 85) dX4_told_85 rfl ?_
  refine fg_X4_told_111 (pc := 86) (show 0 < 24 by omega) dX4_told_86 ?_
  refine g_top (b := 0) (by decide +kernel) ?_
  refine g_if_eq (pc := 89) 96 dX4_told_89 (by decide) (by decide) (fun _ => ?_) (fun h => absurd (by decide) h)
  refine g_iconst (pc := 96) (v := 0) dX4_told_96 (by decide +kernel) ?_
  exact g_iret (pc := 97) dX4_told_97 ⟨mg_narI _, Or.inl rfl⟩ ⟨rfl, rfl⟩
/-- X5_told(r5.0, 0, 1) at qms6 -/
theorem qa289 (l : Launch) {D : va_G} {E : mg_E} {B : Nat} : mg_C l (D, E, true, B) mX5_told [rv (D, E, true, B) 5 0, iv 0, iv 1] qms6 (fun v g' => v = some 0 ∧ g' = qms6) := by
  refine mg_C.of (by decide) rfl (Nat.le_of_ble_eq_true rfl) (List.forall_mem_cons.mpr ⟨rfl, (List.forall_mem_cons.mpr ⟨rfl, (List.forall_mem_cons.mpr ⟨rfl, (fun _ h => nomatch h)⟩)⟩)⟩) (fun K => ?_)
  refine g_aload_n (pc := 0) dX5_told_0 rfl ?_
  refine fg_X5_told_105 (pc := 1) (by rfl) dX5_told_1 ?_
  refine g_top (b := 1) (by decide +kernel) ?_
  refine g_if_eq (pc := 4) 15 dX5_told_4 (by decide) (by decide) (fun h => absurd h (by decide)) (fun _ => ?_)
  refine g_aload_n (pc := 7) dX5_told_7 rfl ?_
  refine g_iload_n (pc := 8) dX5_told_8 rfl ?_
  refine g_callVi (pc := 9) (Y' := mX5_isStation) (As := [iv 0]) (st := []) (k := 5) (i := 0) (qa32 K.2.1) gX5_told_X5_isStation rfl (show 0 < 1 by omega) rfl rfl (na := 1) rfl (by decide +kernel) (by decide) (by decide) (Nat.le_of_ble_eq_true rfl) dX5_told_9 (fun r1 g1 hp => ?_)
  obtain ⟨h1, rfl⟩ := hp
  cases h1
  refine g_if_ne (pc := 12) 17 dX5_told_12 (by decide) (by decide) (fun _ => ?_) (fun h => absurd h (by decide))
  refine g_iconst (pc := 17) (v := 0) dX5_told_17 (by decide +kernel) ?_
  refine g_istore_n (pc := 18) (ls' := [rv (D, E, true, B) 5 0, iv 0, iv 1, iv 0]) dX5_told_18 (Nat.le_of_ble_eq_true rfl) (Nat.le_of_ble_eq_true rfl) rfl ?_
  refine g_iload_n (pc := 19) dX5_told_19 rfl ?_
  refine g_switchIn (pc := 20) 91 dX5_told_20 (by decide) (by decide) (by decide) rfl (by decide) ?_
  refine g_aload_n (pc := 91) dX5_told_91 rfl ?_
  refine fg_X5_told_20 (pc := 92) (by rfl) dX5_told_92 ?_
  refine g_iload_n (pc := 95) dX5_told_95 rfl ?_
  refine g_baload (pc := 96) (k := 38) (i := 0) (n := 24) (show 0 < 1 by omega) rfl (by decide) (by decide) dX5_told_96 ?_
  refine g_top (b := 0) (by decide +kernel) ?_
  refine g_if_eq (pc := 97) 104 dX5_told_97 (by decide) (by decide) (fun _ => ?_) (fun h => absurd (by decide) h)
  refine g_iconst (pc := 104) (v := 0) dX5_told_104 (by decide +kernel) ?_
  exact g_iret (pc := 105) dX5_told_105 ⟨mg_narI _, Or.inl rfl⟩ ⟨rfl, rfl⟩
/-- X4_told(r4.0, 0, 2) at qms6 -/
theorem qa290 (l : Launch) {D : va_G} {E : mg_E} {B : Nat} : mg_C l (D, E, true, B) mX4_told [rv (D, E, true, B) 4 0, iv 0, iv 2] qms6 (fun v g' => v = some 0 ∧ g' = qms6) := by
  refine mg_C.of (by decide) rfl (Nat.le_of_ble_eq_true rfl) (List.forall_mem_cons.mpr ⟨rfl, (List.forall_mem_cons.mpr ⟨rfl, (List.forall_mem_cons.mpr ⟨rfl, (fun _ h => nomatch h)⟩)⟩)⟩) (fun K => ?_)
  refine g_aload_n (pc := 0) dX4_told_0 rfl ?_
  refine g_iload_n (pc := 1) dX4_told_1 rfl ?_
  refine g_callVi (pc := 2) (Y' := mX4_isStation) (As := [iv 0]) (st := []) (k := 4) (i := 0) (qa29 K.2.1) gX4_told_X4_isStation rfl (show 0 < 1 by omega) rfl rfl (na := 1) rfl (by decide +kernel) (by decide) (by decide) (Nat.le_of_ble_eq_true rfl) dX4_told_2 (fun r1 g1 hp => ?_)
  obtain ⟨h1, rfl⟩ := hp
  cases h1
  refine g_if_ne (pc := 5) 10 dX4_told_5 (by decide) (by decide) (fun _ => ?_) (fun h => absurd h (by decide))
  refine g_aload_n (pc := 10) dX4_told_10 rfl ?_
  refine fg_X4_told_18 (pc := 11) dX4_told_11 ?_
  refine g_iload_n (pc := 14) dX4_told_14 rfl ?_
  refine g_aastation (pc := 15) (a := 0) (by decide) dX4_told_15 ?_
  refine g_astore_n (pc := 16) (ls' := [rv (D, E, true, B) 4 0, iv 0, iv 2, rv (D, E, true, B) 3 0]) dX4_told_16 (Nat.le_of_ble_eq_true rfl) (Nat.le_of_ble_eq_true rfl) rfl ?_
  refine g_iload_n (pc := 17) dX4_told_17 rfl ?_
  refine g_switchIn (pc := 18) 98 dX4_told_18 (by decide) (by decide) (by decide) rfl (by decide) ?_
  refine g_aload_n (pc := 98) dX4_told_98 rfl ?_
  refine fg_X4_told_211 (pc := 99) (show 0 < 24 by omega) dX4_told_99 ?_
  refine g_top (b := 0) (by decide +kernel) ?_
  refine g_if_eq (pc := 102) 109 dX4_told_102 (by decide) (by decide) (fun _ => ?_) (fun h => absurd (by decide) h)
  refine g_iconst (pc := 109) (v := 0) dX4_told_109 (by decide +kernel) ?_
  exact g_iret (pc := 110) dX4_told_110 ⟨mg_narI _, Or.inl rfl⟩ ⟨rfl, rfl⟩
/-- X5_told(r5.0, 0, 2) at qms6 -/
theorem qa291 (l : Launch) {D : va_G} {E : mg_E} {B : Nat} : mg_C l (D, E, true, B) mX5_told [rv (D, E, true, B) 5 0, iv 0, iv 2] qms6 (fun v g' => v = some 0 ∧ g' = qms6) := by
  refine mg_C.of (by decide) rfl (Nat.le_of_ble_eq_true rfl) (List.forall_mem_cons.mpr ⟨rfl, (List.forall_mem_cons.mpr ⟨rfl, (List.forall_mem_cons.mpr ⟨rfl, (fun _ h => nomatch h)⟩)⟩)⟩) (fun K => ?_)
  refine g_aload_n (pc := 0) dX5_told_0 rfl ?_
  refine fg_X5_told_105 (pc := 1) (by rfl) dX5_told_1 ?_
  refine g_top (b := 1) (by decide +kernel) ?_
  refine g_if_eq (pc := 4) 15 dX5_told_4 (by decide) (by decide) (fun h => absurd h (by decide)) (fun _ => ?_)
  refine g_aload_n (pc := 7) dX5_told_7 rfl ?_
  refine g_iload_n (pc := 8) dX5_told_8 rfl ?_
  refine g_callVi (pc := 9) (Y' := mX5_isStation) (As := [iv 0]) (st := []) (k := 5) (i := 0) (qa32 K.2.1) gX5_told_X5_isStation rfl (show 0 < 1 by omega) rfl rfl (na := 1) rfl (by decide +kernel) (by decide) (by decide) (Nat.le_of_ble_eq_true rfl) dX5_told_9 (fun r1 g1 hp => ?_)
  obtain ⟨h1, rfl⟩ := hp
  cases h1
  refine g_if_ne (pc := 12) 17 dX5_told_12 (by decide) (by decide) (fun _ => ?_) (fun h => absurd h (by decide))
  refine g_iconst (pc := 17) (v := 0) dX5_told_17 (by decide +kernel) ?_
  refine g_istore_n (pc := 18) (ls' := [rv (D, E, true, B) 5 0, iv 0, iv 2, iv 0]) dX5_told_18 (Nat.le_of_ble_eq_true rfl) (Nat.le_of_ble_eq_true rfl) rfl ?_
  refine g_iload_n (pc := 19) dX5_told_19 rfl ?_
  refine g_switchIn (pc := 20) 106 dX5_told_20 (by decide) (by decide) (by decide) rfl (by decide) ?_
  refine g_aload_n (pc := 106) dX5_told_106 rfl ?_
  refine fg_X5_told_23 (pc := 107) (by rfl) dX5_told_107 ?_
  refine g_iload_n (pc := 110) dX5_told_110 rfl ?_
  refine g_baload (pc := 111) (k := 39) (i := 0) (n := 24) (show 0 < 1 by omega) rfl (by decide) (by decide) dX5_told_111 ?_
  refine g_top (b := 0) (by decide +kernel) ?_
  refine g_if_eq (pc := 112) 119 dX5_told_112 (by decide) (by decide) (fun _ => ?_) (fun h => absurd (by decide) h)
  refine g_iconst (pc := 119) (v := 0) dX5_told_119 (by decide +kernel) ?_
  exact g_iret (pc := 120) dX5_told_120 ⟨mg_narI _, Or.inl rfl⟩ ⟨rfl, rfl⟩
/-- X4_told(r4.0, 0, 3) at qms6 -/
theorem qa292 (l : Launch) {D : va_G} {E : mg_E} {B : Nat} : mg_C l (D, E, true, B) mX4_told [rv (D, E, true, B) 4 0, iv 0, iv 3] qms6 (fun v g' => v = some 0 ∧ g' = qms6) := by
  refine mg_C.of (by decide) rfl (Nat.le_of_ble_eq_true rfl) (List.forall_mem_cons.mpr ⟨rfl, (List.forall_mem_cons.mpr ⟨rfl, (List.forall_mem_cons.mpr ⟨rfl, (fun _ h => nomatch h)⟩)⟩)⟩) (fun K => ?_)
  refine g_aload_n (pc := 0) dX4_told_0 rfl ?_
  refine g_iload_n (pc := 1) dX4_told_1 rfl ?_
  refine g_callVi (pc := 2) (Y' := mX4_isStation) (As := [iv 0]) (st := []) (k := 4) (i := 0) (qa29 K.2.1) gX4_told_X4_isStation rfl (show 0 < 1 by omega) rfl rfl (na := 1) rfl (by decide +kernel) (by decide) (by decide) (Nat.le_of_ble_eq_true rfl) dX4_told_2 (fun r1 g1 hp => ?_)
  obtain ⟨h1, rfl⟩ := hp
  cases h1
  refine g_if_ne (pc := 5) 10 dX4_told_5 (by decide) (by decide) (fun _ => ?_) (fun h => absurd h (by decide))
  refine g_aload_n (pc := 10) dX4_told_10 rfl ?_
  refine fg_X4_told_18 (pc := 11) dX4_told_11 ?_
  refine g_iload_n (pc := 14) dX4_told_14 rfl ?_
  refine g_aastation (pc := 15) (a := 0) (by decide) dX4_told_15 ?_
  refine g_astore_n (pc := 16) (ls' := [rv (D, E, true, B) 4 0, iv 0, iv 3, rv (D, E, true, B) 3 0]) dX4_told_16 (Nat.le_of_ble_eq_true rfl) (Nat.le_of_ble_eq_true rfl) rfl ?_
  refine g_iload_n (pc := 17) dX4_told_17 rfl ?_
  refine g_switchIn (pc := 18) 111 dX4_told_18 (by decide) (by decide) (by decide) rfl (by decide) ?_
  refine g_aload_n (pc := 111) dX4_told_111 rfl ?_
  refine fg_X4_told_118 (pc := 112) (show 0 < 24 by omega) dX4_told_112 ?_
  refine fg_X4_told_133 (pc := 115) (show 0 < 24 by omega) dX4_told_115 ?_
  refine g_top (b := 0) (by decide +kernel) ?_
  exact g_iret (pc := 118) dX4_told_118 ⟨mg_narI _, Or.inl rfl⟩ ⟨rfl, rfl⟩
/-- X5_told(r5.0, 0, 3) at qms6 -/
theorem qa293 (l : Launch) {D : va_G} {E : mg_E} {B : Nat} : mg_C l (D, E, true, B) mX5_told [rv (D, E, true, B) 5 0, iv 0, iv 3] qms6 (fun v g' => v = some 0 ∧ g' = qms6) := by
  refine mg_C.of (by decide) rfl (Nat.le_of_ble_eq_true rfl) (List.forall_mem_cons.mpr ⟨rfl, (List.forall_mem_cons.mpr ⟨rfl, (List.forall_mem_cons.mpr ⟨rfl, (fun _ h => nomatch h)⟩)⟩)⟩) (fun K => ?_)
  refine g_aload_n (pc := 0) dX5_told_0 rfl ?_
  refine fg_X5_told_105 (pc := 1) (by rfl) dX5_told_1 ?_
  refine g_top (b := 1) (by decide +kernel) ?_
  refine g_if_eq (pc := 4) 15 dX5_told_4 (by decide) (by decide) (fun h => absurd h (by decide)) (fun _ => ?_)
  refine g_aload_n (pc := 7) dX5_told_7 rfl ?_
  refine g_iload_n (pc := 8) dX5_told_8 rfl ?_
  refine g_callVi (pc := 9) (Y' := mX5_isStation) (As := [iv 0]) (st := []) (k := 5) (i := 0) (qa32 K.2.1) gX5_told_X5_isStation rfl (show 0 < 1 by omega) rfl rfl (na := 1) rfl (by decide +kernel) (by decide) (by decide) (Nat.le_of_ble_eq_true rfl) dX5_told_9 (fun r1 g1 hp => ?_)
  obtain ⟨h1, rfl⟩ := hp
  cases h1
  refine g_if_ne (pc := 12) 17 dX5_told_12 (by decide) (by decide) (fun _ => ?_) (fun h => absurd h (by decide))
  refine g_iconst (pc := 17) (v := 0) dX5_told_17 (by decide +kernel) ?_
  refine g_istore_n (pc := 18) (ls' := [rv (D, E, true, B) 5 0, iv 0, iv 3, iv 0]) dX5_told_18 (Nat.le_of_ble_eq_true rfl) (Nat.le_of_ble_eq_true rfl) rfl ?_
  refine g_iload_n (pc := 19) dX5_told_19 rfl ?_
  refine g_switchIn (pc := 20) 121 dX5_told_20 (by decide) (by decide) (by decide) rfl (by decide) ?_
  refine g_aload_n (pc := 121) dX5_told_121 rfl ?_
  refine fg_X5_told_41 (pc := 122) (by rfl) dX5_told_122 ?_
  refine g_iload_n (pc := 125) dX5_told_125 rfl ?_
  refine g_iaload (pc := 126) (k := 46) (i := 0) (n := 24) (show 0 < 1 by omega) rfl (by decide) (by decide) dX5_told_126 ?_
  refine g_top (b := 0) (by decide +kernel) ?_
  exact g_iret (pc := 127) dX5_told_127 ⟨mg_narI _, Or.inl rfl⟩ ⟨rfl, rfl⟩
/-- X4_told(r4.0, 0, 4) at qms6 -/
theorem qa294 (l : Launch) {D : va_G} {E : mg_E} {B : Nat} : mg_C l (D, E, true, B) mX4_told [rv (D, E, true, B) 4 0, iv 0, iv 4] qms6 (fun v g' => v = some 0 ∧ g' = qms6) := by
  refine mg_C.of (by decide) rfl (Nat.le_of_ble_eq_true rfl) (List.forall_mem_cons.mpr ⟨rfl, (List.forall_mem_cons.mpr ⟨rfl, (List.forall_mem_cons.mpr ⟨rfl, (fun _ h => nomatch h)⟩)⟩)⟩) (fun K => ?_)
  refine g_aload_n (pc := 0) dX4_told_0 rfl ?_
  refine g_iload_n (pc := 1) dX4_told_1 rfl ?_
  refine g_callVi (pc := 2) (Y' := mX4_isStation) (As := [iv 0]) (st := []) (k := 4) (i := 0) (qa29 K.2.1) gX4_told_X4_isStation rfl (show 0 < 1 by omega) rfl rfl (na := 1) rfl (by decide +kernel) (by decide) (by decide) (Nat.le_of_ble_eq_true rfl) dX4_told_2 (fun r1 g1 hp => ?_)
  obtain ⟨h1, rfl⟩ := hp
  cases h1
  refine g_if_ne (pc := 5) 10 dX4_told_5 (by decide) (by decide) (fun _ => ?_) (fun h => absurd h (by decide))
  refine g_aload_n (pc := 10) dX4_told_10 rfl ?_
  refine fg_X4_told_18 (pc := 11) dX4_told_11 ?_
  refine g_iload_n (pc := 14) dX4_told_14 rfl ?_
  refine g_aastation (pc := 15) (a := 0) (by decide) dX4_told_15 ?_
  refine g_astore_n (pc := 16) (ls' := [rv (D, E, true, B) 4 0, iv 0, iv 4, rv (D, E, true, B) 3 0]) dX4_told_16 (Nat.le_of_ble_eq_true rfl) (Nat.le_of_ble_eq_true rfl) rfl ?_
  refine g_iload_n (pc := 17) dX4_told_17 rfl ?_
  refine g_switchIn (pc := 18) 119 dX4_told_18 (by decide) (by decide) (by decide) rfl (by decide) ?_
  refine g_aload_n (pc := 119) dX4_told_119 rfl ?_
  refine fg_X4_told_152 (pc := 120) (show 0 < 24 by omega) dX4_told_120 ?_
  refine g_top (b := 0) (by decide +kernel) ?_
  exact g_iret (pc := 123) dX4_told_123 ⟨mg_narI _, Or.inl rfl⟩ ⟨rfl, rfl⟩
/-- X5_told(r5.0, 0, 4) at qms6 -/
theorem qa295 (l : Launch) {D : va_G} {E : mg_E} {B : Nat} : mg_C l (D, E, true, B) mX5_told [rv (D, E, true, B) 5 0, iv 0, iv 4] qms6 (fun v g' => v = some 0 ∧ g' = qms6) := by
  refine mg_C.of (by decide) rfl (Nat.le_of_ble_eq_true rfl) (List.forall_mem_cons.mpr ⟨rfl, (List.forall_mem_cons.mpr ⟨rfl, (List.forall_mem_cons.mpr ⟨rfl, (fun _ h => nomatch h)⟩)⟩)⟩) (fun K => ?_)
  refine g_aload_n (pc := 0) dX5_told_0 rfl ?_
  refine fg_X5_told_105 (pc := 1) (by rfl) dX5_told_1 ?_
  refine g_top (b := 1) (by decide +kernel) ?_
  refine g_if_eq (pc := 4) 15 dX5_told_4 (by decide) (by decide) (fun h => absurd h (by decide)) (fun _ => ?_)
  refine g_aload_n (pc := 7) dX5_told_7 rfl ?_
  refine g_iload_n (pc := 8) dX5_told_8 rfl ?_
  refine g_callVi (pc := 9) (Y' := mX5_isStation) (As := [iv 0]) (st := []) (k := 5) (i := 0) (qa32 K.2.1) gX5_told_X5_isStation rfl (show 0 < 1 by omega) rfl rfl (na := 1) rfl (by decide +kernel) (by decide) (by decide) (Nat.le_of_ble_eq_true rfl) dX5_told_9 (fun r1 g1 hp => ?_)
  obtain ⟨h1, rfl⟩ := hp
  cases h1
  refine g_if_ne (pc := 12) 17 dX5_told_12 (by decide) (by decide) (fun _ => ?_) (fun h => absurd h (by decide))
  refine g_iconst (pc := 17) (v := 0) dX5_told_17 (by decide +kernel) ?_
  refine g_istore_n (pc := 18) (ls' := [rv (D, E, true, B) 5 0, iv 0, iv 4, iv 0]) dX5_told_18 (Nat.le_of_ble_eq_true rfl) (Nat.le_of_ble_eq_true rfl) rfl ?_
  refine g_iload_n (pc := 19) dX5_told_19 rfl ?_
  refine g_switchIn (pc := 20) 128 dX5_told_20 (by decide) (by decide) (by decide) rfl (by decide) ?_
  refine g_aload_n (pc := 128) dX5_told_128 rfl ?_
  refine fg_X5_told_26 (pc := 129) (by rfl) dX5_told_129 ?_
  refine g_iload_n (pc := 132) dX5_told_132 rfl ?_
  refine g_iaload (pc := 133) (k := 40) (i := 0) (n := 24) (show 0 < 1 by omega) rfl (by decide) (by decide) dX5_told_133 ?_
  refine g_top (b := 0) (by decide +kernel) ?_
  exact g_iret (pc := 134) dX5_told_134 ⟨mg_narI _, Or.inl rfl⟩ ⟨rfl, rfl⟩
/-- X4_told(r4.0, 0, 5) at qms6 -/
theorem qa296 (l : Launch) {D : va_G} {E : mg_E} {B : Nat} : mg_C l (D, E, true, B) mX4_told [rv (D, E, true, B) 4 0, iv 0, iv 5] qms6 (fun v g' => v = some 0 ∧ g' = qms6) := by
  refine mg_C.of (by decide) rfl (Nat.le_of_ble_eq_true rfl) (List.forall_mem_cons.mpr ⟨rfl, (List.forall_mem_cons.mpr ⟨rfl, (List.forall_mem_cons.mpr ⟨rfl, (fun _ h => nomatch h)⟩)⟩)⟩) (fun K => ?_)
  refine g_aload_n (pc := 0) dX4_told_0 rfl ?_
  refine g_iload_n (pc := 1) dX4_told_1 rfl ?_
  refine g_callVi (pc := 2) (Y' := mX4_isStation) (As := [iv 0]) (st := []) (k := 4) (i := 0) (qa29 K.2.1) gX4_told_X4_isStation rfl (show 0 < 1 by omega) rfl rfl (na := 1) rfl (by decide +kernel) (by decide) (by decide) (Nat.le_of_ble_eq_true rfl) dX4_told_2 (fun r1 g1 hp => ?_)
  obtain ⟨h1, rfl⟩ := hp
  cases h1
  refine g_if_ne (pc := 5) 10 dX4_told_5 (by decide) (by decide) (fun _ => ?_) (fun h => absurd h (by decide))
  refine g_aload_n (pc := 10) dX4_told_10 rfl ?_
  refine fg_X4_told_18 (pc := 11) dX4_told_11 ?_
  refine g_iload_n (pc := 14) dX4_told_14 rfl ?_
  refine g_aastation (pc := 15) (a := 0) (by decide) dX4_told_15 ?_
  refine g_astore_n (pc := 16) (ls' := [rv (D, E, true, B) 4 0, iv 0, iv 5, rv (D, E, true, B) 3 0]) dX4_told_16 (Nat.le_of_ble_eq_true rfl) (Nat.le_of_ble_eq_true rfl) rfl ?_
  refine g_iload_n (pc := 17) dX4_told_17 rfl ?_
  refine g_switchIn (pc := 18) 124 dX4_told_18 (by decide) (by decide) (by decide) rfl (by decide) ?_
  refine g_aload_n (pc := 124) dX4_told_124 rfl ?_
  refine fg_X4_told_164 (pc := 125) (show 0 < 24 by omega) dX4_told_125 ?_
  refine g_top (b := 0) (by decide +kernel) ?_
  exact g_iret (pc := 128) dX4_told_128 ⟨mg_narI _, Or.inl rfl⟩ ⟨rfl, rfl⟩
/-- X5_told(r5.0, 0, 5) at qms6 -/
theorem qa297 (l : Launch) {D : va_G} {E : mg_E} {B : Nat} : mg_C l (D, E, true, B) mX5_told [rv (D, E, true, B) 5 0, iv 0, iv 5] qms6 (fun v g' => v = some 0 ∧ g' = qms6) := by
  refine mg_C.of (by decide) rfl (Nat.le_of_ble_eq_true rfl) (List.forall_mem_cons.mpr ⟨rfl, (List.forall_mem_cons.mpr ⟨rfl, (List.forall_mem_cons.mpr ⟨rfl, (fun _ h => nomatch h)⟩)⟩)⟩) (fun K => ?_)
  refine g_aload_n (pc := 0) dX5_told_0 rfl ?_
  refine fg_X5_told_105 (pc := 1) (by rfl) dX5_told_1 ?_
  refine g_top (b := 1) (by decide +kernel) ?_
  refine g_if_eq (pc := 4) 15 dX5_told_4 (by decide) (by decide) (fun h => absurd h (by decide)) (fun _ => ?_)
  refine g_aload_n (pc := 7) dX5_told_7 rfl ?_
  refine g_iload_n (pc := 8) dX5_told_8 rfl ?_
  refine g_callVi (pc := 9) (Y' := mX5_isStation) (As := [iv 0]) (st := []) (k := 5) (i := 0) (qa32 K.2.1) gX5_told_X5_isStation rfl (show 0 < 1 by omega) rfl rfl (na := 1) rfl (by decide +kernel) (by decide) (by decide) (Nat.le_of_ble_eq_true rfl) dX5_told_9 (fun r1 g1 hp => ?_)
  obtain ⟨h1, rfl⟩ := hp
  cases h1
  refine g_if_ne (pc := 12) 17 dX5_told_12 (by decide) (by decide) (fun _ => ?_) (fun h => absurd h (by decide))
  refine g_iconst (pc := 17) (v := 0) dX5_told_17 (by decide +kernel) ?_
  refine g_istore_n (pc := 18) (ls' := [rv (D, E, true, B) 5 0, iv 0, iv 5, iv 0]) dX5_told_18 (Nat.le_of_ble_eq_true rfl) (Nat.le_of_ble_eq_true rfl) rfl ?_
  refine g_iload_n (pc := 19) dX5_told_19 rfl ?_
  refine g_switchIn (pc := 20) 135 dX5_told_20 (by decide) (by decide) (by decide) rfl (by decide) ?_
  refine g_aload_n (pc := 135) dX5_told_135 rfl ?_
  refine fg_X5_told_32 (pc := 136) (by rfl) dX5_told_136 ?_
  refine g_iload_n (pc := 139) dX5_told_139 rfl ?_
  refine g_iaload (pc := 140) (k := 42) (i := 0) (n := 24) (show 0 < 1 by omega) rfl (by decide) (by decide) dX5_told_140 ?_
  refine g_top (b := 0) (by decide +kernel) ?_
  exact g_iret (pc := 141) dX5_told_141 ⟨mg_narI _, Or.inl rfl⟩ ⟨rfl, rfl⟩
/-- X4_told(r4.0, 0, 6) at qms6 -/
theorem qa298 (l : Launch) {D : va_G} {E : mg_E} {B : Nat} : mg_C l (D, E, true, B) mX4_told [rv (D, E, true, B) 4 0, iv 0, iv 6] qms6 (fun v g' => v = some 0 ∧ g' = qms6) := by
  refine mg_C.of (by decide) rfl (Nat.le_of_ble_eq_true rfl) (List.forall_mem_cons.mpr ⟨rfl, (List.forall_mem_cons.mpr ⟨rfl, (List.forall_mem_cons.mpr ⟨rfl, (fun _ h => nomatch h)⟩)⟩)⟩) (fun K => ?_)
  refine g_aload_n (pc := 0) dX4_told_0 rfl ?_
  refine g_iload_n (pc := 1) dX4_told_1 rfl ?_
  refine g_callVi (pc := 2) (Y' := mX4_isStation) (As := [iv 0]) (st := []) (k := 4) (i := 0) (qa29 K.2.1) gX4_told_X4_isStation rfl (show 0 < 1 by omega) rfl rfl (na := 1) rfl (by decide +kernel) (by decide) (by decide) (Nat.le_of_ble_eq_true rfl) dX4_told_2 (fun r1 g1 hp => ?_)
  obtain ⟨h1, rfl⟩ := hp
  cases h1
  refine g_if_ne (pc := 5) 10 dX4_told_5 (by decide) (by decide) (fun _ => ?_) (fun h => absurd h (by decide))
  refine g_aload_n (pc := 10) dX4_told_10 rfl ?_
  refine fg_X4_told_18 (pc := 11) dX4_told_11 ?_
  refine g_iload_n (pc := 14) dX4_told_14 rfl ?_
  refine g_aastation (pc := 15) (a := 0) (by decide) dX4_told_15 ?_
  refine g_astore_n (pc := 16) (ls' := [rv (D, E, true, B) 4 0, iv 0, iv 6, rv (D, E, true, B) 3 0]) dX4_told_16 (Nat.le_of_ble_eq_true rfl) (Nat.le_of_ble_eq_true rfl) rfl ?_
  refine g_iload_n (pc := 17) dX4_told_17 rfl ?_
  refine g_switchIn (pc := 18) 129 dX4_told_18 (by decide) (by decide) (by decide) rfl (by decide) ?_
  refine g_aload_n (pc := 129) dX4_told_129 rfl ?_
  refine fg_X4_told_130 (pc := 130) (show 0 < 24 by omega) dX4_told_130 ?_
  refine g_top (b := 0) (by decide +kernel) ?_
  exact g_iret (pc := 133) dX4_told_133 ⟨mg_narI _, Or.inl rfl⟩ ⟨rfl, rfl⟩
/-- X5_told(r5.0, 0, 6) at qms6 -/
theorem qa299 (l : Launch) {D : va_G} {E : mg_E} {B : Nat} : mg_C l (D, E, true, B) mX5_told [rv (D, E, true, B) 5 0, iv 0, iv 6] qms6 (fun v g' => v = some 0 ∧ g' = qms6) := by
  refine mg_C.of (by decide) rfl (Nat.le_of_ble_eq_true rfl) (List.forall_mem_cons.mpr ⟨rfl, (List.forall_mem_cons.mpr ⟨rfl, (List.forall_mem_cons.mpr ⟨rfl, (fun _ h => nomatch h)⟩)⟩)⟩) (fun K => ?_)
  refine g_aload_n (pc := 0) dX5_told_0 rfl ?_
  refine fg_X5_told_105 (pc := 1) (by rfl) dX5_told_1 ?_
  refine g_top (b := 1) (by decide +kernel) ?_
  refine g_if_eq (pc := 4) 15 dX5_told_4 (by decide) (by decide) (fun h => absurd h (by decide)) (fun _ => ?_)
  refine g_aload_n (pc := 7) dX5_told_7 rfl ?_
  refine g_iload_n (pc := 8) dX5_told_8 rfl ?_
  refine g_callVi (pc := 9) (Y' := mX5_isStation) (As := [iv 0]) (st := []) (k := 5) (i := 0) (qa32 K.2.1) gX5_told_X5_isStation rfl (show 0 < 1 by omega) rfl rfl (na := 1) rfl (by decide +kernel) (by decide) (by decide) (Nat.le_of_ble_eq_true rfl) dX5_told_9 (fun r1 g1 hp => ?_)
  obtain ⟨h1, rfl⟩ := hp
  cases h1
  refine g_if_ne (pc := 12) 17 dX5_told_12 (by decide) (by decide) (fun _ => ?_) (fun h => absurd h (by decide))
  refine g_iconst (pc := 17) (v := 0) dX5_told_17 (by decide +kernel) ?_
  refine g_istore_n (pc := 18) (ls' := [rv (D, E, true, B) 5 0, iv 0, iv 6, iv 0]) dX5_told_18 (Nat.le_of_ble_eq_true rfl) (Nat.le_of_ble_eq_true rfl) rfl ?_
  refine g_iload_n (pc := 19) dX5_told_19 rfl ?_
  refine g_switchIn (pc := 20) 142 dX5_told_20 (by decide) (by decide) (by decide) rfl (by decide) ?_
  refine g_aload_n (pc := 142) dX5_told_142 rfl ?_
  refine fg_X5_told_35 (pc := 143) (by rfl) dX5_told_143 ?_
  refine g_iload_n (pc := 146) dX5_told_146 rfl ?_
  refine g_iaload (pc := 147) (k := 43) (i := 0) (n := 24) (show 0 < 1 by omega) rfl (by decide) (by decide) dX5_told_147 ?_
  refine g_top (b := 0) (by decide +kernel) ?_
  exact g_iret (pc := 148) dX5_told_148 ⟨mg_narI _, Or.inl rfl⟩ ⟨rfl, rfl⟩
/-- X4_told(r4.0, 0, 7) at qms6 -/
theorem qa300 (l : Launch) {D : va_G} {E : mg_E} {B : Nat} : mg_C l (D, E, true, B) mX4_told [rv (D, E, true, B) 4 0, iv 0, iv 7] qms6 (fun v g' => v = some 0 ∧ g' = qms6) := by
  refine mg_C.of (by decide) rfl (Nat.le_of_ble_eq_true rfl) (List.forall_mem_cons.mpr ⟨rfl, (List.forall_mem_cons.mpr ⟨rfl, (List.forall_mem_cons.mpr ⟨rfl, (fun _ h => nomatch h)⟩)⟩)⟩) (fun K => ?_)
  refine g_aload_n (pc := 0) dX4_told_0 rfl ?_
  refine g_iload_n (pc := 1) dX4_told_1 rfl ?_
  refine g_callVi (pc := 2) (Y' := mX4_isStation) (As := [iv 0]) (st := []) (k := 4) (i := 0) (qa29 K.2.1) gX4_told_X4_isStation rfl (show 0 < 1 by omega) rfl rfl (na := 1) rfl (by decide +kernel) (by decide) (by decide) (Nat.le_of_ble_eq_true rfl) dX4_told_2 (fun r1 g1 hp => ?_)
  obtain ⟨h1, rfl⟩ := hp
  cases h1
  refine g_if_ne (pc := 5) 10 dX4_told_5 (by decide) (by decide) (fun _ => ?_) (fun h => absurd h (by decide))
  refine g_aload_n (pc := 10) dX4_told_10 rfl ?_
  refine fg_X4_told_18 (pc := 11) dX4_told_11 ?_
  refine g_iload_n (pc := 14) dX4_told_14 rfl ?_
  refine g_aastation (pc := 15) (a := 0) (by decide) dX4_told_15 ?_
  refine g_astore_n (pc := 16) (ls' := [rv (D, E, true, B) 4 0, iv 0, iv 7, rv (D, E, true, B) 3 0]) dX4_told_16 (Nat.le_of_ble_eq_true rfl) (Nat.le_of_ble_eq_true rfl) rfl ?_
  refine g_iload_n (pc := 17) dX4_told_17 rfl ?_
  refine g_switchIn (pc := 18) 134 dX4_told_18 (by decide) (by decide) (by decide) rfl (by decide) ?_
  refine g_aload_n (pc := 134) dX4_told_134 rfl ?_
  refine fg_X4_told_146 (pc := 135) (show 0 < 24 by omega) dX4_told_135 ?_
  refine g_top (b := 0) (by decide +kernel) ?_
  exact g_iret (pc := 138) dX4_told_138 ⟨mg_narI _, Or.inl rfl⟩ ⟨rfl, rfl⟩
/-- X5_told(r5.0, 0, 7) at qms6 -/
theorem qa301 (l : Launch) {D : va_G} {E : mg_E} {B : Nat} : mg_C l (D, E, true, B) mX5_told [rv (D, E, true, B) 5 0, iv 0, iv 7] qms6 (fun v g' => v = some 0 ∧ g' = qms6) := by
  refine mg_C.of (by decide) rfl (Nat.le_of_ble_eq_true rfl) (List.forall_mem_cons.mpr ⟨rfl, (List.forall_mem_cons.mpr ⟨rfl, (List.forall_mem_cons.mpr ⟨rfl, (fun _ h => nomatch h)⟩)⟩)⟩) (fun K => ?_)
  refine g_aload_n (pc := 0) dX5_told_0 rfl ?_
  refine fg_X5_told_105 (pc := 1) (by rfl) dX5_told_1 ?_
  refine g_top (b := 1) (by decide +kernel) ?_
  refine g_if_eq (pc := 4) 15 dX5_told_4 (by decide) (by decide) (fun h => absurd h (by decide)) (fun _ => ?_)
  refine g_aload_n (pc := 7) dX5_told_7 rfl ?_
  refine g_iload_n (pc := 8) dX5_told_8 rfl ?_
  refine g_callVi (pc := 9) (Y' := mX5_isStation) (As := [iv 0]) (st := []) (k := 5) (i := 0) (qa32 K.2.1) gX5_told_X5_isStation rfl (show 0 < 1 by omega) rfl rfl (na := 1) rfl (by decide +kernel) (by decide) (by decide) (Nat.le_of_ble_eq_true rfl) dX5_told_9 (fun r1 g1 hp => ?_)
  obtain ⟨h1, rfl⟩ := hp
  cases h1
  refine g_if_ne (pc := 12) 17 dX5_told_12 (by decide) (by decide) (fun _ => ?_) (fun h => absurd h (by decide))
  refine g_iconst (pc := 17) (v := 0) dX5_told_17 (by decide +kernel) ?_
  refine g_istore_n (pc := 18) (ls' := [rv (D, E, true, B) 5 0, iv 0, iv 7, iv 0]) dX5_told_18 (Nat.le_of_ble_eq_true rfl) (Nat.le_of_ble_eq_true rfl) rfl ?_
  refine g_iload_n (pc := 19) dX5_told_19 rfl ?_
  refine g_switchIn (pc := 20) 149 dX5_told_20 (by decide) (by decide) (by decide) rfl (by decide) ?_
  refine g_aload_n (pc := 149) dX5_told_149 rfl ?_
  refine fg_X5_told_38 (pc := 150) (by rfl) dX5_told_150 ?_
  refine g_iload_n (pc := 153) dX5_told_153 rfl ?_
  refine g_iaload (pc := 154) (k := 44) (i := 0) (n := 24) (show 0 < 1 by omega) rfl (by decide) (by decide) dX5_told_154 ?_
  refine g_top (b := 0) (by decide +kernel) ?_
  exact g_iret (pc := 155) dX5_told_155 ⟨mg_narI _, Or.inl rfl⟩ ⟨rfl, rfl⟩
/-- X1_sentBy(r1.0, 0) at qms6 -/
theorem qa302 (l : Launch) {D : va_G} {E : mg_E} {B : Nat} : mg_C l (D, E, true, B) mX1_sentBy [rv (D, E, true, B) 1 0, iv 0] qms6 (fun v g' => v = some 0 ∧ g' = qms6) := by
  refine mg_C.of (by decide) rfl (Nat.le_of_ble_eq_true rfl) (List.forall_mem_cons.mpr ⟨rfl, (List.forall_mem_cons.mpr ⟨rfl, (fun _ h => nomatch h)⟩)⟩) (fun K => ?_)
  refine g_iconst (pc := 0) (v := 0) dX1_sentBy_0 (by decide +kernel) ?_
  refine g_istore_n (pc := 1) (ls' := [rv (D, E, true, B) 1 0, iv 0, iv 0]) dX1_sentBy_1 (Nat.le_of_ble_eq_true rfl) (Nat.le_of_ble_eq_true rfl) rfl ?_
  refine g_iconst (pc := 2) (v := 0) dX1_sentBy_2 (by decide +kernel) ?_
  refine g_istore_n (pc := 3) (ls' := [rv (D, E, true, B) 1 0, iv 0, iv 0, iv 0]) dX1_sentBy_3 (Nat.le_of_ble_eq_true rfl) (Nat.le_of_ble_eq_true rfl) rfl ?_
  refine g_iload_n (pc := 4) dX1_sentBy_4 rfl ?_
  refine g_aload_n (pc := 5) dX1_sentBy_5 rfl ?_
  refine fg_X1_sentBy_27 (pc := 6) (show 0 < 2 by omega) dX1_sentBy_6 ?_
  refine g_top (b := 0) (by decide +kernel) ?_
  refine g_icmp_ge (pc := 9) 31 dX1_sentBy_9 (by decide) (by decide) (by decide) (fun _ => ?_) (fun h => absurd (by decide) h)
  refine g_iload_n (pc := 31) dX1_sentBy_31 rfl ?_
  exact g_iret (pc := 32) dX1_sentBy_32 ⟨mg_narI _, Or.inl rfl⟩ ⟨rfl, rfl⟩
/-- X4_told(r4.0, 0, 8) at qms6 -/
theorem qa303 (l : Launch) {D : va_G} {E : mg_E} {B : Nat} : mg_C l (D, E, true, B) mX4_told [rv (D, E, true, B) 4 0, iv 0, iv 8] qms6 (fun v g' => v = some 0 ∧ g' = qms6) := by
  refine mg_C.of (by decide) rfl (Nat.le_of_ble_eq_true rfl) (List.forall_mem_cons.mpr ⟨rfl, (List.forall_mem_cons.mpr ⟨rfl, (List.forall_mem_cons.mpr ⟨rfl, (fun _ h => nomatch h)⟩)⟩)⟩) (fun K => ?_)
  refine g_aload_n (pc := 0) dX4_told_0 rfl ?_
  refine g_iload_n (pc := 1) dX4_told_1 rfl ?_
  refine g_callVi (pc := 2) (Y' := mX4_isStation) (As := [iv 0]) (st := []) (k := 4) (i := 0) (qa29 K.2.1) gX4_told_X4_isStation rfl (show 0 < 1 by omega) rfl rfl (na := 1) rfl (by decide +kernel) (by decide) (by decide) (Nat.le_of_ble_eq_true rfl) dX4_told_2 (fun r1 g1 hp => ?_)
  obtain ⟨h1, rfl⟩ := hp
  cases h1
  refine g_if_ne (pc := 5) 10 dX4_told_5 (by decide) (by decide) (fun _ => ?_) (fun h => absurd h (by decide))
  refine g_aload_n (pc := 10) dX4_told_10 rfl ?_
  refine fg_X4_told_18 (pc := 11) dX4_told_11 ?_
  refine g_iload_n (pc := 14) dX4_told_14 rfl ?_
  refine g_aastation (pc := 15) (a := 0) (by decide) dX4_told_15 ?_
  refine g_astore_n (pc := 16) (ls' := [rv (D, E, true, B) 4 0, iv 0, iv 8, rv (D, E, true, B) 3 0]) dX4_told_16 (Nat.le_of_ble_eq_true rfl) (Nat.le_of_ble_eq_true rfl) rfl ?_
  refine g_iload_n (pc := 17) dX4_told_17 rfl ?_
  refine g_switchIn (pc := 18) 139 dX4_told_18 (by decide) (by decide) (by decide) rfl (by decide) ?_
  refine g_aload_n (pc := 139) dX4_told_139 rfl ?_
  refine fg_X4_told_27 (pc := 140) dX4_told_140 ?_
  refine g_iload_n (pc := 143) dX4_told_143 rfl ?_
  refine g_callVi (pc := 144) (Y' := mX1_sentBy) (As := [iv 0]) (st := []) (k := 1) (i := 0) (qa302 K.2.1) gX4_told_X1_sentBy rfl (show 0 < 2 by omega) rfl rfl (na := 1) rfl (by decide +kernel) (by decide) (by decide) (Nat.le_of_ble_eq_true rfl) dX4_told_144 (fun r1 g1 hp => ?_)
  obtain ⟨h1, rfl⟩ := hp
  cases h1
  exact g_iret (pc := 147) dX4_told_147 ⟨mg_narI _, Or.inl rfl⟩ ⟨rfl, rfl⟩
/-- X5_told(r5.0, 0, 8) at qms6 -/
theorem qa304 (l : Launch) {D : va_G} {E : mg_E} {B : Nat} : mg_C l (D, E, true, B) mX5_told [rv (D, E, true, B) 5 0, iv 0, iv 8] qms6 (fun v g' => v = some 0 ∧ g' = qms6) := by
  refine mg_C.of (by decide) rfl (Nat.le_of_ble_eq_true rfl) (List.forall_mem_cons.mpr ⟨rfl, (List.forall_mem_cons.mpr ⟨rfl, (List.forall_mem_cons.mpr ⟨rfl, (fun _ h => nomatch h)⟩)⟩)⟩) (fun K => ?_)
  refine g_aload_n (pc := 0) dX5_told_0 rfl ?_
  refine fg_X5_told_105 (pc := 1) (by rfl) dX5_told_1 ?_
  refine g_top (b := 1) (by decide +kernel) ?_
  refine g_if_eq (pc := 4) 15 dX5_told_4 (by decide) (by decide) (fun h => absurd h (by decide)) (fun _ => ?_)
  refine g_aload_n (pc := 7) dX5_told_7 rfl ?_
  refine g_iload_n (pc := 8) dX5_told_8 rfl ?_
  refine g_callVi (pc := 9) (Y' := mX5_isStation) (As := [iv 0]) (st := []) (k := 5) (i := 0) (qa32 K.2.1) gX5_told_X5_isStation rfl (show 0 < 1 by omega) rfl rfl (na := 1) rfl (by decide +kernel) (by decide) (by decide) (Nat.le_of_ble_eq_true rfl) dX5_told_9 (fun r1 g1 hp => ?_)
  obtain ⟨h1, rfl⟩ := hp
  cases h1
  refine g_if_ne (pc := 12) 17 dX5_told_12 (by decide) (by decide) (fun _ => ?_) (fun h => absurd h (by decide))
  refine g_iconst (pc := 17) (v := 0) dX5_told_17 (by decide +kernel) ?_
  refine g_istore_n (pc := 18) (ls' := [rv (D, E, true, B) 5 0, iv 0, iv 8, iv 0]) dX5_told_18 (Nat.le_of_ble_eq_true rfl) (Nat.le_of_ble_eq_true rfl) rfl ?_
  refine g_iload_n (pc := 19) dX5_told_19 rfl ?_
  refine g_switchIn (pc := 20) 156 dX5_told_20 (by decide) (by decide) (by decide) rfl (by decide) ?_
  refine g_iconst (pc := 156) (v := 0) dX5_told_156 (by decide +kernel) ?_
  refine g_istore (pc := 157) (ls' := [rv (D, E, true, B) 5 0, iv 0, iv 8, iv 0, iv 0]) dX5_told_157 (Nat.le_of_ble_eq_true rfl) (Nat.le_of_ble_eq_true rfl) rfl ?_
  refine g_iload (pc := 159) dX5_told_159 rfl ?_
  refine g_aload_n (pc := 161) dX5_told_161 rfl ?_
  refine fg_X5_told_133 (pc := 162) (by rfl) dX5_told_162 ?_
  refine g_top (b := 0) (by decide +kernel) ?_
  refine g_icmp_ge (pc := 165) 196 dX5_told_165 (by decide) (by decide) (by decide) (fun _ => ?_) (fun h => absurd (by decide) h)
  refine g_iload_n (pc := 196) dX5_told_196 rfl ?_
  exact g_iret (pc := 197) dX5_told_197 ⟨mg_narI _, Or.inl rfl⟩ ⟨rfl, rfl⟩
/-- J6_bitCount_0f7a4(2) at qms6 -/
theorem qa305 (l : Launch) {D : va_G} {E : mg_E} {B : Nat} : mg_C l (D, E, true, B) mJ6_bitCount_0f7a4 [iv 2] qms6 (fun v g' => v = some 1 ∧ g' = qms6) := by
  refine mg_C.of (by decide) rfl (Nat.le_of_ble_eq_true rfl) (List.forall_mem_cons.mpr ⟨rfl, (fun _ h => nomatch h)⟩) (fun K => ?_)
  refine g_iload_n (pc := 0) dJ6_bitCount_0f7a4_0 rfl ?_
  refine g_iload_n (pc := 1) dJ6_bitCount_0f7a4_1 rfl ?_
  refine g_iconst (pc := 2) (v := 1) dJ6_bitCount_0f7a4_2 (by decide +kernel) ?_
  refine g_iushr (pc := 3) (v := 1) (by decide +kernel) dJ6_bitCount_0f7a4_3 ?_
  refine g_ldcw (pc := 4) (v := 1431655765) (by decide +kernel) dJ6_bitCount_0f7a4_4 ?_
  refine g_iand (pc := 7) dJ6_bitCount_0f7a4_7 ?_
  refine g_top (b := 1) (by decide +kernel) ?_
  refine g_isub (pc := 8) (by decide) dJ6_bitCount_0f7a4_8 ?_
  refine g_top (b := 1) (by decide +kernel) ?_
  refine g_istore_n (pc := 9) (ls' := [iv 1]) dJ6_bitCount_0f7a4_9 (Nat.le_of_ble_eq_true rfl) (Nat.le_of_ble_eq_true rfl) rfl ?_
  refine g_iload_n (pc := 10) dJ6_bitCount_0f7a4_10 rfl ?_
  refine g_ldcw (pc := 11) (v := 858993459) (by decide +kernel) dJ6_bitCount_0f7a4_11 ?_
  refine g_iand (pc := 14) dJ6_bitCount_0f7a4_14 ?_
  refine g_top (b := 1) (by decide +kernel) ?_
  refine g_iload_n (pc := 15) dJ6_bitCount_0f7a4_15 rfl ?_
  refine g_iconst (pc := 16) (v := 2) dJ6_bitCount_0f7a4_16 (by decide +kernel) ?_
  refine g_iushr (pc := 17) (v := 0) (by decide +kernel) dJ6_bitCount_0f7a4_17 ?_
  refine g_ldcw (pc := 18) (v := 858993459) (by decide +kernel) dJ6_bitCount_0f7a4_18 ?_
  refine g_iand (pc := 21) dJ6_bitCount_0f7a4_21 ?_
  refine g_top (b := 0) (by decide +kernel) ?_
  refine g_iadd (pc := 22) dJ6_bitCount_0f7a4_22 ?_
  refine g_top (b := 1) (by decide +kernel) ?_
  refine g_istore_n (pc := 23) (ls' := [iv 1]) dJ6_bitCount_0f7a4_23 (Nat.le_of_ble_eq_true rfl) (Nat.le_of_ble_eq_true rfl) rfl ?_
  refine g_iload_n (pc := 24) dJ6_bitCount_0f7a4_24 rfl ?_
  refine g_iload_n (pc := 25) dJ6_bitCount_0f7a4_25 rfl ?_
  refine g_iconst (pc := 26) (v := 4) dJ6_bitCount_0f7a4_26 (by decide +kernel) ?_
  refine g_iushr (pc := 27) (v := 0) (by decide +kernel) dJ6_bitCount_0f7a4_27 ?_
  refine g_iadd (pc := 28) dJ6_bitCount_0f7a4_28 ?_
  refine g_top (b := 1) (by decide +kernel) ?_
  refine g_ldcw (pc := 29) (v := 252645135) (by decide +kernel) dJ6_bitCount_0f7a4_29 ?_
  refine g_iand (pc := 32) dJ6_bitCount_0f7a4_32 ?_
  refine g_top (b := 1) (by decide +kernel) ?_
  refine g_istore_n (pc := 33) (ls' := [iv 1]) dJ6_bitCount_0f7a4_33 (Nat.le_of_ble_eq_true rfl) (Nat.le_of_ble_eq_true rfl) rfl ?_
  refine g_iload_n (pc := 34) dJ6_bitCount_0f7a4_34 rfl ?_
  refine g_iload_n (pc := 35) dJ6_bitCount_0f7a4_35 rfl ?_
  refine g_bipush (pc := 36) (v := 8) dJ6_bitCount_0f7a4_36 (by decide +kernel) ?_
  refine g_iushr (pc := 38) (v := 0) (by decide +kernel) dJ6_bitCount_0f7a4_38 ?_
  refine g_iadd (pc := 39) dJ6_bitCount_0f7a4_39 ?_
  refine g_top (b := 1) (by decide +kernel) ?_
  refine g_istore_n (pc := 40) (ls' := [iv 1]) dJ6_bitCount_0f7a4_40 (Nat.le_of_ble_eq_true rfl) (Nat.le_of_ble_eq_true rfl) rfl ?_
  refine g_iload_n (pc := 41) dJ6_bitCount_0f7a4_41 rfl ?_
  refine g_iload_n (pc := 42) dJ6_bitCount_0f7a4_42 rfl ?_
  refine g_bipush (pc := 43) (v := 16) dJ6_bitCount_0f7a4_43 (by decide +kernel) ?_
  refine g_iushr (pc := 45) (v := 0) (by decide +kernel) dJ6_bitCount_0f7a4_45 ?_
  refine g_iadd (pc := 46) dJ6_bitCount_0f7a4_46 ?_
  refine g_top (b := 1) (by decide +kernel) ?_
  refine g_istore_n (pc := 47) (ls' := [iv 1]) dJ6_bitCount_0f7a4_47 (Nat.le_of_ble_eq_true rfl) (Nat.le_of_ble_eq_true rfl) rfl ?_
  refine g_iload_n (pc := 48) dJ6_bitCount_0f7a4_48 rfl ?_
  refine g_bipush (pc := 49) (v := 63) dJ6_bitCount_0f7a4_49 (by decide +kernel) ?_
  refine g_iand (pc := 51) dJ6_bitCount_0f7a4_51 ?_
  refine g_top (b := 1) (by decide +kernel) ?_
  exact g_iret (pc := 52) dJ6_bitCount_0f7a4_52 ⟨mg_narI _, Or.inl rfl⟩ ⟨rfl, rfl⟩
/-- X0_neighboursOf(r0.0, 0) at qms6 -/
theorem qa306 (l : Launch) {D : va_G} {E : mg_E} {B : Nat} : mg_C l (D, E, true, B) mX0_neighboursOf [rv (D, E, true, B) 0 0, iv 0] qms6 (fun v g' => v = some 1 ∧ g' = qms6) := by
  refine mg_C.of (by decide) rfl (Nat.le_of_ble_eq_true rfl) (List.forall_mem_cons.mpr ⟨rfl, (List.forall_mem_cons.mpr ⟨rfl, (fun _ h => nomatch h)⟩)⟩) (fun K => ?_)
  refine g_aload_n (pc := 0) dX0_neighboursOf_0 rfl ?_
  refine fg_X0_neighboursOf_9 (pc := 1) dX0_neighboursOf_1 ?_
  refine g_iload_n (pc := 4) dX0_neighboursOf_4 rfl ?_
  refine g_iaload (pc := 5) (k := 10) (i := 0) (n := 24) (show 0 < 1 by omega) rfl (by decide) (by decide) dX0_neighboursOf_5 ?_
  refine g_top (b := 2) (by decide +kernel) ?_
  refine g_callSi (pc := 6) (Y' := mJ6_bitCount_0f7a4) (As := [iv 2]) (st := []) (qa305 K.2.1) gX0_neighboursOf_J6_bitCount_0f7a4 rfl (na := 1) rfl (by decide +kernel) (by decide) (by decide) (Nat.le_of_ble_eq_true rfl) dX0_neighboursOf_6 (fun r1 g1 hp => ?_)
  obtain ⟨h1, rfl⟩ := hp
  cases h1
  exact g_iret (pc := 9) dX0_neighboursOf_9 ⟨mg_narI _, Or.inl rfl⟩ ⟨rfl, rfl⟩
/-- X4_told(r4.0, 0, 9) at qms6 -/
theorem qa307 (l : Launch) {D : va_G} {E : mg_E} {B : Nat} : mg_C l (D, E, true, B) mX4_told [rv (D, E, true, B) 4 0, iv 0, iv 9] qms6 (fun v g' => v = some 1 ∧ g' = qms6) := by
  refine mg_C.of (by decide) rfl (Nat.le_of_ble_eq_true rfl) (List.forall_mem_cons.mpr ⟨rfl, (List.forall_mem_cons.mpr ⟨rfl, (List.forall_mem_cons.mpr ⟨rfl, (fun _ h => nomatch h)⟩)⟩)⟩) (fun K => ?_)
  refine g_aload_n (pc := 0) dX4_told_0 rfl ?_
  refine g_iload_n (pc := 1) dX4_told_1 rfl ?_
  refine g_callVi (pc := 2) (Y' := mX4_isStation) (As := [iv 0]) (st := []) (k := 4) (i := 0) (qa29 K.2.1) gX4_told_X4_isStation rfl (show 0 < 1 by omega) rfl rfl (na := 1) rfl (by decide +kernel) (by decide) (by decide) (Nat.le_of_ble_eq_true rfl) dX4_told_2 (fun r1 g1 hp => ?_)
  obtain ⟨h1, rfl⟩ := hp
  cases h1
  refine g_if_ne (pc := 5) 10 dX4_told_5 (by decide) (by decide) (fun _ => ?_) (fun h => absurd h (by decide))
  refine g_aload_n (pc := 10) dX4_told_10 rfl ?_
  refine fg_X4_told_18 (pc := 11) dX4_told_11 ?_
  refine g_iload_n (pc := 14) dX4_told_14 rfl ?_
  refine g_aastation (pc := 15) (a := 0) (by decide) dX4_told_15 ?_
  refine g_astore_n (pc := 16) (ls' := [rv (D, E, true, B) 4 0, iv 0, iv 9, rv (D, E, true, B) 3 0]) dX4_told_16 (Nat.le_of_ble_eq_true rfl) (Nat.le_of_ble_eq_true rfl) rfl ?_
  refine g_iload_n (pc := 17) dX4_told_17 rfl ?_
  refine g_switchIn (pc := 18) 148 dX4_told_18 (by decide) (by decide) (by decide) rfl (by decide) ?_
  refine g_aload_n (pc := 148) dX4_told_148 rfl ?_
  refine fg_X4_told_10 (pc := 149) dX4_told_149 ?_
  refine g_iload_n (pc := 152) dX4_told_152 rfl ?_
  refine g_callVi (pc := 153) (Y' := mX0_neighboursOf) (As := [iv 0]) (st := []) (k := 0) (i := 0) (qa306 K.2.1) gX4_told_X0_neighboursOf rfl (show 0 < 1 by omega) rfl rfl (na := 1) rfl (by decide +kernel) (by decide) (by decide) (Nat.le_of_ble_eq_true rfl) dX4_told_153 (fun r1 g1 hp => ?_)
  obtain ⟨h1, rfl⟩ := hp
  cases h1
  exact g_iret (pc := 156) dX4_told_156 ⟨mg_narI _, Or.inl rfl⟩ ⟨rfl, rfl⟩
/-- X5_told(r5.0, 0, 9) at qms6 -/
theorem qa308 (l : Launch) {D : va_G} {E : mg_E} {B : Nat} : mg_C l (D, E, true, B) mX5_told [rv (D, E, true, B) 5 0, iv 0, iv 9] qms6 (fun v g' => v = some 1 ∧ g' = qms6) := by
  refine mg_C.of (by decide) rfl (Nat.le_of_ble_eq_true rfl) (List.forall_mem_cons.mpr ⟨rfl, (List.forall_mem_cons.mpr ⟨rfl, (List.forall_mem_cons.mpr ⟨rfl, (fun _ h => nomatch h)⟩)⟩)⟩) (fun K => ?_)
  refine g_aload_n (pc := 0) dX5_told_0 rfl ?_
  refine fg_X5_told_105 (pc := 1) (by rfl) dX5_told_1 ?_
  refine g_top (b := 1) (by decide +kernel) ?_
  refine g_if_eq (pc := 4) 15 dX5_told_4 (by decide) (by decide) (fun h => absurd h (by decide)) (fun _ => ?_)
  refine g_aload_n (pc := 7) dX5_told_7 rfl ?_
  refine g_iload_n (pc := 8) dX5_told_8 rfl ?_
  refine g_callVi (pc := 9) (Y' := mX5_isStation) (As := [iv 0]) (st := []) (k := 5) (i := 0) (qa32 K.2.1) gX5_told_X5_isStation rfl (show 0 < 1 by omega) rfl rfl (na := 1) rfl (by decide +kernel) (by decide) (by decide) (Nat.le_of_ble_eq_true rfl) dX5_told_9 (fun r1 g1 hp => ?_)
  obtain ⟨h1, rfl⟩ := hp
  cases h1
  refine g_if_ne (pc := 12) 17 dX5_told_12 (by decide) (by decide) (fun _ => ?_) (fun h => absurd h (by decide))
  refine g_iconst (pc := 17) (v := 0) dX5_told_17 (by decide +kernel) ?_
  refine g_istore_n (pc := 18) (ls' := [rv (D, E, true, B) 5 0, iv 0, iv 9, iv 0]) dX5_told_18 (Nat.le_of_ble_eq_true rfl) (Nat.le_of_ble_eq_true rfl) rfl ?_
  refine g_iload_n (pc := 19) dX5_told_19 rfl ?_
  refine g_switchIn (pc := 20) 198 dX5_told_20 (by decide) (by decide) (by decide) rfl (by decide) ?_
  refine g_iconst (pc := 198) (v := 0) dX5_told_198 (by decide +kernel) ?_
  refine g_istore (pc := 199) (ls' := [rv (D, E, true, B) 5 0, iv 0, iv 9, iv 0, iv 0]) dX5_told_199 (Nat.le_of_ble_eq_true rfl) (Nat.le_of_ble_eq_true rfl) rfl ?_
  refine g_iload (pc := 201) dX5_told_201 rfl ?_
  refine g_aload_n (pc := 203) dX5_told_203 rfl ?_
  refine fg_X5_told_101 (pc := 204) (by rfl) dX5_told_204 ?_
  refine g_top (b := 2) (by decide +kernel) ?_
  refine g_icmp_ge (pc := 207) 239 dX5_told_207 (by decide) (by decide) (by decide) (fun h => absurd h (by decide)) (fun _ => ?_)
  refine g_iload_n (pc := 210) dX5_told_210 rfl ?_
  refine g_aload_n (pc := 211) dX5_told_211 rfl ?_
  refine fg_X5_told_7 (pc := 212) (by rfl) dX5_told_212 ?_
  refine g_bipush (pc := 215) (v := 24) dX5_told_215 (by decide +kernel) ?_
  refine g_iload_n (pc := 217) dX5_told_217 rfl ?_
  refine g_imul (pc := 218) dX5_told_218 ?_
  refine g_top (b := 0) (by decide +kernel) ?_
  refine g_iload (pc := 219) dX5_told_219 rfl ?_
  refine g_iadd (pc := 221) dX5_told_221 ?_
  refine g_top (b := 0) (by decide +kernel) ?_
  refine g_baload (pc := 222) (k := 35) (i := 0) (n := 576) (show 0 < 1 by omega) rfl (by decide) (by decide) dX5_told_222 ?_
  refine g_top (b := 0) (by decide +kernel) ?_
  refine g_if_eq (pc := 223) 230 dX5_told_223 (by decide) (by decide) (fun _ => ?_) (fun h => absurd (by decide) h)
  refine g_iconst (pc := 230) (v := 0) dX5_told_230 (by decide +kernel) ?_
  refine g_iadd (pc := 231) dX5_told_231 ?_
  refine g_top (b := 0) (by decide +kernel) ?_
  refine g_istore_n (pc := 232) (ls' := [rv (D, E, true, B) 5 0, iv 0, iv 9, iv 0, iv 0]) dX5_told_232 (Nat.le_of_ble_eq_true rfl) (Nat.le_of_ble_eq_true rfl) rfl ?_
  refine g_iinc (pc := 233) (v := 1) (ls' := [rv (D, E, true, B) 5 0, iv 0, iv 9, iv 0, iv 1]) dX5_told_233 (Nat.le_of_ble_eq_true rfl) rfl (by decide +kernel) rfl ?_
  refine g_goto (pc := 236) 201 dX5_told_236 (by decide) ?_
  refine g_iload (pc := 201) dX5_told_201 rfl ?_
  refine g_aload_n (pc := 203) dX5_told_203 rfl ?_
  refine fg_X5_told_101 (pc := 204) (by rfl) dX5_told_204 ?_
  refine g_top (b := 2) (by decide +kernel) ?_
  refine g_icmp_ge (pc := 207) 239 dX5_told_207 (by decide) (by decide) (by decide) (fun h => absurd h (by decide)) (fun _ => ?_)
  refine g_iload_n (pc := 210) dX5_told_210 rfl ?_
  refine g_aload_n (pc := 211) dX5_told_211 rfl ?_
  refine fg_X5_told_7 (pc := 212) (by rfl) dX5_told_212 ?_
  refine g_bipush (pc := 215) (v := 24) dX5_told_215 (by decide +kernel) ?_
  refine g_iload_n (pc := 217) dX5_told_217 rfl ?_
  refine g_imul (pc := 218) dX5_told_218 ?_
  refine g_top (b := 0) (by decide +kernel) ?_
  refine g_iload (pc := 219) dX5_told_219 rfl ?_
  refine g_iadd (pc := 221) dX5_told_221 ?_
  refine g_top (b := 1) (by decide +kernel) ?_
  refine g_baload (pc := 222) (k := 35) (i := 0) (n := 576) (show 0 < 1 by omega) rfl (by decide) (by decide) dX5_told_222 ?_
  refine g_top (b := 1) (by decide +kernel) ?_
  refine g_if_eq (pc := 223) 230 dX5_told_223 (by decide) (by decide) (fun h => absurd h (by decide)) (fun _ => ?_)
  refine g_iconst (pc := 226) (v := 1) dX5_told_226 (by decide +kernel) ?_
  refine g_goto (pc := 227) 231 dX5_told_227 (by decide) ?_
  refine g_iadd (pc := 231) dX5_told_231 ?_
  refine g_top (b := 1) (by decide +kernel) ?_
  refine g_istore_n (pc := 232) (ls' := [rv (D, E, true, B) 5 0, iv 0, iv 9, iv 1, iv 1]) dX5_told_232 (Nat.le_of_ble_eq_true rfl) (Nat.le_of_ble_eq_true rfl) rfl ?_
  refine g_iinc (pc := 233) (v := 2) (ls' := [rv (D, E, true, B) 5 0, iv 0, iv 9, iv 1, iv 2]) dX5_told_233 (Nat.le_of_ble_eq_true rfl) rfl (by decide +kernel) rfl ?_
  refine g_goto (pc := 236) 201 dX5_told_236 (by decide) ?_
  refine g_iload (pc := 201) dX5_told_201 rfl ?_
  refine g_aload_n (pc := 203) dX5_told_203 rfl ?_
  refine fg_X5_told_101 (pc := 204) (by rfl) dX5_told_204 ?_
  refine g_top (b := 2) (by decide +kernel) ?_
  refine g_icmp_ge (pc := 207) 239 dX5_told_207 (by decide) (by decide) (by decide) (fun _ => ?_) (fun h => absurd (by decide) h)
  refine g_iload_n (pc := 239) dX5_told_239 rfl ?_
  exact g_iret (pc := 240) dX5_told_240 ⟨mg_narI _, Or.inl rfl⟩ ⟨rfl, rfl⟩
/-- X4_told(r4.0, 0, b[2147483648,4294967295]) at qms6 -/
theorem qa309 (l : Launch) {D : va_G} {E : mg_E} {B : Nat} (b : Nat) (h_b : 2147483648 ≤ b) (k_b : b ≤ 4294967295) : mg_C l (D, E, true, B) mX4_told [rv (D, E, true, B) 4 0, iv 0, iv b] qms6 (fun v g' => v = some 4294967295 ∧ g' = qms6) := by
  refine mg_C.of (by decide) rfl (Nat.le_of_ble_eq_true rfl) (List.forall_mem_cons.mpr ⟨rfl, (List.forall_mem_cons.mpr ⟨rfl, (List.forall_mem_cons.mpr ⟨rfl, (fun _ h => nomatch h)⟩)⟩)⟩) (fun K => ?_)
  refine g_aload_n (pc := 0) dX4_told_0 rfl ?_
  refine g_iload_n (pc := 1) dX4_told_1 rfl ?_
  refine g_callVi (pc := 2) (Y' := mX4_isStation) (As := [iv 0]) (st := []) (k := 4) (i := 0) (qa29 K.2.1) gX4_told_X4_isStation rfl (show 0 < 1 by omega) rfl rfl (na := 1) rfl (by decide +kernel) (by decide) (by decide) (Nat.le_of_ble_eq_true rfl) dX4_told_2 (fun r1 g1 hp => ?_)
  obtain ⟨h1, rfl⟩ := hp
  cases h1
  refine g_if_ne (pc := 5) 10 dX4_told_5 (by decide) (by decide) (fun _ => ?_) (fun h => absurd h (by decide))
  refine g_aload_n (pc := 10) dX4_told_10 rfl ?_
  refine fg_X4_told_18 (pc := 11) dX4_told_11 ?_
  refine g_iload_n (pc := 14) dX4_told_14 rfl ?_
  refine g_aastation (pc := 15) (a := 0) (by decide) dX4_told_15 ?_
  refine g_astore_n (pc := 16) (ls' := [rv (D, E, true, B) 4 0, iv 0, iv b, rv (D, E, true, B) 3 0]) dX4_told_16 (Nat.le_of_ble_eq_true rfl) (Nat.le_of_ble_eq_true rfl) rfl ?_
  refine g_iload_n (pc := 17) dX4_told_17 rfl ?_
  refine g_switchOut (pc := 18) 157 dX4_told_18 (by omega) (Or.inl (by have q := mg_sgn h_b (by omega : b < 4294967296); omega)) (by decide) ?_
  refine g_iconst (pc := 157) (v := 4294967295) dX4_told_157 (by decide +kernel) ?_
  exact g_iret (pc := 158) dX4_told_158 ⟨mg_narI _, Or.inl rfl⟩ ⟨rfl, rfl⟩
/-- X5_told(r5.0, 0, b[2147483648,4294967295]) at qms6 -/
theorem qa310 (l : Launch) {D : va_G} {E : mg_E} {B : Nat} (b : Nat) (h_b : 2147483648 ≤ b) (k_b : b ≤ 4294967295) : mg_C l (D, E, true, B) mX5_told [rv (D, E, true, B) 5 0, iv 0, iv b] qms6 (fun v g' => v = some 4294967295 ∧ g' = qms6) := by
  refine mg_C.of (by decide) rfl (Nat.le_of_ble_eq_true rfl) (List.forall_mem_cons.mpr ⟨rfl, (List.forall_mem_cons.mpr ⟨rfl, (List.forall_mem_cons.mpr ⟨rfl, (fun _ h => nomatch h)⟩)⟩)⟩) (fun K => ?_)
  refine g_aload_n (pc := 0) dX5_told_0 rfl ?_
  refine fg_X5_told_105 (pc := 1) (by rfl) dX5_told_1 ?_
  refine g_top (b := 1) (by decide +kernel) ?_
  refine g_if_eq (pc := 4) 15 dX5_told_4 (by decide) (by decide) (fun h => absurd h (by decide)) (fun _ => ?_)
  refine g_aload_n (pc := 7) dX5_told_7 rfl ?_
  refine g_iload_n (pc := 8) dX5_told_8 rfl ?_
  refine g_callVi (pc := 9) (Y' := mX5_isStation) (As := [iv 0]) (st := []) (k := 5) (i := 0) (qa32 K.2.1) gX5_told_X5_isStation rfl (show 0 < 1 by omega) rfl rfl (na := 1) rfl (by decide +kernel) (by decide) (by decide) (Nat.le_of_ble_eq_true rfl) dX5_told_9 (fun r1 g1 hp => ?_)
  obtain ⟨h1, rfl⟩ := hp
  cases h1
  refine g_if_ne (pc := 12) 17 dX5_told_12 (by decide) (by decide) (fun _ => ?_) (fun h => absurd h (by decide))
  refine g_iconst (pc := 17) (v := 0) dX5_told_17 (by decide +kernel) ?_
  refine g_istore_n (pc := 18) (ls' := [rv (D, E, true, B) 5 0, iv 0, iv b, iv 0]) dX5_told_18 (Nat.le_of_ble_eq_true rfl) (Nat.le_of_ble_eq_true rfl) rfl ?_
  refine g_iload_n (pc := 19) dX5_told_19 rfl ?_
  refine g_switchOut (pc := 20) 241 dX5_told_20 (by omega) (Or.inl (by have q := mg_sgn h_b (by omega : b < 4294967296); omega)) (by decide) ?_
  refine g_iconst (pc := 241) (v := 4294967295) dX5_told_241 (by decide +kernel) ?_
  exact g_iret (pc := 242) dX5_told_242 ⟨mg_narI _, Or.inl rfl⟩ ⟨rfl, rfl⟩
/-- X4_told(r4.0, 0, b[10,2147483647]) at qms6 -/
theorem qa311 (l : Launch) {D : va_G} {E : mg_E} {B : Nat} (b : Nat) (h_b : 10 ≤ b) (k_b : b ≤ 2147483647) : mg_C l (D, E, true, B) mX4_told [rv (D, E, true, B) 4 0, iv 0, iv b] qms6 (fun v g' => v = some 4294967295 ∧ g' = qms6) := by
  refine mg_C.of (by decide) rfl (Nat.le_of_ble_eq_true rfl) (List.forall_mem_cons.mpr ⟨rfl, (List.forall_mem_cons.mpr ⟨rfl, (List.forall_mem_cons.mpr ⟨rfl, (fun _ h => nomatch h)⟩)⟩)⟩) (fun K => ?_)
  refine g_aload_n (pc := 0) dX4_told_0 rfl ?_
  refine g_iload_n (pc := 1) dX4_told_1 rfl ?_
  refine g_callVi (pc := 2) (Y' := mX4_isStation) (As := [iv 0]) (st := []) (k := 4) (i := 0) (qa29 K.2.1) gX4_told_X4_isStation rfl (show 0 < 1 by omega) rfl rfl (na := 1) rfl (by decide +kernel) (by decide) (by decide) (Nat.le_of_ble_eq_true rfl) dX4_told_2 (fun r1 g1 hp => ?_)
  obtain ⟨h1, rfl⟩ := hp
  cases h1
  refine g_if_ne (pc := 5) 10 dX4_told_5 (by decide) (by decide) (fun _ => ?_) (fun h => absurd h (by decide))
  refine g_aload_n (pc := 10) dX4_told_10 rfl ?_
  refine fg_X4_told_18 (pc := 11) dX4_told_11 ?_
  refine g_iload_n (pc := 14) dX4_told_14 rfl ?_
  refine g_aastation (pc := 15) (a := 0) (by decide) dX4_told_15 ?_
  refine g_astore_n (pc := 16) (ls' := [rv (D, E, true, B) 4 0, iv 0, iv b, rv (D, E, true, B) 3 0]) dX4_told_16 (Nat.le_of_ble_eq_true rfl) (Nat.le_of_ble_eq_true rfl) rfl ?_
  refine g_iload_n (pc := 17) dX4_told_17 rfl ?_
  refine g_switchOut (pc := 18) 157 dX4_told_18 (by omega) (Or.inr (by have q := mg_sgs (a := b) (by omega); omega)) (by decide) ?_
  refine g_iconst (pc := 157) (v := 4294967295) dX4_told_157 (by decide +kernel) ?_
  exact g_iret (pc := 158) dX4_told_158 ⟨mg_narI _, Or.inl rfl⟩ ⟨rfl, rfl⟩
/-- X5_told(r5.0, 0, b[10,2147483647]) at qms6 -/
theorem qa312 (l : Launch) {D : va_G} {E : mg_E} {B : Nat} (b : Nat) (h_b : 10 ≤ b) (k_b : b ≤ 2147483647) : mg_C l (D, E, true, B) mX5_told [rv (D, E, true, B) 5 0, iv 0, iv b] qms6 (fun v g' => v = some 4294967295 ∧ g' = qms6) := by
  refine mg_C.of (by decide) rfl (Nat.le_of_ble_eq_true rfl) (List.forall_mem_cons.mpr ⟨rfl, (List.forall_mem_cons.mpr ⟨rfl, (List.forall_mem_cons.mpr ⟨rfl, (fun _ h => nomatch h)⟩)⟩)⟩) (fun K => ?_)
  refine g_aload_n (pc := 0) dX5_told_0 rfl ?_
  refine fg_X5_told_105 (pc := 1) (by rfl) dX5_told_1 ?_
  refine g_top (b := 1) (by decide +kernel) ?_
  refine g_if_eq (pc := 4) 15 dX5_told_4 (by decide) (by decide) (fun h => absurd h (by decide)) (fun _ => ?_)
  refine g_aload_n (pc := 7) dX5_told_7 rfl ?_
  refine g_iload_n (pc := 8) dX5_told_8 rfl ?_
  refine g_callVi (pc := 9) (Y' := mX5_isStation) (As := [iv 0]) (st := []) (k := 5) (i := 0) (qa32 K.2.1) gX5_told_X5_isStation rfl (show 0 < 1 by omega) rfl rfl (na := 1) rfl (by decide +kernel) (by decide) (by decide) (Nat.le_of_ble_eq_true rfl) dX5_told_9 (fun r1 g1 hp => ?_)
  obtain ⟨h1, rfl⟩ := hp
  cases h1
  refine g_if_ne (pc := 12) 17 dX5_told_12 (by decide) (by decide) (fun _ => ?_) (fun h => absurd h (by decide))
  refine g_iconst (pc := 17) (v := 0) dX5_told_17 (by decide +kernel) ?_
  refine g_istore_n (pc := 18) (ls' := [rv (D, E, true, B) 5 0, iv 0, iv b, iv 0]) dX5_told_18 (Nat.le_of_ble_eq_true rfl) (Nat.le_of_ble_eq_true rfl) rfl ?_
  refine g_iload_n (pc := 19) dX5_told_19 rfl ?_
  refine g_switchOut (pc := 20) 241 dX5_told_20 (by omega) (Or.inr (by have q := mg_sgs (a := b) (by omega); omega)) (by decide) ?_
  refine g_iconst (pc := 241) (v := 4294967295) dX5_told_241 (by decide +kernel) ?_
  exact g_iret (pc := 242) dX5_told_242 ⟨mg_narI _, Or.inl rfl⟩ ⟨rfl, rfl⟩
/-- X4_told(r4.0, 1, 0) at qms6 -/
theorem qa313 (l : Launch) {D : va_G} {E : mg_E} {B : Nat} : mg_C l (D, E, true, B) mX4_told [rv (D, E, true, B) 4 0, iv 1, iv 0] qms6 (fun v g' => v = some 0 ∧ g' = qms6) := by
  refine mg_C.of (by decide) rfl (Nat.le_of_ble_eq_true rfl) (List.forall_mem_cons.mpr ⟨rfl, (List.forall_mem_cons.mpr ⟨rfl, (List.forall_mem_cons.mpr ⟨rfl, (fun _ h => nomatch h)⟩)⟩)⟩) (fun K => ?_)
  refine g_aload_n (pc := 0) dX4_told_0 rfl ?_
  refine g_iload_n (pc := 1) dX4_told_1 rfl ?_
  refine g_callVi (pc := 2) (Y' := mX4_isStation) (As := [iv 1]) (st := []) (k := 4) (i := 0) (qa50 K.2.1) gX4_told_X4_isStation rfl (show 0 < 1 by omega) rfl rfl (na := 1) rfl (by decide +kernel) (by decide) (by decide) (Nat.le_of_ble_eq_true rfl) dX4_told_2 (fun r1 g1 hp => ?_)
  obtain ⟨h1, rfl⟩ := hp
  cases h1
  refine g_if_ne (pc := 5) 10 dX4_told_5 (by decide) (by decide) (fun _ => ?_) (fun h => absurd h (by decide))
  refine g_aload_n (pc := 10) dX4_told_10 rfl ?_
  refine fg_X4_told_18 (pc := 11) dX4_told_11 ?_
  refine g_iload_n (pc := 14) dX4_told_14 rfl ?_
  refine g_aastation (pc := 15) (a := 1) (by decide) dX4_told_15 ?_
  refine g_astore_n (pc := 16) (ls' := [rv (D, E, true, B) 4 0, iv 1, iv 0, rv (D, E, true, B) 3 1]) dX4_told_16 (Nat.le_of_ble_eq_true rfl) (Nat.le_of_ble_eq_true rfl) rfl ?_
  refine g_iload_n (pc := 17) dX4_told_17 rfl ?_
  refine g_switchIn (pc := 18) 72 dX4_told_18 (by decide) (by decide) (by decide) rfl (by decide) ?_
  refine g_aload_n (pc := 72) dX4_told_72 rfl ?_
  refine fg_X4_told_178 (pc := 73) (show 1 < 24 by omega) dX4_told_73 ?_
  refine g_top (b := 0) (by decide +kernel) ?_
  refine g_if_eq (pc := 76) 83 dX4_told_76 (by decide) (by decide) (fun _ => ?_) (fun h => absurd (by decide) h)
  refine g_iconst (pc := 83) (v := 0) dX4_told_83 (by decide +kernel) ?_
  exact g_iret (pc := 84) dX4_told_84 ⟨mg_narI _, Or.inl rfl⟩ ⟨rfl, rfl⟩
/-- X5_told(r5.0, 1, 0) at qms6 -/
theorem qa314 (l : Launch) {D : va_G} {E : mg_E} {B : Nat} : mg_C l (D, E, true, B) mX5_told [rv (D, E, true, B) 5 0, iv 1, iv 0] qms6 (fun v g' => v = some 0 ∧ g' = qms6) := by
  refine mg_C.of (by decide) rfl (Nat.le_of_ble_eq_true rfl) (List.forall_mem_cons.mpr ⟨rfl, (List.forall_mem_cons.mpr ⟨rfl, (List.forall_mem_cons.mpr ⟨rfl, (fun _ h => nomatch h)⟩)⟩)⟩) (fun K => ?_)
  refine g_aload_n (pc := 0) dX5_told_0 rfl ?_
  refine fg_X5_told_105 (pc := 1) (by rfl) dX5_told_1 ?_
  refine g_top (b := 1) (by decide +kernel) ?_
  refine g_if_eq (pc := 4) 15 dX5_told_4 (by decide) (by decide) (fun h => absurd h (by decide)) (fun _ => ?_)
  refine g_aload_n (pc := 7) dX5_told_7 rfl ?_
  refine g_iload_n (pc := 8) dX5_told_8 rfl ?_
  refine g_callVi (pc := 9) (Y' := mX5_isStation) (As := [iv 1]) (st := []) (k := 5) (i := 0) (qa53 K.2.1) gX5_told_X5_isStation rfl (show 0 < 1 by omega) rfl rfl (na := 1) rfl (by decide +kernel) (by decide) (by decide) (Nat.le_of_ble_eq_true rfl) dX5_told_9 (fun r1 g1 hp => ?_)
  obtain ⟨h1, rfl⟩ := hp
  cases h1
  refine g_if_ne (pc := 12) 17 dX5_told_12 (by decide) (by decide) (fun _ => ?_) (fun h => absurd h (by decide))
  refine g_iconst (pc := 17) (v := 0) dX5_told_17 (by decide +kernel) ?_
  refine g_istore_n (pc := 18) (ls' := [rv (D, E, true, B) 5 0, iv 1, iv 0, iv 0]) dX5_told_18 (Nat.le_of_ble_eq_true rfl) (Nat.le_of_ble_eq_true rfl) rfl ?_
  refine g_iload_n (pc := 19) dX5_told_19 rfl ?_
  refine g_switchIn (pc := 20) 76 dX5_told_20 (by decide) (by decide) (by decide) rfl (by decide) ?_
  refine g_aload_n (pc := 76) dX5_told_76 rfl ?_
  refine fg_X5_told_17 (pc := 77) (by rfl) dX5_told_77 ?_
  refine g_iload_n (pc := 80) dX5_told_80 rfl ?_
  refine g_baload (pc := 81) (k := 37) (i := 0) (n := 24) (show 0 < 1 by omega) rfl (by decide) (by decide) dX5_told_81 ?_
  refine g_top (b := 0) (by decide +kernel) ?_
  refine g_if_eq (pc := 82) 89 dX5_told_82 (by decide) (by decide) (fun _ => ?_) (fun h => absurd (by decide) h)
  refine g_iconst (pc := 89) (v := 0) dX5_told_89 (by decide +kernel) ?_
  exact g_iret (pc := 90) dX5_told_90 ⟨mg_narI _, Or.inl rfl⟩ ⟨rfl, rfl⟩
/-- X4_told(r4.0, 1, 1) at qms6 -/
theorem qa315 (l : Launch) {D : va_G} {E : mg_E} {B : Nat} : mg_C l (D, E, true, B) mX4_told [rv (D, E, true, B) 4 0, iv 1, iv 1] qms6 (fun v g' => v = some 0 ∧ g' = qms6) := by
  refine mg_C.of (by decide) rfl (Nat.le_of_ble_eq_true rfl) (List.forall_mem_cons.mpr ⟨rfl, (List.forall_mem_cons.mpr ⟨rfl, (List.forall_mem_cons.mpr ⟨rfl, (fun _ h => nomatch h)⟩)⟩)⟩) (fun K => ?_)
  refine g_aload_n (pc := 0) dX4_told_0 rfl ?_
  refine g_iload_n (pc := 1) dX4_told_1 rfl ?_
  refine g_callVi (pc := 2) (Y' := mX4_isStation) (As := [iv 1]) (st := []) (k := 4) (i := 0) (qa50 K.2.1) gX4_told_X4_isStation rfl (show 0 < 1 by omega) rfl rfl (na := 1) rfl (by decide +kernel) (by decide) (by decide) (Nat.le_of_ble_eq_true rfl) dX4_told_2 (fun r1 g1 hp => ?_)
  obtain ⟨h1, rfl⟩ := hp
  cases h1
  refine g_if_ne (pc := 5) 10 dX4_told_5 (by decide) (by decide) (fun _ => ?_) (fun h => absurd h (by decide))
  refine g_aload_n (pc := 10) dX4_told_10 rfl ?_
  refine fg_X4_told_18 (pc := 11) dX4_told_11 ?_
  refine g_iload_n (pc := 14) dX4_told_14 rfl ?_
  refine g_aastation (pc := 15) (a := 1) (by decide) dX4_told_15 ?_
  refine g_astore_n (pc := 16) (ls' := [rv (D, E, true, B) 4 0, iv 1, iv 1, rv (D, E, true, B) 3 1]) dX4_told_16 (Nat.le_of_ble_eq_true rfl) (Nat.le_of_ble_eq_true rfl) rfl ?_
  refine g_iload_n (pc := 17) dX4_told_17 rfl ?_
  refine g_switchIn (pc := 18) 85 dX4_told_18 (by decide) (by decide) (by decide) rfl (by decide) ?_
  refine g_aload_n (pc := 85) dX4_told_85 rfl ?_
  refine fg_X4_told_111 (pc := 86) (show 1 < 24 by omega) dX4_told_86 ?_
  refine g_top (b := 0) (by decide +kernel) ?_
  refine g_if_eq (pc := 89) 96 dX4_told_89 (by decide) (by decide) (fun _ => ?_) (fun h => absurd (by decide) h)
  refine g_iconst (pc := 96) (v := 0) dX4_told_96 (by decide +kernel) ?_
  exact g_iret (pc := 97) dX4_told_97 ⟨mg_narI _, Or.inl rfl⟩ ⟨rfl, rfl⟩
/-- X5_told(r5.0, 1, 1) at qms6 -/
theorem qa316 (l : Launch) {D : va_G} {E : mg_E} {B : Nat} : mg_C l (D, E, true, B) mX5_told [rv (D, E, true, B) 5 0, iv 1, iv 1] qms6 (fun v g' => v = some 0 ∧ g' = qms6) := by
  refine mg_C.of (by decide) rfl (Nat.le_of_ble_eq_true rfl) (List.forall_mem_cons.mpr ⟨rfl, (List.forall_mem_cons.mpr ⟨rfl, (List.forall_mem_cons.mpr ⟨rfl, (fun _ h => nomatch h)⟩)⟩)⟩) (fun K => ?_)
  refine g_aload_n (pc := 0) dX5_told_0 rfl ?_
  refine fg_X5_told_105 (pc := 1) (by rfl) dX5_told_1 ?_
  refine g_top (b := 1) (by decide +kernel) ?_
  refine g_if_eq (pc := 4) 15 dX5_told_4 (by decide) (by decide) (fun h => absurd h (by decide)) (fun _ => ?_)
  refine g_aload_n (pc := 7) dX5_told_7 rfl ?_
  refine g_iload_n (pc := 8) dX5_told_8 rfl ?_
  refine g_callVi (pc := 9) (Y' := mX5_isStation) (As := [iv 1]) (st := []) (k := 5) (i := 0) (qa53 K.2.1) gX5_told_X5_isStation rfl (show 0 < 1 by omega) rfl rfl (na := 1) rfl (by decide +kernel) (by decide) (by decide) (Nat.le_of_ble_eq_true rfl) dX5_told_9 (fun r1 g1 hp => ?_)
  obtain ⟨h1, rfl⟩ := hp
  cases h1
  refine g_if_ne (pc := 12) 17 dX5_told_12 (by decide) (by decide) (fun _ => ?_) (fun h => absurd h (by decide))
  refine g_iconst (pc := 17) (v := 0) dX5_told_17 (by decide +kernel) ?_
  refine g_istore_n (pc := 18) (ls' := [rv (D, E, true, B) 5 0, iv 1, iv 1, iv 0]) dX5_told_18 (Nat.le_of_ble_eq_true rfl) (Nat.le_of_ble_eq_true rfl) rfl ?_
  refine g_iload_n (pc := 19) dX5_told_19 rfl ?_
  refine g_switchIn (pc := 20) 91 dX5_told_20 (by decide) (by decide) (by decide) rfl (by decide) ?_
  refine g_aload_n (pc := 91) dX5_told_91 rfl ?_
  refine fg_X5_told_20 (pc := 92) (by rfl) dX5_told_92 ?_
  refine g_iload_n (pc := 95) dX5_told_95 rfl ?_
  refine g_baload (pc := 96) (k := 38) (i := 0) (n := 24) (show 0 < 1 by omega) rfl (by decide) (by decide) dX5_told_96 ?_
  refine g_top (b := 0) (by decide +kernel) ?_
  refine g_if_eq (pc := 97) 104 dX5_told_97 (by decide) (by decide) (fun _ => ?_) (fun h => absurd (by decide) h)
  refine g_iconst (pc := 104) (v := 0) dX5_told_104 (by decide +kernel) ?_
  exact g_iret (pc := 105) dX5_told_105 ⟨mg_narI _, Or.inl rfl⟩ ⟨rfl, rfl⟩
/-- X4_told(r4.0, 1, 2) at qms6 -/
theorem qa317 (l : Launch) {D : va_G} {E : mg_E} {B : Nat} : mg_C l (D, E, true, B) mX4_told [rv (D, E, true, B) 4 0, iv 1, iv 2] qms6 (fun v g' => v = some 0 ∧ g' = qms6) := by
  refine mg_C.of (by decide) rfl (Nat.le_of_ble_eq_true rfl) (List.forall_mem_cons.mpr ⟨rfl, (List.forall_mem_cons.mpr ⟨rfl, (List.forall_mem_cons.mpr ⟨rfl, (fun _ h => nomatch h)⟩)⟩)⟩) (fun K => ?_)
  refine g_aload_n (pc := 0) dX4_told_0 rfl ?_
  refine g_iload_n (pc := 1) dX4_told_1 rfl ?_
  refine g_callVi (pc := 2) (Y' := mX4_isStation) (As := [iv 1]) (st := []) (k := 4) (i := 0) (qa50 K.2.1) gX4_told_X4_isStation rfl (show 0 < 1 by omega) rfl rfl (na := 1) rfl (by decide +kernel) (by decide) (by decide) (Nat.le_of_ble_eq_true rfl) dX4_told_2 (fun r1 g1 hp => ?_)
  obtain ⟨h1, rfl⟩ := hp
  cases h1
  refine g_if_ne (pc := 5) 10 dX4_told_5 (by decide) (by decide) (fun _ => ?_) (fun h => absurd h (by decide))
  refine g_aload_n (pc := 10) dX4_told_10 rfl ?_
  refine fg_X4_told_18 (pc := 11) dX4_told_11 ?_
  refine g_iload_n (pc := 14) dX4_told_14 rfl ?_
  refine g_aastation (pc := 15) (a := 1) (by decide) dX4_told_15 ?_
  refine g_astore_n (pc := 16) (ls' := [rv (D, E, true, B) 4 0, iv 1, iv 2, rv (D, E, true, B) 3 1]) dX4_told_16 (Nat.le_of_ble_eq_true rfl) (Nat.le_of_ble_eq_true rfl) rfl ?_
  refine g_iload_n (pc := 17) dX4_told_17 rfl ?_
  refine g_switchIn (pc := 18) 98 dX4_told_18 (by decide) (by decide) (by decide) rfl (by decide) ?_
  refine g_aload_n (pc := 98) dX4_told_98 rfl ?_
  refine fg_X4_told_211 (pc := 99) (show 1 < 24 by omega) dX4_told_99 ?_
  refine g_top (b := 0) (by decide +kernel) ?_
  refine g_if_eq (pc := 102) 109 dX4_told_102 (by decide) (by decide) (fun _ => ?_) (fun h => absurd (by decide) h)
  refine g_iconst (pc := 109) (v := 0) dX4_told_109 (by decide +kernel) ?_
  exact g_iret (pc := 110) dX4_told_110 ⟨mg_narI _, Or.inl rfl⟩ ⟨rfl, rfl⟩
/-- X5_told(r5.0, 1, 2) at qms6 -/
theorem qa318 (l : Launch) {D : va_G} {E : mg_E} {B : Nat} : mg_C l (D, E, true, B) mX5_told [rv (D, E, true, B) 5 0, iv 1, iv 2] qms6 (fun v g' => v = some 0 ∧ g' = qms6) := by
  refine mg_C.of (by decide) rfl (Nat.le_of_ble_eq_true rfl) (List.forall_mem_cons.mpr ⟨rfl, (List.forall_mem_cons.mpr ⟨rfl, (List.forall_mem_cons.mpr ⟨rfl, (fun _ h => nomatch h)⟩)⟩)⟩) (fun K => ?_)
  refine g_aload_n (pc := 0) dX5_told_0 rfl ?_
  refine fg_X5_told_105 (pc := 1) (by rfl) dX5_told_1 ?_
  refine g_top (b := 1) (by decide +kernel) ?_
  refine g_if_eq (pc := 4) 15 dX5_told_4 (by decide) (by decide) (fun h => absurd h (by decide)) (fun _ => ?_)
  refine g_aload_n (pc := 7) dX5_told_7 rfl ?_
  refine g_iload_n (pc := 8) dX5_told_8 rfl ?_
  refine g_callVi (pc := 9) (Y' := mX5_isStation) (As := [iv 1]) (st := []) (k := 5) (i := 0) (qa53 K.2.1) gX5_told_X5_isStation rfl (show 0 < 1 by omega) rfl rfl (na := 1) rfl (by decide +kernel) (by decide) (by decide) (Nat.le_of_ble_eq_true rfl) dX5_told_9 (fun r1 g1 hp => ?_)
  obtain ⟨h1, rfl⟩ := hp
  cases h1
  refine g_if_ne (pc := 12) 17 dX5_told_12 (by decide) (by decide) (fun _ => ?_) (fun h => absurd h (by decide))
  refine g_iconst (pc := 17) (v := 0) dX5_told_17 (by decide +kernel) ?_
  refine g_istore_n (pc := 18) (ls' := [rv (D, E, true, B) 5 0, iv 1, iv 2, iv 0]) dX5_told_18 (Nat.le_of_ble_eq_true rfl) (Nat.le_of_ble_eq_true rfl) rfl ?_
  refine g_iload_n (pc := 19) dX5_told_19 rfl ?_
  refine g_switchIn (pc := 20) 106 dX5_told_20 (by decide) (by decide) (by decide) rfl (by decide) ?_
  refine g_aload_n (pc := 106) dX5_told_106 rfl ?_
  refine fg_X5_told_23 (pc := 107) (by rfl) dX5_told_107 ?_
  refine g_iload_n (pc := 110) dX5_told_110 rfl ?_
  refine g_baload (pc := 111) (k := 39) (i := 0) (n := 24) (show 0 < 1 by omega) rfl (by decide) (by decide) dX5_told_111 ?_
  refine g_top (b := 0) (by decide +kernel) ?_
  refine g_if_eq (pc := 112) 119 dX5_told_112 (by decide) (by decide) (fun _ => ?_) (fun h => absurd (by decide) h)
  refine g_iconst (pc := 119) (v := 0) dX5_told_119 (by decide +kernel) ?_
  exact g_iret (pc := 120) dX5_told_120 ⟨mg_narI _, Or.inl rfl⟩ ⟨rfl, rfl⟩
/-- X4_told(r4.0, 1, 3) at qms6 -/
theorem qa319 (l : Launch) {D : va_G} {E : mg_E} {B : Nat} : mg_C l (D, E, true, B) mX4_told [rv (D, E, true, B) 4 0, iv 1, iv 3] qms6 (fun v g' => v = some 0 ∧ g' = qms6) := by
  refine mg_C.of (by decide) rfl (Nat.le_of_ble_eq_true rfl) (List.forall_mem_cons.mpr ⟨rfl, (List.forall_mem_cons.mpr ⟨rfl, (List.forall_mem_cons.mpr ⟨rfl, (fun _ h => nomatch h)⟩)⟩)⟩) (fun K => ?_)
  refine g_aload_n (pc := 0) dX4_told_0 rfl ?_
  refine g_iload_n (pc := 1) dX4_told_1 rfl ?_
  refine g_callVi (pc := 2) (Y' := mX4_isStation) (As := [iv 1]) (st := []) (k := 4) (i := 0) (qa50 K.2.1) gX4_told_X4_isStation rfl (show 0 < 1 by omega) rfl rfl (na := 1) rfl (by decide +kernel) (by decide) (by decide) (Nat.le_of_ble_eq_true rfl) dX4_told_2 (fun r1 g1 hp => ?_)
  obtain ⟨h1, rfl⟩ := hp
  cases h1
  refine g_if_ne (pc := 5) 10 dX4_told_5 (by decide) (by decide) (fun _ => ?_) (fun h => absurd h (by decide))
  refine g_aload_n (pc := 10) dX4_told_10 rfl ?_
  refine fg_X4_told_18 (pc := 11) dX4_told_11 ?_
  refine g_iload_n (pc := 14) dX4_told_14 rfl ?_
  refine g_aastation (pc := 15) (a := 1) (by decide) dX4_told_15 ?_
  refine g_astore_n (pc := 16) (ls' := [rv (D, E, true, B) 4 0, iv 1, iv 3, rv (D, E, true, B) 3 1]) dX4_told_16 (Nat.le_of_ble_eq_true rfl) (Nat.le_of_ble_eq_true rfl) rfl ?_
  refine g_iload_n (pc := 17) dX4_told_17 rfl ?_
  refine g_switchIn (pc := 18) 111 dX4_told_18 (by decide) (by decide) (by decide) rfl (by decide) ?_
  refine g_aload_n (pc := 111) dX4_told_111 rfl ?_
  refine fg_X4_told_118 (pc := 112) (show 1 < 24 by omega) dX4_told_112 ?_
  refine fg_X4_told_133 (pc := 115) (show 1 < 24 by omega) dX4_told_115 ?_
  refine g_top (b := 0) (by decide +kernel) ?_
  exact g_iret (pc := 118) dX4_told_118 ⟨mg_narI _, Or.inl rfl⟩ ⟨rfl, rfl⟩
/-- X5_told(r5.0, 1, 3) at qms6 -/
theorem qa320 (l : Launch) {D : va_G} {E : mg_E} {B : Nat} : mg_C l (D, E, true, B) mX5_told [rv (D, E, true, B) 5 0, iv 1, iv 3] qms6 (fun v g' => v = some 0 ∧ g' = qms6) := by
  refine mg_C.of (by decide) rfl (Nat.le_of_ble_eq_true rfl) (List.forall_mem_cons.mpr ⟨rfl, (List.forall_mem_cons.mpr ⟨rfl, (List.forall_mem_cons.mpr ⟨rfl, (fun _ h => nomatch h)⟩)⟩)⟩) (fun K => ?_)
  refine g_aload_n (pc := 0) dX5_told_0 rfl ?_
  refine fg_X5_told_105 (pc := 1) (by rfl) dX5_told_1 ?_
  refine g_top (b := 1) (by decide +kernel) ?_
  refine g_if_eq (pc := 4) 15 dX5_told_4 (by decide) (by decide) (fun h => absurd h (by decide)) (fun _ => ?_)
  refine g_aload_n (pc := 7) dX5_told_7 rfl ?_
  refine g_iload_n (pc := 8) dX5_told_8 rfl ?_
  refine g_callVi (pc := 9) (Y' := mX5_isStation) (As := [iv 1]) (st := []) (k := 5) (i := 0) (qa53 K.2.1) gX5_told_X5_isStation rfl (show 0 < 1 by omega) rfl rfl (na := 1) rfl (by decide +kernel) (by decide) (by decide) (Nat.le_of_ble_eq_true rfl) dX5_told_9 (fun r1 g1 hp => ?_)
  obtain ⟨h1, rfl⟩ := hp
  cases h1
  refine g_if_ne (pc := 12) 17 dX5_told_12 (by decide) (by decide) (fun _ => ?_) (fun h => absurd h (by decide))
  refine g_iconst (pc := 17) (v := 0) dX5_told_17 (by decide +kernel) ?_
  refine g_istore_n (pc := 18) (ls' := [rv (D, E, true, B) 5 0, iv 1, iv 3, iv 0]) dX5_told_18 (Nat.le_of_ble_eq_true rfl) (Nat.le_of_ble_eq_true rfl) rfl ?_
  refine g_iload_n (pc := 19) dX5_told_19 rfl ?_
  refine g_switchIn (pc := 20) 121 dX5_told_20 (by decide) (by decide) (by decide) rfl (by decide) ?_
  refine g_aload_n (pc := 121) dX5_told_121 rfl ?_
  refine fg_X5_told_41 (pc := 122) (by rfl) dX5_told_122 ?_
  refine g_iload_n (pc := 125) dX5_told_125 rfl ?_
  refine g_iaload (pc := 126) (k := 46) (i := 0) (n := 24) (show 0 < 1 by omega) rfl (by decide) (by decide) dX5_told_126 ?_
  refine g_top (b := 0) (by decide +kernel) ?_
  exact g_iret (pc := 127) dX5_told_127 ⟨mg_narI _, Or.inl rfl⟩ ⟨rfl, rfl⟩
/-- X4_told(r4.0, 1, 4) at qms6 -/
theorem qa321 (l : Launch) {D : va_G} {E : mg_E} {B : Nat} : mg_C l (D, E, true, B) mX4_told [rv (D, E, true, B) 4 0, iv 1, iv 4] qms6 (fun v g' => v = some 0 ∧ g' = qms6) := by
  refine mg_C.of (by decide) rfl (Nat.le_of_ble_eq_true rfl) (List.forall_mem_cons.mpr ⟨rfl, (List.forall_mem_cons.mpr ⟨rfl, (List.forall_mem_cons.mpr ⟨rfl, (fun _ h => nomatch h)⟩)⟩)⟩) (fun K => ?_)
  refine g_aload_n (pc := 0) dX4_told_0 rfl ?_
  refine g_iload_n (pc := 1) dX4_told_1 rfl ?_
  refine g_callVi (pc := 2) (Y' := mX4_isStation) (As := [iv 1]) (st := []) (k := 4) (i := 0) (qa50 K.2.1) gX4_told_X4_isStation rfl (show 0 < 1 by omega) rfl rfl (na := 1) rfl (by decide +kernel) (by decide) (by decide) (Nat.le_of_ble_eq_true rfl) dX4_told_2 (fun r1 g1 hp => ?_)
  obtain ⟨h1, rfl⟩ := hp
  cases h1
  refine g_if_ne (pc := 5) 10 dX4_told_5 (by decide) (by decide) (fun _ => ?_) (fun h => absurd h (by decide))
  refine g_aload_n (pc := 10) dX4_told_10 rfl ?_
  refine fg_X4_told_18 (pc := 11) dX4_told_11 ?_
  refine g_iload_n (pc := 14) dX4_told_14 rfl ?_
  refine g_aastation (pc := 15) (a := 1) (by decide) dX4_told_15 ?_
  refine g_astore_n (pc := 16) (ls' := [rv (D, E, true, B) 4 0, iv 1, iv 4, rv (D, E, true, B) 3 1]) dX4_told_16 (Nat.le_of_ble_eq_true rfl) (Nat.le_of_ble_eq_true rfl) rfl ?_
  refine g_iload_n (pc := 17) dX4_told_17 rfl ?_
  refine g_switchIn (pc := 18) 119 dX4_told_18 (by decide) (by decide) (by decide) rfl (by decide) ?_
  refine g_aload_n (pc := 119) dX4_told_119 rfl ?_
  refine fg_X4_told_152 (pc := 120) (show 1 < 24 by omega) dX4_told_120 ?_
  refine g_top (b := 0) (by decide +kernel) ?_
  exact g_iret (pc := 123) dX4_told_123 ⟨mg_narI _, Or.inl rfl⟩ ⟨rfl, rfl⟩
/-- X5_told(r5.0, 1, 4) at qms6 -/
theorem qa322 (l : Launch) {D : va_G} {E : mg_E} {B : Nat} : mg_C l (D, E, true, B) mX5_told [rv (D, E, true, B) 5 0, iv 1, iv 4] qms6 (fun v g' => v = some 0 ∧ g' = qms6) := by
  refine mg_C.of (by decide) rfl (Nat.le_of_ble_eq_true rfl) (List.forall_mem_cons.mpr ⟨rfl, (List.forall_mem_cons.mpr ⟨rfl, (List.forall_mem_cons.mpr ⟨rfl, (fun _ h => nomatch h)⟩)⟩)⟩) (fun K => ?_)
  refine g_aload_n (pc := 0) dX5_told_0 rfl ?_
  refine fg_X5_told_105 (pc := 1) (by rfl) dX5_told_1 ?_
  refine g_top (b := 1) (by decide +kernel) ?_
  refine g_if_eq (pc := 4) 15 dX5_told_4 (by decide) (by decide) (fun h => absurd h (by decide)) (fun _ => ?_)
  refine g_aload_n (pc := 7) dX5_told_7 rfl ?_
  refine g_iload_n (pc := 8) dX5_told_8 rfl ?_
  refine g_callVi (pc := 9) (Y' := mX5_isStation) (As := [iv 1]) (st := []) (k := 5) (i := 0) (qa53 K.2.1) gX5_told_X5_isStation rfl (show 0 < 1 by omega) rfl rfl (na := 1) rfl (by decide +kernel) (by decide) (by decide) (Nat.le_of_ble_eq_true rfl) dX5_told_9 (fun r1 g1 hp => ?_)
  obtain ⟨h1, rfl⟩ := hp
  cases h1
  refine g_if_ne (pc := 12) 17 dX5_told_12 (by decide) (by decide) (fun _ => ?_) (fun h => absurd h (by decide))
  refine g_iconst (pc := 17) (v := 0) dX5_told_17 (by decide +kernel) ?_
  refine g_istore_n (pc := 18) (ls' := [rv (D, E, true, B) 5 0, iv 1, iv 4, iv 0]) dX5_told_18 (Nat.le_of_ble_eq_true rfl) (Nat.le_of_ble_eq_true rfl) rfl ?_
  refine g_iload_n (pc := 19) dX5_told_19 rfl ?_
  refine g_switchIn (pc := 20) 128 dX5_told_20 (by decide) (by decide) (by decide) rfl (by decide) ?_
  refine g_aload_n (pc := 128) dX5_told_128 rfl ?_
  refine fg_X5_told_26 (pc := 129) (by rfl) dX5_told_129 ?_
  refine g_iload_n (pc := 132) dX5_told_132 rfl ?_
  refine g_iaload (pc := 133) (k := 40) (i := 0) (n := 24) (show 0 < 1 by omega) rfl (by decide) (by decide) dX5_told_133 ?_
  refine g_top (b := 0) (by decide +kernel) ?_
  exact g_iret (pc := 134) dX5_told_134 ⟨mg_narI _, Or.inl rfl⟩ ⟨rfl, rfl⟩
/-- X4_told(r4.0, 1, 5) at qms6 -/
theorem qa323 (l : Launch) {D : va_G} {E : mg_E} {B : Nat} : mg_C l (D, E, true, B) mX4_told [rv (D, E, true, B) 4 0, iv 1, iv 5] qms6 (fun v g' => v = some 0 ∧ g' = qms6) := by
  refine mg_C.of (by decide) rfl (Nat.le_of_ble_eq_true rfl) (List.forall_mem_cons.mpr ⟨rfl, (List.forall_mem_cons.mpr ⟨rfl, (List.forall_mem_cons.mpr ⟨rfl, (fun _ h => nomatch h)⟩)⟩)⟩) (fun K => ?_)
  refine g_aload_n (pc := 0) dX4_told_0 rfl ?_
  refine g_iload_n (pc := 1) dX4_told_1 rfl ?_
  refine g_callVi (pc := 2) (Y' := mX4_isStation) (As := [iv 1]) (st := []) (k := 4) (i := 0) (qa50 K.2.1) gX4_told_X4_isStation rfl (show 0 < 1 by omega) rfl rfl (na := 1) rfl (by decide +kernel) (by decide) (by decide) (Nat.le_of_ble_eq_true rfl) dX4_told_2 (fun r1 g1 hp => ?_)
  obtain ⟨h1, rfl⟩ := hp
  cases h1
  refine g_if_ne (pc := 5) 10 dX4_told_5 (by decide) (by decide) (fun _ => ?_) (fun h => absurd h (by decide))
  refine g_aload_n (pc := 10) dX4_told_10 rfl ?_
  refine fg_X4_told_18 (pc := 11) dX4_told_11 ?_
  refine g_iload_n (pc := 14) dX4_told_14 rfl ?_
  refine g_aastation (pc := 15) (a := 1) (by decide) dX4_told_15 ?_
  refine g_astore_n (pc := 16) (ls' := [rv (D, E, true, B) 4 0, iv 1, iv 5, rv (D, E, true, B) 3 1]) dX4_told_16 (Nat.le_of_ble_eq_true rfl) (Nat.le_of_ble_eq_true rfl) rfl ?_
  refine g_iload_n (pc := 17) dX4_told_17 rfl ?_
  refine g_switchIn (pc := 18) 124 dX4_told_18 (by decide) (by decide) (by decide) rfl (by decide) ?_
  refine g_aload_n (pc := 124) dX4_told_124 rfl ?_
  refine fg_X4_told_164 (pc := 125) (show 1 < 24 by omega) dX4_told_125 ?_
  refine g_top (b := 0) (by decide +kernel) ?_
  exact g_iret (pc := 128) dX4_told_128 ⟨mg_narI _, Or.inl rfl⟩ ⟨rfl, rfl⟩
/-- X5_told(r5.0, 1, 5) at qms6 -/
theorem qa324 (l : Launch) {D : va_G} {E : mg_E} {B : Nat} : mg_C l (D, E, true, B) mX5_told [rv (D, E, true, B) 5 0, iv 1, iv 5] qms6 (fun v g' => v = some 0 ∧ g' = qms6) := by
  refine mg_C.of (by decide) rfl (Nat.le_of_ble_eq_true rfl) (List.forall_mem_cons.mpr ⟨rfl, (List.forall_mem_cons.mpr ⟨rfl, (List.forall_mem_cons.mpr ⟨rfl, (fun _ h => nomatch h)⟩)⟩)⟩) (fun K => ?_)
  refine g_aload_n (pc := 0) dX5_told_0 rfl ?_
  refine fg_X5_told_105 (pc := 1) (by rfl) dX5_told_1 ?_
  refine g_top (b := 1) (by decide +kernel) ?_
  refine g_if_eq (pc := 4) 15 dX5_told_4 (by decide) (by decide) (fun h => absurd h (by decide)) (fun _ => ?_)
  refine g_aload_n (pc := 7) dX5_told_7 rfl ?_
  refine g_iload_n (pc := 8) dX5_told_8 rfl ?_
  refine g_callVi (pc := 9) (Y' := mX5_isStation) (As := [iv 1]) (st := []) (k := 5) (i := 0) (qa53 K.2.1) gX5_told_X5_isStation rfl (show 0 < 1 by omega) rfl rfl (na := 1) rfl (by decide +kernel) (by decide) (by decide) (Nat.le_of_ble_eq_true rfl) dX5_told_9 (fun r1 g1 hp => ?_)
  obtain ⟨h1, rfl⟩ := hp
  cases h1
  refine g_if_ne (pc := 12) 17 dX5_told_12 (by decide) (by decide) (fun _ => ?_) (fun h => absurd h (by decide))
  refine g_iconst (pc := 17) (v := 0) dX5_told_17 (by decide +kernel) ?_
  refine g_istore_n (pc := 18) (ls' := [rv (D, E, true, B) 5 0, iv 1, iv 5, iv 0]) dX5_told_18 (Nat.le_of_ble_eq_true rfl) (Nat.le_of_ble_eq_true rfl) rfl ?_
  refine g_iload_n (pc := 19) dX5_told_19 rfl ?_
  refine g_switchIn (pc := 20) 135 dX5_told_20 (by decide) (by decide) (by decide) rfl (by decide) ?_
  refine g_aload_n (pc := 135) dX5_told_135 rfl ?_
  refine fg_X5_told_32 (pc := 136) (by rfl) dX5_told_136 ?_
  refine g_iload_n (pc := 139) dX5_told_139 rfl ?_
  refine g_iaload (pc := 140) (k := 42) (i := 0) (n := 24) (show 0 < 1 by omega) rfl (by decide) (by decide) dX5_told_140 ?_
  refine g_top (b := 0) (by decide +kernel) ?_
  exact g_iret (pc := 141) dX5_told_141 ⟨mg_narI _, Or.inl rfl⟩ ⟨rfl, rfl⟩
/-- X4_told(r4.0, 1, 6) at qms6 -/
theorem qa325 (l : Launch) {D : va_G} {E : mg_E} {B : Nat} : mg_C l (D, E, true, B) mX4_told [rv (D, E, true, B) 4 0, iv 1, iv 6] qms6 (fun v g' => v = some 0 ∧ g' = qms6) := by
  refine mg_C.of (by decide) rfl (Nat.le_of_ble_eq_true rfl) (List.forall_mem_cons.mpr ⟨rfl, (List.forall_mem_cons.mpr ⟨rfl, (List.forall_mem_cons.mpr ⟨rfl, (fun _ h => nomatch h)⟩)⟩)⟩) (fun K => ?_)
  refine g_aload_n (pc := 0) dX4_told_0 rfl ?_
  refine g_iload_n (pc := 1) dX4_told_1 rfl ?_
  refine g_callVi (pc := 2) (Y' := mX4_isStation) (As := [iv 1]) (st := []) (k := 4) (i := 0) (qa50 K.2.1) gX4_told_X4_isStation rfl (show 0 < 1 by omega) rfl rfl (na := 1) rfl (by decide +kernel) (by decide) (by decide) (Nat.le_of_ble_eq_true rfl) dX4_told_2 (fun r1 g1 hp => ?_)
  obtain ⟨h1, rfl⟩ := hp
  cases h1
  refine g_if_ne (pc := 5) 10 dX4_told_5 (by decide) (by decide) (fun _ => ?_) (fun h => absurd h (by decide))
  refine g_aload_n (pc := 10) dX4_told_10 rfl ?_
  refine fg_X4_told_18 (pc := 11) dX4_told_11 ?_
  refine g_iload_n (pc := 14) dX4_told_14 rfl ?_
  refine g_aastation (pc := 15) (a := 1) (by decide) dX4_told_15 ?_
  refine g_astore_n (pc := 16) (ls' := [rv (D, E, true, B) 4 0, iv 1, iv 6, rv (D, E, true, B) 3 1]) dX4_told_16 (Nat.le_of_ble_eq_true rfl) (Nat.le_of_ble_eq_true rfl) rfl ?_
  refine g_iload_n (pc := 17) dX4_told_17 rfl ?_
  refine g_switchIn (pc := 18) 129 dX4_told_18 (by decide) (by decide) (by decide) rfl (by decide) ?_
  refine g_aload_n (pc := 129) dX4_told_129 rfl ?_
  refine fg_X4_told_130 (pc := 130) (show 1 < 24 by omega) dX4_told_130 ?_
  refine g_top (b := 0) (by decide +kernel) ?_
  exact g_iret (pc := 133) dX4_told_133 ⟨mg_narI _, Or.inl rfl⟩ ⟨rfl, rfl⟩
/-- X5_told(r5.0, 1, 6) at qms6 -/
theorem qa326 (l : Launch) {D : va_G} {E : mg_E} {B : Nat} : mg_C l (D, E, true, B) mX5_told [rv (D, E, true, B) 5 0, iv 1, iv 6] qms6 (fun v g' => v = some 0 ∧ g' = qms6) := by
  refine mg_C.of (by decide) rfl (Nat.le_of_ble_eq_true rfl) (List.forall_mem_cons.mpr ⟨rfl, (List.forall_mem_cons.mpr ⟨rfl, (List.forall_mem_cons.mpr ⟨rfl, (fun _ h => nomatch h)⟩)⟩)⟩) (fun K => ?_)
  refine g_aload_n (pc := 0) dX5_told_0 rfl ?_
  refine fg_X5_told_105 (pc := 1) (by rfl) dX5_told_1 ?_
  refine g_top (b := 1) (by decide +kernel) ?_
  refine g_if_eq (pc := 4) 15 dX5_told_4 (by decide) (by decide) (fun h => absurd h (by decide)) (fun _ => ?_)
  refine g_aload_n (pc := 7) dX5_told_7 rfl ?_
  refine g_iload_n (pc := 8) dX5_told_8 rfl ?_
  refine g_callVi (pc := 9) (Y' := mX5_isStation) (As := [iv 1]) (st := []) (k := 5) (i := 0) (qa53 K.2.1) gX5_told_X5_isStation rfl (show 0 < 1 by omega) rfl rfl (na := 1) rfl (by decide +kernel) (by decide) (by decide) (Nat.le_of_ble_eq_true rfl) dX5_told_9 (fun r1 g1 hp => ?_)
  obtain ⟨h1, rfl⟩ := hp
  cases h1
  refine g_if_ne (pc := 12) 17 dX5_told_12 (by decide) (by decide) (fun _ => ?_) (fun h => absurd h (by decide))
  refine g_iconst (pc := 17) (v := 0) dX5_told_17 (by decide +kernel) ?_
  refine g_istore_n (pc := 18) (ls' := [rv (D, E, true, B) 5 0, iv 1, iv 6, iv 0]) dX5_told_18 (Nat.le_of_ble_eq_true rfl) (Nat.le_of_ble_eq_true rfl) rfl ?_
  refine g_iload_n (pc := 19) dX5_told_19 rfl ?_
  refine g_switchIn (pc := 20) 142 dX5_told_20 (by decide) (by decide) (by decide) rfl (by decide) ?_
  refine g_aload_n (pc := 142) dX5_told_142 rfl ?_
  refine fg_X5_told_35 (pc := 143) (by rfl) dX5_told_143 ?_
  refine g_iload_n (pc := 146) dX5_told_146 rfl ?_
  refine g_iaload (pc := 147) (k := 43) (i := 0) (n := 24) (show 0 < 1 by omega) rfl (by decide) (by decide) dX5_told_147 ?_
  refine g_top (b := 0) (by decide +kernel) ?_
  exact g_iret (pc := 148) dX5_told_148 ⟨mg_narI _, Or.inl rfl⟩ ⟨rfl, rfl⟩
/-- X4_told(r4.0, 1, 7) at qms6 -/
theorem qa327 (l : Launch) {D : va_G} {E : mg_E} {B : Nat} : mg_C l (D, E, true, B) mX4_told [rv (D, E, true, B) 4 0, iv 1, iv 7] qms6 (fun v g' => v = some 0 ∧ g' = qms6) := by
  refine mg_C.of (by decide) rfl (Nat.le_of_ble_eq_true rfl) (List.forall_mem_cons.mpr ⟨rfl, (List.forall_mem_cons.mpr ⟨rfl, (List.forall_mem_cons.mpr ⟨rfl, (fun _ h => nomatch h)⟩)⟩)⟩) (fun K => ?_)
  refine g_aload_n (pc := 0) dX4_told_0 rfl ?_
  refine g_iload_n (pc := 1) dX4_told_1 rfl ?_
  refine g_callVi (pc := 2) (Y' := mX4_isStation) (As := [iv 1]) (st := []) (k := 4) (i := 0) (qa50 K.2.1) gX4_told_X4_isStation rfl (show 0 < 1 by omega) rfl rfl (na := 1) rfl (by decide +kernel) (by decide) (by decide) (Nat.le_of_ble_eq_true rfl) dX4_told_2 (fun r1 g1 hp => ?_)
  obtain ⟨h1, rfl⟩ := hp
  cases h1
  refine g_if_ne (pc := 5) 10 dX4_told_5 (by decide) (by decide) (fun _ => ?_) (fun h => absurd h (by decide))
  refine g_aload_n (pc := 10) dX4_told_10 rfl ?_
  refine fg_X4_told_18 (pc := 11) dX4_told_11 ?_
  refine g_iload_n (pc := 14) dX4_told_14 rfl ?_
  refine g_aastation (pc := 15) (a := 1) (by decide) dX4_told_15 ?_
  refine g_astore_n (pc := 16) (ls' := [rv (D, E, true, B) 4 0, iv 1, iv 7, rv (D, E, true, B) 3 1]) dX4_told_16 (Nat.le_of_ble_eq_true rfl) (Nat.le_of_ble_eq_true rfl) rfl ?_
  refine g_iload_n (pc := 17) dX4_told_17 rfl ?_
  refine g_switchIn (pc := 18) 134 dX4_told_18 (by decide) (by decide) (by decide) rfl (by decide) ?_
  refine g_aload_n (pc := 134) dX4_told_134 rfl ?_
  refine fg_X4_told_146 (pc := 135) (show 1 < 24 by omega) dX4_told_135 ?_
  refine g_top (b := 0) (by decide +kernel) ?_
  exact g_iret (pc := 138) dX4_told_138 ⟨mg_narI _, Or.inl rfl⟩ ⟨rfl, rfl⟩
/-- X5_told(r5.0, 1, 7) at qms6 -/
theorem qa328 (l : Launch) {D : va_G} {E : mg_E} {B : Nat} : mg_C l (D, E, true, B) mX5_told [rv (D, E, true, B) 5 0, iv 1, iv 7] qms6 (fun v g' => v = some 0 ∧ g' = qms6) := by
  refine mg_C.of (by decide) rfl (Nat.le_of_ble_eq_true rfl) (List.forall_mem_cons.mpr ⟨rfl, (List.forall_mem_cons.mpr ⟨rfl, (List.forall_mem_cons.mpr ⟨rfl, (fun _ h => nomatch h)⟩)⟩)⟩) (fun K => ?_)
  refine g_aload_n (pc := 0) dX5_told_0 rfl ?_
  refine fg_X5_told_105 (pc := 1) (by rfl) dX5_told_1 ?_
  refine g_top (b := 1) (by decide +kernel) ?_
  refine g_if_eq (pc := 4) 15 dX5_told_4 (by decide) (by decide) (fun h => absurd h (by decide)) (fun _ => ?_)
  refine g_aload_n (pc := 7) dX5_told_7 rfl ?_
  refine g_iload_n (pc := 8) dX5_told_8 rfl ?_
  refine g_callVi (pc := 9) (Y' := mX5_isStation) (As := [iv 1]) (st := []) (k := 5) (i := 0) (qa53 K.2.1) gX5_told_X5_isStation rfl (show 0 < 1 by omega) rfl rfl (na := 1) rfl (by decide +kernel) (by decide) (by decide) (Nat.le_of_ble_eq_true rfl) dX5_told_9 (fun r1 g1 hp => ?_)
  obtain ⟨h1, rfl⟩ := hp
  cases h1
  refine g_if_ne (pc := 12) 17 dX5_told_12 (by decide) (by decide) (fun _ => ?_) (fun h => absurd h (by decide))
  refine g_iconst (pc := 17) (v := 0) dX5_told_17 (by decide +kernel) ?_
  refine g_istore_n (pc := 18) (ls' := [rv (D, E, true, B) 5 0, iv 1, iv 7, iv 0]) dX5_told_18 (Nat.le_of_ble_eq_true rfl) (Nat.le_of_ble_eq_true rfl) rfl ?_
  refine g_iload_n (pc := 19) dX5_told_19 rfl ?_
  refine g_switchIn (pc := 20) 149 dX5_told_20 (by decide) (by decide) (by decide) rfl (by decide) ?_
  refine g_aload_n (pc := 149) dX5_told_149 rfl ?_
  refine fg_X5_told_38 (pc := 150) (by rfl) dX5_told_150 ?_
  refine g_iload_n (pc := 153) dX5_told_153 rfl ?_
  refine g_iaload (pc := 154) (k := 44) (i := 0) (n := 24) (show 0 < 1 by omega) rfl (by decide) (by decide) dX5_told_154 ?_
  refine g_top (b := 0) (by decide +kernel) ?_
  exact g_iret (pc := 155) dX5_told_155 ⟨mg_narI _, Or.inl rfl⟩ ⟨rfl, rfl⟩
/-- X1_sentBy(r1.0, 1) at qms6 -/
theorem qa329 (l : Launch) {D : va_G} {E : mg_E} {B : Nat} : mg_C l (D, E, true, B) mX1_sentBy [rv (D, E, true, B) 1 0, iv 1] qms6 (fun v g' => v = some 0 ∧ g' = qms6) := by
  refine mg_C.of (by decide) rfl (Nat.le_of_ble_eq_true rfl) (List.forall_mem_cons.mpr ⟨rfl, (List.forall_mem_cons.mpr ⟨rfl, (fun _ h => nomatch h)⟩)⟩) (fun K => ?_)
  refine g_iconst (pc := 0) (v := 0) dX1_sentBy_0 (by decide +kernel) ?_
  refine g_istore_n (pc := 1) (ls' := [rv (D, E, true, B) 1 0, iv 1, iv 0]) dX1_sentBy_1 (Nat.le_of_ble_eq_true rfl) (Nat.le_of_ble_eq_true rfl) rfl ?_
  refine g_iconst (pc := 2) (v := 0) dX1_sentBy_2 (by decide +kernel) ?_
  refine g_istore_n (pc := 3) (ls' := [rv (D, E, true, B) 1 0, iv 1, iv 0, iv 0]) dX1_sentBy_3 (Nat.le_of_ble_eq_true rfl) (Nat.le_of_ble_eq_true rfl) rfl ?_
  refine g_iload_n (pc := 4) dX1_sentBy_4 rfl ?_
  refine g_aload_n (pc := 5) dX1_sentBy_5 rfl ?_
  refine fg_X1_sentBy_27 (pc := 6) (show 0 < 2 by omega) dX1_sentBy_6 ?_
  refine g_top (b := 0) (by decide +kernel) ?_
  refine g_icmp_ge (pc := 9) 31 dX1_sentBy_9 (by decide) (by decide) (by decide) (fun _ => ?_) (fun h => absurd (by decide) h)
  refine g_iload_n (pc := 31) dX1_sentBy_31 rfl ?_
  exact g_iret (pc := 32) dX1_sentBy_32 ⟨mg_narI _, Or.inl rfl⟩ ⟨rfl, rfl⟩
/-- X4_told(r4.0, 1, 8) at qms6 -/
theorem qa330 (l : Launch) {D : va_G} {E : mg_E} {B : Nat} : mg_C l (D, E, true, B) mX4_told [rv (D, E, true, B) 4 0, iv 1, iv 8] qms6 (fun v g' => v = some 0 ∧ g' = qms6) := by
  refine mg_C.of (by decide) rfl (Nat.le_of_ble_eq_true rfl) (List.forall_mem_cons.mpr ⟨rfl, (List.forall_mem_cons.mpr ⟨rfl, (List.forall_mem_cons.mpr ⟨rfl, (fun _ h => nomatch h)⟩)⟩)⟩) (fun K => ?_)
  refine g_aload_n (pc := 0) dX4_told_0 rfl ?_
  refine g_iload_n (pc := 1) dX4_told_1 rfl ?_
  refine g_callVi (pc := 2) (Y' := mX4_isStation) (As := [iv 1]) (st := []) (k := 4) (i := 0) (qa50 K.2.1) gX4_told_X4_isStation rfl (show 0 < 1 by omega) rfl rfl (na := 1) rfl (by decide +kernel) (by decide) (by decide) (Nat.le_of_ble_eq_true rfl) dX4_told_2 (fun r1 g1 hp => ?_)
  obtain ⟨h1, rfl⟩ := hp
  cases h1
  refine g_if_ne (pc := 5) 10 dX4_told_5 (by decide) (by decide) (fun _ => ?_) (fun h => absurd h (by decide))
  refine g_aload_n (pc := 10) dX4_told_10 rfl ?_
  refine fg_X4_told_18 (pc := 11) dX4_told_11 ?_
  refine g_iload_n (pc := 14) dX4_told_14 rfl ?_
  refine g_aastation (pc := 15) (a := 1) (by decide) dX4_told_15 ?_
  refine g_astore_n (pc := 16) (ls' := [rv (D, E, true, B) 4 0, iv 1, iv 8, rv (D, E, true, B) 3 1]) dX4_told_16 (Nat.le_of_ble_eq_true rfl) (Nat.le_of_ble_eq_true rfl) rfl ?_
  refine g_iload_n (pc := 17) dX4_told_17 rfl ?_
  refine g_switchIn (pc := 18) 139 dX4_told_18 (by decide) (by decide) (by decide) rfl (by decide) ?_
  refine g_aload_n (pc := 139) dX4_told_139 rfl ?_
  refine fg_X4_told_27 (pc := 140) dX4_told_140 ?_
  refine g_iload_n (pc := 143) dX4_told_143 rfl ?_
  refine g_callVi (pc := 144) (Y' := mX1_sentBy) (As := [iv 1]) (st := []) (k := 1) (i := 0) (qa329 K.2.1) gX4_told_X1_sentBy rfl (show 0 < 2 by omega) rfl rfl (na := 1) rfl (by decide +kernel) (by decide) (by decide) (Nat.le_of_ble_eq_true rfl) dX4_told_144 (fun r1 g1 hp => ?_)
  obtain ⟨h1, rfl⟩ := hp
  cases h1
  exact g_iret (pc := 147) dX4_told_147 ⟨mg_narI _, Or.inl rfl⟩ ⟨rfl, rfl⟩
/-- X5_told(r5.0, 1, 8) at qms6 -/
theorem qa331 (l : Launch) {D : va_G} {E : mg_E} {B : Nat} : mg_C l (D, E, true, B) mX5_told [rv (D, E, true, B) 5 0, iv 1, iv 8] qms6 (fun v g' => v = some 0 ∧ g' = qms6) := by
  refine mg_C.of (by decide) rfl (Nat.le_of_ble_eq_true rfl) (List.forall_mem_cons.mpr ⟨rfl, (List.forall_mem_cons.mpr ⟨rfl, (List.forall_mem_cons.mpr ⟨rfl, (fun _ h => nomatch h)⟩)⟩)⟩) (fun K => ?_)
  refine g_aload_n (pc := 0) dX5_told_0 rfl ?_
  refine fg_X5_told_105 (pc := 1) (by rfl) dX5_told_1 ?_
  refine g_top (b := 1) (by decide +kernel) ?_
  refine g_if_eq (pc := 4) 15 dX5_told_4 (by decide) (by decide) (fun h => absurd h (by decide)) (fun _ => ?_)
  refine g_aload_n (pc := 7) dX5_told_7 rfl ?_
  refine g_iload_n (pc := 8) dX5_told_8 rfl ?_
  refine g_callVi (pc := 9) (Y' := mX5_isStation) (As := [iv 1]) (st := []) (k := 5) (i := 0) (qa53 K.2.1) gX5_told_X5_isStation rfl (show 0 < 1 by omega) rfl rfl (na := 1) rfl (by decide +kernel) (by decide) (by decide) (Nat.le_of_ble_eq_true rfl) dX5_told_9 (fun r1 g1 hp => ?_)
  obtain ⟨h1, rfl⟩ := hp
  cases h1
  refine g_if_ne (pc := 12) 17 dX5_told_12 (by decide) (by decide) (fun _ => ?_) (fun h => absurd h (by decide))
  refine g_iconst (pc := 17) (v := 0) dX5_told_17 (by decide +kernel) ?_
  refine g_istore_n (pc := 18) (ls' := [rv (D, E, true, B) 5 0, iv 1, iv 8, iv 0]) dX5_told_18 (Nat.le_of_ble_eq_true rfl) (Nat.le_of_ble_eq_true rfl) rfl ?_
  refine g_iload_n (pc := 19) dX5_told_19 rfl ?_
  refine g_switchIn (pc := 20) 156 dX5_told_20 (by decide) (by decide) (by decide) rfl (by decide) ?_
  refine g_iconst (pc := 156) (v := 0) dX5_told_156 (by decide +kernel) ?_
  refine g_istore (pc := 157) (ls' := [rv (D, E, true, B) 5 0, iv 1, iv 8, iv 0, iv 0]) dX5_told_157 (Nat.le_of_ble_eq_true rfl) (Nat.le_of_ble_eq_true rfl) rfl ?_
  refine g_iload (pc := 159) dX5_told_159 rfl ?_
  refine g_aload_n (pc := 161) dX5_told_161 rfl ?_
  refine fg_X5_told_133 (pc := 162) (by rfl) dX5_told_162 ?_
  refine g_top (b := 0) (by decide +kernel) ?_
  refine g_icmp_ge (pc := 165) 196 dX5_told_165 (by decide) (by decide) (by decide) (fun _ => ?_) (fun h => absurd (by decide) h)
  refine g_iload_n (pc := 196) dX5_told_196 rfl ?_
  exact g_iret (pc := 197) dX5_told_197 ⟨mg_narI _, Or.inl rfl⟩ ⟨rfl, rfl⟩
/-- J6_bitCount_0f7a4(1) at qms6 -/
theorem qa332 (l : Launch) {D : va_G} {E : mg_E} {B : Nat} : mg_C l (D, E, true, B) mJ6_bitCount_0f7a4 [iv 1] qms6 (fun v g' => v = some 1 ∧ g' = qms6) := by
  refine mg_C.of (by decide) rfl (Nat.le_of_ble_eq_true rfl) (List.forall_mem_cons.mpr ⟨rfl, (fun _ h => nomatch h)⟩) (fun K => ?_)
  refine g_iload_n (pc := 0) dJ6_bitCount_0f7a4_0 rfl ?_
  refine g_iload_n (pc := 1) dJ6_bitCount_0f7a4_1 rfl ?_
  refine g_iconst (pc := 2) (v := 1) dJ6_bitCount_0f7a4_2 (by decide +kernel) ?_
  refine g_iushr (pc := 3) (v := 0) (by decide +kernel) dJ6_bitCount_0f7a4_3 ?_
  refine g_ldcw (pc := 4) (v := 1431655765) (by decide +kernel) dJ6_bitCount_0f7a4_4 ?_
  refine g_iand (pc := 7) dJ6_bitCount_0f7a4_7 ?_
  refine g_top (b := 0) (by decide +kernel) ?_
  refine g_isub (pc := 8) (by decide) dJ6_bitCount_0f7a4_8 ?_
  refine g_top (b := 1) (by decide +kernel) ?_
  refine g_istore_n (pc := 9) (ls' := [iv 1]) dJ6_bitCount_0f7a4_9 (Nat.le_of_ble_eq_true rfl) (Nat.le_of_ble_eq_true rfl) rfl ?_
  refine g_iload_n (pc := 10) dJ6_bitCount_0f7a4_10 rfl ?_
  refine g_ldcw (pc := 11) (v := 858993459) (by decide +kernel) dJ6_bitCount_0f7a4_11 ?_
  refine g_iand (pc := 14) dJ6_bitCount_0f7a4_14 ?_
  refine g_top (b := 1) (by decide +kernel) ?_
  refine g_iload_n (pc := 15) dJ6_bitCount_0f7a4_15 rfl ?_
  refine g_iconst (pc := 16) (v := 2) dJ6_bitCount_0f7a4_16 (by decide +kernel) ?_
  refine g_iushr (pc := 17) (v := 0) (by decide +kernel) dJ6_bitCount_0f7a4_17 ?_
  refine g_ldcw (pc := 18) (v := 858993459) (by decide +kernel) dJ6_bitCount_0f7a4_18 ?_
  refine g_iand (pc := 21) dJ6_bitCount_0f7a4_21 ?_
  refine g_top (b := 0) (by decide +kernel) ?_
  refine g_iadd (pc := 22) dJ6_bitCount_0f7a4_22 ?_
  refine g_top (b := 1) (by decide +kernel) ?_
  refine g_istore_n (pc := 23) (ls' := [iv 1]) dJ6_bitCount_0f7a4_23 (Nat.le_of_ble_eq_true rfl) (Nat.le_of_ble_eq_true rfl) rfl ?_
  refine g_iload_n (pc := 24) dJ6_bitCount_0f7a4_24 rfl ?_
  refine g_iload_n (pc := 25) dJ6_bitCount_0f7a4_25 rfl ?_
  refine g_iconst (pc := 26) (v := 4) dJ6_bitCount_0f7a4_26 (by decide +kernel) ?_
  refine g_iushr (pc := 27) (v := 0) (by decide +kernel) dJ6_bitCount_0f7a4_27 ?_
  refine g_iadd (pc := 28) dJ6_bitCount_0f7a4_28 ?_
  refine g_top (b := 1) (by decide +kernel) ?_
  refine g_ldcw (pc := 29) (v := 252645135) (by decide +kernel) dJ6_bitCount_0f7a4_29 ?_
  refine g_iand (pc := 32) dJ6_bitCount_0f7a4_32 ?_
  refine g_top (b := 1) (by decide +kernel) ?_
  refine g_istore_n (pc := 33) (ls' := [iv 1]) dJ6_bitCount_0f7a4_33 (Nat.le_of_ble_eq_true rfl) (Nat.le_of_ble_eq_true rfl) rfl ?_
  refine g_iload_n (pc := 34) dJ6_bitCount_0f7a4_34 rfl ?_
  refine g_iload_n (pc := 35) dJ6_bitCount_0f7a4_35 rfl ?_
  refine g_bipush (pc := 36) (v := 8) dJ6_bitCount_0f7a4_36 (by decide +kernel) ?_
  refine g_iushr (pc := 38) (v := 0) (by decide +kernel) dJ6_bitCount_0f7a4_38 ?_
  refine g_iadd (pc := 39) dJ6_bitCount_0f7a4_39 ?_
  refine g_top (b := 1) (by decide +kernel) ?_
  refine g_istore_n (pc := 40) (ls' := [iv 1]) dJ6_bitCount_0f7a4_40 (Nat.le_of_ble_eq_true rfl) (Nat.le_of_ble_eq_true rfl) rfl ?_
  refine g_iload_n (pc := 41) dJ6_bitCount_0f7a4_41 rfl ?_
  refine g_iload_n (pc := 42) dJ6_bitCount_0f7a4_42 rfl ?_
  refine g_bipush (pc := 43) (v := 16) dJ6_bitCount_0f7a4_43 (by decide +kernel) ?_
  refine g_iushr (pc := 45) (v := 0) (by decide +kernel) dJ6_bitCount_0f7a4_45 ?_
  refine g_iadd (pc := 46) dJ6_bitCount_0f7a4_46 ?_
  refine g_top (b := 1) (by decide +kernel) ?_
  refine g_istore_n (pc := 47) (ls' := [iv 1]) dJ6_bitCount_0f7a4_47 (Nat.le_of_ble_eq_true rfl) (Nat.le_of_ble_eq_true rfl) rfl ?_
  refine g_iload_n (pc := 48) dJ6_bitCount_0f7a4_48 rfl ?_
  refine g_bipush (pc := 49) (v := 63) dJ6_bitCount_0f7a4_49 (by decide +kernel) ?_
  refine g_iand (pc := 51) dJ6_bitCount_0f7a4_51 ?_
  refine g_top (b := 1) (by decide +kernel) ?_
  exact g_iret (pc := 52) dJ6_bitCount_0f7a4_52 ⟨mg_narI _, Or.inl rfl⟩ ⟨rfl, rfl⟩
/-- X0_neighboursOf(r0.0, 1) at qms6 -/
theorem qa333 (l : Launch) {D : va_G} {E : mg_E} {B : Nat} : mg_C l (D, E, true, B) mX0_neighboursOf [rv (D, E, true, B) 0 0, iv 1] qms6 (fun v g' => v = some 1 ∧ g' = qms6) := by
  refine mg_C.of (by decide) rfl (Nat.le_of_ble_eq_true rfl) (List.forall_mem_cons.mpr ⟨rfl, (List.forall_mem_cons.mpr ⟨rfl, (fun _ h => nomatch h)⟩)⟩) (fun K => ?_)
  refine g_aload_n (pc := 0) dX0_neighboursOf_0 rfl ?_
  refine fg_X0_neighboursOf_9 (pc := 1) dX0_neighboursOf_1 ?_
  refine g_iload_n (pc := 4) dX0_neighboursOf_4 rfl ?_
  refine g_iaload (pc := 5) (k := 10) (i := 0) (n := 24) (show 0 < 1 by omega) rfl (by decide) (by decide) dX0_neighboursOf_5 ?_
  refine g_top (b := 1) (by decide +kernel) ?_
  refine g_callSi (pc := 6) (Y' := mJ6_bitCount_0f7a4) (As := [iv 1]) (st := []) (qa332 K.2.1) gX0_neighboursOf_J6_bitCount_0f7a4 rfl (na := 1) rfl (by decide +kernel) (by decide) (by decide) (Nat.le_of_ble_eq_true rfl) dX0_neighboursOf_6 (fun r1 g1 hp => ?_)
  obtain ⟨h1, rfl⟩ := hp
  cases h1
  exact g_iret (pc := 9) dX0_neighboursOf_9 ⟨mg_narI _, Or.inl rfl⟩ ⟨rfl, rfl⟩
/-- X4_told(r4.0, 1, 9) at qms6 -/
theorem qa334 (l : Launch) {D : va_G} {E : mg_E} {B : Nat} : mg_C l (D, E, true, B) mX4_told [rv (D, E, true, B) 4 0, iv 1, iv 9] qms6 (fun v g' => v = some 1 ∧ g' = qms6) := by
  refine mg_C.of (by decide) rfl (Nat.le_of_ble_eq_true rfl) (List.forall_mem_cons.mpr ⟨rfl, (List.forall_mem_cons.mpr ⟨rfl, (List.forall_mem_cons.mpr ⟨rfl, (fun _ h => nomatch h)⟩)⟩)⟩) (fun K => ?_)
  refine g_aload_n (pc := 0) dX4_told_0 rfl ?_
  refine g_iload_n (pc := 1) dX4_told_1 rfl ?_
  refine g_callVi (pc := 2) (Y' := mX4_isStation) (As := [iv 1]) (st := []) (k := 4) (i := 0) (qa50 K.2.1) gX4_told_X4_isStation rfl (show 0 < 1 by omega) rfl rfl (na := 1) rfl (by decide +kernel) (by decide) (by decide) (Nat.le_of_ble_eq_true rfl) dX4_told_2 (fun r1 g1 hp => ?_)
  obtain ⟨h1, rfl⟩ := hp
  cases h1
  refine g_if_ne (pc := 5) 10 dX4_told_5 (by decide) (by decide) (fun _ => ?_) (fun h => absurd h (by decide))
  refine g_aload_n (pc := 10) dX4_told_10 rfl ?_
  refine fg_X4_told_18 (pc := 11) dX4_told_11 ?_
  refine g_iload_n (pc := 14) dX4_told_14 rfl ?_
  refine g_aastation (pc := 15) (a := 1) (by decide) dX4_told_15 ?_
  refine g_astore_n (pc := 16) (ls' := [rv (D, E, true, B) 4 0, iv 1, iv 9, rv (D, E, true, B) 3 1]) dX4_told_16 (Nat.le_of_ble_eq_true rfl) (Nat.le_of_ble_eq_true rfl) rfl ?_
  refine g_iload_n (pc := 17) dX4_told_17 rfl ?_
  refine g_switchIn (pc := 18) 148 dX4_told_18 (by decide) (by decide) (by decide) rfl (by decide) ?_
  refine g_aload_n (pc := 148) dX4_told_148 rfl ?_
  refine fg_X4_told_10 (pc := 149) dX4_told_149 ?_
  refine g_iload_n (pc := 152) dX4_told_152 rfl ?_
  refine g_callVi (pc := 153) (Y' := mX0_neighboursOf) (As := [iv 1]) (st := []) (k := 0) (i := 0) (qa333 K.2.1) gX4_told_X0_neighboursOf rfl (show 0 < 1 by omega) rfl rfl (na := 1) rfl (by decide +kernel) (by decide) (by decide) (Nat.le_of_ble_eq_true rfl) dX4_told_153 (fun r1 g1 hp => ?_)
  obtain ⟨h1, rfl⟩ := hp
  cases h1
  exact g_iret (pc := 156) dX4_told_156 ⟨mg_narI _, Or.inl rfl⟩ ⟨rfl, rfl⟩
/-- X5_told(r5.0, 1, 9) at qms6 -/
theorem qa335 (l : Launch) {D : va_G} {E : mg_E} {B : Nat} : mg_C l (D, E, true, B) mX5_told [rv (D, E, true, B) 5 0, iv 1, iv 9] qms6 (fun v g' => v = some 1 ∧ g' = qms6) := by
  refine mg_C.of (by decide) rfl (Nat.le_of_ble_eq_true rfl) (List.forall_mem_cons.mpr ⟨rfl, (List.forall_mem_cons.mpr ⟨rfl, (List.forall_mem_cons.mpr ⟨rfl, (fun _ h => nomatch h)⟩)⟩)⟩) (fun K => ?_)
  refine g_aload_n (pc := 0) dX5_told_0 rfl ?_
  refine fg_X5_told_105 (pc := 1) (by rfl) dX5_told_1 ?_
  refine g_top (b := 1) (by decide +kernel) ?_
  refine g_if_eq (pc := 4) 15 dX5_told_4 (by decide) (by decide) (fun h => absurd h (by decide)) (fun _ => ?_)
  refine g_aload_n (pc := 7) dX5_told_7 rfl ?_
  refine g_iload_n (pc := 8) dX5_told_8 rfl ?_
  refine g_callVi (pc := 9) (Y' := mX5_isStation) (As := [iv 1]) (st := []) (k := 5) (i := 0) (qa53 K.2.1) gX5_told_X5_isStation rfl (show 0 < 1 by omega) rfl rfl (na := 1) rfl (by decide +kernel) (by decide) (by decide) (Nat.le_of_ble_eq_true rfl) dX5_told_9 (fun r1 g1 hp => ?_)
  obtain ⟨h1, rfl⟩ := hp
  cases h1
  refine g_if_ne (pc := 12) 17 dX5_told_12 (by decide) (by decide) (fun _ => ?_) (fun h => absurd h (by decide))
  refine g_iconst (pc := 17) (v := 0) dX5_told_17 (by decide +kernel) ?_
  refine g_istore_n (pc := 18) (ls' := [rv (D, E, true, B) 5 0, iv 1, iv 9, iv 0]) dX5_told_18 (Nat.le_of_ble_eq_true rfl) (Nat.le_of_ble_eq_true rfl) rfl ?_
  refine g_iload_n (pc := 19) dX5_told_19 rfl ?_
  refine g_switchIn (pc := 20) 198 dX5_told_20 (by decide) (by decide) (by decide) rfl (by decide) ?_
  refine g_iconst (pc := 198) (v := 0) dX5_told_198 (by decide +kernel) ?_
  refine g_istore (pc := 199) (ls' := [rv (D, E, true, B) 5 0, iv 1, iv 9, iv 0, iv 0]) dX5_told_199 (Nat.le_of_ble_eq_true rfl) (Nat.le_of_ble_eq_true rfl) rfl ?_
  refine g_iload (pc := 201) dX5_told_201 rfl ?_
  refine g_aload_n (pc := 203) dX5_told_203 rfl ?_
  refine fg_X5_told_101 (pc := 204) (by rfl) dX5_told_204 ?_
  refine g_top (b := 2) (by decide +kernel) ?_
  refine g_icmp_ge (pc := 207) 239 dX5_told_207 (by decide) (by decide) (by decide) (fun h => absurd h (by decide)) (fun _ => ?_)
  refine g_iload_n (pc := 210) dX5_told_210 rfl ?_
  refine g_aload_n (pc := 211) dX5_told_211 rfl ?_
  refine fg_X5_told_7 (pc := 212) (by rfl) dX5_told_212 ?_
  refine g_bipush (pc := 215) (v := 24) dX5_told_215 (by decide +kernel) ?_
  refine g_iload_n (pc := 217) dX5_told_217 rfl ?_
  refine g_imul (pc := 218) dX5_told_218 ?_
  refine g_top (b := 24) (by decide +kernel) ?_
  refine g_iload (pc := 219) dX5_told_219 rfl ?_
  refine g_iadd (pc := 221) dX5_told_221 ?_
  refine g_top (b := 24) (by decide +kernel) ?_
  refine g_baload (pc := 222) (k := 35) (i := 0) (n := 576) (show 0 < 1 by omega) rfl (by decide) (by decide) dX5_told_222 ?_
  refine g_top (b := 1) (by decide +kernel) ?_
  refine g_if_eq (pc := 223) 230 dX5_told_223 (by decide) (by decide) (fun h => absurd h (by decide)) (fun _ => ?_)
  refine g_iconst (pc := 226) (v := 1) dX5_told_226 (by decide +kernel) ?_
  refine g_goto (pc := 227) 231 dX5_told_227 (by decide) ?_
  refine g_iadd (pc := 231) dX5_told_231 ?_
  refine g_top (b := 1) (by decide +kernel) ?_
  refine g_istore_n (pc := 232) (ls' := [rv (D, E, true, B) 5 0, iv 1, iv 9, iv 1, iv 0]) dX5_told_232 (Nat.le_of_ble_eq_true rfl) (Nat.le_of_ble_eq_true rfl) rfl ?_
  refine g_iinc (pc := 233) (v := 1) (ls' := [rv (D, E, true, B) 5 0, iv 1, iv 9, iv 1, iv 1]) dX5_told_233 (Nat.le_of_ble_eq_true rfl) rfl (by decide +kernel) rfl ?_
  refine g_goto (pc := 236) 201 dX5_told_236 (by decide) ?_
  refine g_iload (pc := 201) dX5_told_201 rfl ?_
  refine g_aload_n (pc := 203) dX5_told_203 rfl ?_
  refine fg_X5_told_101 (pc := 204) (by rfl) dX5_told_204 ?_
  refine g_top (b := 2) (by decide +kernel) ?_
  refine g_icmp_ge (pc := 207) 239 dX5_told_207 (by decide) (by decide) (by decide) (fun h => absurd h (by decide)) (fun _ => ?_)
  refine g_iload_n (pc := 210) dX5_told_210 rfl ?_
  refine g_aload_n (pc := 211) dX5_told_211 rfl ?_
  refine fg_X5_told_7 (pc := 212) (by rfl) dX5_told_212 ?_
  refine g_bipush (pc := 215) (v := 24) dX5_told_215 (by decide +kernel) ?_
  refine g_iload_n (pc := 217) dX5_told_217 rfl ?_
  refine g_imul (pc := 218) dX5_told_218 ?_
  refine g_top (b := 24) (by decide +kernel) ?_
  refine g_iload (pc := 219) dX5_told_219 rfl ?_
  refine g_iadd (pc := 221) dX5_told_221 ?_
  refine g_top (b := 25) (by decide +kernel) ?_
  refine g_baload (pc := 222) (k := 35) (i := 0) (n := 576) (show 0 < 1 by omega) rfl (by decide) (by decide) dX5_told_222 ?_
  refine g_top (b := 0) (by decide +kernel) ?_
  refine g_if_eq (pc := 223) 230 dX5_told_223 (by decide) (by decide) (fun _ => ?_) (fun h => absurd (by decide) h)
  refine g_iconst (pc := 230) (v := 0) dX5_told_230 (by decide +kernel) ?_
  refine g_iadd (pc := 231) dX5_told_231 ?_
  refine g_top (b := 1) (by decide +kernel) ?_
  refine g_istore_n (pc := 232) (ls' := [rv (D, E, true, B) 5 0, iv 1, iv 9, iv 1, iv 1]) dX5_told_232 (Nat.le_of_ble_eq_true rfl) (Nat.le_of_ble_eq_true rfl) rfl ?_
  refine g_iinc (pc := 233) (v := 2) (ls' := [rv (D, E, true, B) 5 0, iv 1, iv 9, iv 1, iv 2]) dX5_told_233 (Nat.le_of_ble_eq_true rfl) rfl (by decide +kernel) rfl ?_
  refine g_goto (pc := 236) 201 dX5_told_236 (by decide) ?_
  refine g_iload (pc := 201) dX5_told_201 rfl ?_
  refine g_aload_n (pc := 203) dX5_told_203 rfl ?_
  refine fg_X5_told_101 (pc := 204) (by rfl) dX5_told_204 ?_
  refine g_top (b := 2) (by decide +kernel) ?_
  refine g_icmp_ge (pc := 207) 239 dX5_told_207 (by decide) (by decide) (by decide) (fun _ => ?_) (fun h => absurd (by decide) h)
  refine g_iload_n (pc := 239) dX5_told_239 rfl ?_
  exact g_iret (pc := 240) dX5_told_240 ⟨mg_narI _, Or.inl rfl⟩ ⟨rfl, rfl⟩
/-- X4_told(r4.0, 1, b[2147483648,4294967295]) at qms6 -/
theorem qa336 (l : Launch) {D : va_G} {E : mg_E} {B : Nat} (b : Nat) (h_b : 2147483648 ≤ b) (k_b : b ≤ 4294967295) : mg_C l (D, E, true, B) mX4_told [rv (D, E, true, B) 4 0, iv 1, iv b] qms6 (fun v g' => v = some 4294967295 ∧ g' = qms6) := by
  refine mg_C.of (by decide) rfl (Nat.le_of_ble_eq_true rfl) (List.forall_mem_cons.mpr ⟨rfl, (List.forall_mem_cons.mpr ⟨rfl, (List.forall_mem_cons.mpr ⟨rfl, (fun _ h => nomatch h)⟩)⟩)⟩) (fun K => ?_)
  refine g_aload_n (pc := 0) dX4_told_0 rfl ?_
  refine g_iload_n (pc := 1) dX4_told_1 rfl ?_
  refine g_callVi (pc := 2) (Y' := mX4_isStation) (As := [iv 1]) (st := []) (k := 4) (i := 0) (qa50 K.2.1) gX4_told_X4_isStation rfl (show 0 < 1 by omega) rfl rfl (na := 1) rfl (by decide +kernel) (by decide) (by decide) (Nat.le_of_ble_eq_true rfl) dX4_told_2 (fun r1 g1 hp => ?_)
  obtain ⟨h1, rfl⟩ := hp
  cases h1
  refine g_if_ne (pc := 5) 10 dX4_told_5 (by decide) (by decide) (fun _ => ?_) (fun h => absurd h (by decide))
  refine g_aload_n (pc := 10) dX4_told_10 rfl ?_
  refine fg_X4_told_18 (pc := 11) dX4_told_11 ?_
  refine g_iload_n (pc := 14) dX4_told_14 rfl ?_
  refine g_aastation (pc := 15) (a := 1) (by decide) dX4_told_15 ?_
  refine g_astore_n (pc := 16) (ls' := [rv (D, E, true, B) 4 0, iv 1, iv b, rv (D, E, true, B) 3 1]) dX4_told_16 (Nat.le_of_ble_eq_true rfl) (Nat.le_of_ble_eq_true rfl) rfl ?_
  refine g_iload_n (pc := 17) dX4_told_17 rfl ?_
  refine g_switchOut (pc := 18) 157 dX4_told_18 (by omega) (Or.inl (by have q := mg_sgn h_b (by omega : b < 4294967296); omega)) (by decide) ?_
  refine g_iconst (pc := 157) (v := 4294967295) dX4_told_157 (by decide +kernel) ?_
  exact g_iret (pc := 158) dX4_told_158 ⟨mg_narI _, Or.inl rfl⟩ ⟨rfl, rfl⟩
/-- X5_told(r5.0, 1, b[2147483648,4294967295]) at qms6 -/
theorem qa337 (l : Launch) {D : va_G} {E : mg_E} {B : Nat} (b : Nat) (h_b : 2147483648 ≤ b) (k_b : b ≤ 4294967295) : mg_C l (D, E, true, B) mX5_told [rv (D, E, true, B) 5 0, iv 1, iv b] qms6 (fun v g' => v = some 4294967295 ∧ g' = qms6) := by
  refine mg_C.of (by decide) rfl (Nat.le_of_ble_eq_true rfl) (List.forall_mem_cons.mpr ⟨rfl, (List.forall_mem_cons.mpr ⟨rfl, (List.forall_mem_cons.mpr ⟨rfl, (fun _ h => nomatch h)⟩)⟩)⟩) (fun K => ?_)
  refine g_aload_n (pc := 0) dX5_told_0 rfl ?_
  refine fg_X5_told_105 (pc := 1) (by rfl) dX5_told_1 ?_
  refine g_top (b := 1) (by decide +kernel) ?_
  refine g_if_eq (pc := 4) 15 dX5_told_4 (by decide) (by decide) (fun h => absurd h (by decide)) (fun _ => ?_)
  refine g_aload_n (pc := 7) dX5_told_7 rfl ?_
  refine g_iload_n (pc := 8) dX5_told_8 rfl ?_
  refine g_callVi (pc := 9) (Y' := mX5_isStation) (As := [iv 1]) (st := []) (k := 5) (i := 0) (qa53 K.2.1) gX5_told_X5_isStation rfl (show 0 < 1 by omega) rfl rfl (na := 1) rfl (by decide +kernel) (by decide) (by decide) (Nat.le_of_ble_eq_true rfl) dX5_told_9 (fun r1 g1 hp => ?_)
  obtain ⟨h1, rfl⟩ := hp
  cases h1
  refine g_if_ne (pc := 12) 17 dX5_told_12 (by decide) (by decide) (fun _ => ?_) (fun h => absurd h (by decide))
  refine g_iconst (pc := 17) (v := 0) dX5_told_17 (by decide +kernel) ?_
  refine g_istore_n (pc := 18) (ls' := [rv (D, E, true, B) 5 0, iv 1, iv b, iv 0]) dX5_told_18 (Nat.le_of_ble_eq_true rfl) (Nat.le_of_ble_eq_true rfl) rfl ?_
  refine g_iload_n (pc := 19) dX5_told_19 rfl ?_
  refine g_switchOut (pc := 20) 241 dX5_told_20 (by omega) (Or.inl (by have q := mg_sgn h_b (by omega : b < 4294967296); omega)) (by decide) ?_
  refine g_iconst (pc := 241) (v := 4294967295) dX5_told_241 (by decide +kernel) ?_
  exact g_iret (pc := 242) dX5_told_242 ⟨mg_narI _, Or.inl rfl⟩ ⟨rfl, rfl⟩
/-- X4_told(r4.0, 1, b[10,2147483647]) at qms6 -/
theorem qa338 (l : Launch) {D : va_G} {E : mg_E} {B : Nat} (b : Nat) (h_b : 10 ≤ b) (k_b : b ≤ 2147483647) : mg_C l (D, E, true, B) mX4_told [rv (D, E, true, B) 4 0, iv 1, iv b] qms6 (fun v g' => v = some 4294967295 ∧ g' = qms6) := by
  refine mg_C.of (by decide) rfl (Nat.le_of_ble_eq_true rfl) (List.forall_mem_cons.mpr ⟨rfl, (List.forall_mem_cons.mpr ⟨rfl, (List.forall_mem_cons.mpr ⟨rfl, (fun _ h => nomatch h)⟩)⟩)⟩) (fun K => ?_)
  refine g_aload_n (pc := 0) dX4_told_0 rfl ?_
  refine g_iload_n (pc := 1) dX4_told_1 rfl ?_
  refine g_callVi (pc := 2) (Y' := mX4_isStation) (As := [iv 1]) (st := []) (k := 4) (i := 0) (qa50 K.2.1) gX4_told_X4_isStation rfl (show 0 < 1 by omega) rfl rfl (na := 1) rfl (by decide +kernel) (by decide) (by decide) (Nat.le_of_ble_eq_true rfl) dX4_told_2 (fun r1 g1 hp => ?_)
  obtain ⟨h1, rfl⟩ := hp
  cases h1
  refine g_if_ne (pc := 5) 10 dX4_told_5 (by decide) (by decide) (fun _ => ?_) (fun h => absurd h (by decide))
  refine g_aload_n (pc := 10) dX4_told_10 rfl ?_
  refine fg_X4_told_18 (pc := 11) dX4_told_11 ?_
  refine g_iload_n (pc := 14) dX4_told_14 rfl ?_
  refine g_aastation (pc := 15) (a := 1) (by decide) dX4_told_15 ?_
  refine g_astore_n (pc := 16) (ls' := [rv (D, E, true, B) 4 0, iv 1, iv b, rv (D, E, true, B) 3 1]) dX4_told_16 (Nat.le_of_ble_eq_true rfl) (Nat.le_of_ble_eq_true rfl) rfl ?_
  refine g_iload_n (pc := 17) dX4_told_17 rfl ?_
  refine g_switchOut (pc := 18) 157 dX4_told_18 (by omega) (Or.inr (by have q := mg_sgs (a := b) (by omega); omega)) (by decide) ?_
  refine g_iconst (pc := 157) (v := 4294967295) dX4_told_157 (by decide +kernel) ?_
  exact g_iret (pc := 158) dX4_told_158 ⟨mg_narI _, Or.inl rfl⟩ ⟨rfl, rfl⟩
/-- X5_told(r5.0, 1, b[10,2147483647]) at qms6 -/
theorem qa339 (l : Launch) {D : va_G} {E : mg_E} {B : Nat} (b : Nat) (h_b : 10 ≤ b) (k_b : b ≤ 2147483647) : mg_C l (D, E, true, B) mX5_told [rv (D, E, true, B) 5 0, iv 1, iv b] qms6 (fun v g' => v = some 4294967295 ∧ g' = qms6) := by
  refine mg_C.of (by decide) rfl (Nat.le_of_ble_eq_true rfl) (List.forall_mem_cons.mpr ⟨rfl, (List.forall_mem_cons.mpr ⟨rfl, (List.forall_mem_cons.mpr ⟨rfl, (fun _ h => nomatch h)⟩)⟩)⟩) (fun K => ?_)
  refine g_aload_n (pc := 0) dX5_told_0 rfl ?_
  refine fg_X5_told_105 (pc := 1) (by rfl) dX5_told_1 ?_
  refine g_top (b := 1) (by decide +kernel) ?_
  refine g_if_eq (pc := 4) 15 dX5_told_4 (by decide) (by decide) (fun h => absurd h (by decide)) (fun _ => ?_)
  refine g_aload_n (pc := 7) dX5_told_7 rfl ?_
  refine g_iload_n (pc := 8) dX5_told_8 rfl ?_
  refine g_callVi (pc := 9) (Y' := mX5_isStation) (As := [iv 1]) (st := []) (k := 5) (i := 0) (qa53 K.2.1) gX5_told_X5_isStation rfl (show 0 < 1 by omega) rfl rfl (na := 1) rfl (by decide +kernel) (by decide) (by decide) (Nat.le_of_ble_eq_true rfl) dX5_told_9 (fun r1 g1 hp => ?_)
  obtain ⟨h1, rfl⟩ := hp
  cases h1
  refine g_if_ne (pc := 12) 17 dX5_told_12 (by decide) (by decide) (fun _ => ?_) (fun h => absurd h (by decide))
  refine g_iconst (pc := 17) (v := 0) dX5_told_17 (by decide +kernel) ?_
  refine g_istore_n (pc := 18) (ls' := [rv (D, E, true, B) 5 0, iv 1, iv b, iv 0]) dX5_told_18 (Nat.le_of_ble_eq_true rfl) (Nat.le_of_ble_eq_true rfl) rfl ?_
  refine g_iload_n (pc := 19) dX5_told_19 rfl ?_
  refine g_switchOut (pc := 20) 241 dX5_told_20 (by omega) (Or.inr (by have q := mg_sgs (a := b) (by omega); omega)) (by decide) ?_
  refine g_iconst (pc := 241) (v := 4294967295) dX5_told_241 (by decide +kernel) ?_
  exact g_iret (pc := 242) dX5_told_242 ⟨mg_narI _, Or.inl rfl⟩ ⟨rfl, rfl⟩
/-- X4_count(r4.0, 0) at qms6 -/
theorem qa340 (l : Launch) {D : va_G} {E : mg_E} {B : Nat} : mg_C l (D, E, true, B) mX4_count [rv (D, E, true, B) 4 0, iv 0] qms6 (fun v g' => v = some 2 ∧ g' = qms6) := by
  refine mg_C.of (by decide) rfl (Nat.le_of_ble_eq_true rfl) (List.forall_mem_cons.mpr ⟨rfl, (List.forall_mem_cons.mpr ⟨rfl, (fun _ h => nomatch h)⟩)⟩) (fun K => ?_)
  refine g_iload_n (pc := 0) dX4_count_0 rfl ?_
  refine g_switchIn (pc := 1) 44 dX4_count_1 (by decide) (by decide) (by decide) rfl (by decide) ?_
  refine g_aload_n (pc := 44) dX4_count_44 rfl ?_
  refine fg_X4_count_10 (pc := 45) dX4_count_45 ?_
  refine fg_X4_count_229 (pc := 48) dX4_count_48 ?_
  refine g_top (b := 2) (by decide +kernel) ?_
  exact g_iret (pc := 51) dX4_count_51 ⟨mg_narI _, Or.inl rfl⟩ ⟨rfl, rfl⟩
/-- X5_count(r5.0, 0) at qms6 -/
theorem qa341 (l : Launch) {D : va_G} {E : mg_E} {B : Nat} : mg_C l (D, E, true, B) mX5_count [rv (D, E, true, B) 5 0, iv 0] qms6 (fun v g' => v = some 2 ∧ g' = qms6) := by
  refine mg_C.of (by decide) rfl (Nat.le_of_ble_eq_true rfl) (List.forall_mem_cons.mpr ⟨rfl, (List.forall_mem_cons.mpr ⟨rfl, (fun _ h => nomatch h)⟩)⟩) (fun K => ?_)
  refine g_iload_n (pc := 0) dX5_count_0 rfl ?_
  refine g_if_ne (pc := 1) 9 dX5_count_1 (by decide) (by decide) (fun h => absurd (by decide) h) (fun _ => ?_)
  refine g_aload_n (pc := 4) dX5_count_4 rfl ?_
  refine fg_X5_count_101 (pc := 5) (by rfl) dX5_count_5 ?_
  refine g_top (b := 2) (by decide +kernel) ?_
  exact g_iret (pc := 8) dX5_count_8 ⟨mg_narI _, Or.inl rfl⟩ ⟨rfl, rfl⟩
/-- X4_count(r4.0, 1) at qms6 -/
theorem qa342 (l : Launch) {D : va_G} {E : mg_E} {B : Nat} : mg_C l (D, E, true, B) mX4_count [rv (D, E, true, B) 4 0, iv 1] qms6 (fun v g' => v = some 1 ∧ g' = qms6) := by
  refine mg_C.of (by decide) rfl (Nat.le_of_ble_eq_true rfl) (List.forall_mem_cons.mpr ⟨rfl, (List.forall_mem_cons.mpr ⟨rfl, (fun _ h => nomatch h)⟩)⟩) (fun K => ?_)
  refine g_iload_n (pc := 0) dX4_count_0 rfl ?_
  refine g_switchIn (pc := 1) 52 dX4_count_1 (by decide) (by decide) (by decide) rfl (by decide) ?_
  refine g_aload_n (pc := 52) dX4_count_52 rfl ?_
  refine fg_X4_count_10 (pc := 53) dX4_count_53 ?_
  refine fg_X4_count_77 (pc := 56) dX4_count_56 ?_
  refine g_top (b := 1) (by decide +kernel) ?_
  exact g_iret (pc := 59) dX4_count_59 ⟨mg_narI _, Or.inl rfl⟩ ⟨rfl, rfl⟩
/-- X5_count(r5.0, 1) at qms6 -/
theorem qa343 (l : Launch) {D : va_G} {E : mg_E} {B : Nat} : mg_C l (D, E, true, B) mX5_count [rv (D, E, true, B) 5 0, iv 1] qms6 (fun v g' => v = some 1 ∧ g' = qms6) := by
  refine mg_C.of (by decide) rfl (Nat.le_of_ble_eq_true rfl) (List.forall_mem_cons.mpr ⟨rfl, (List.forall_mem_cons.mpr ⟨rfl, (fun _ h => nomatch h)⟩)⟩) (fun K => ?_)
  refine g_iload_n (pc := 0) dX5_count_0 rfl ?_
  refine g_if_ne (pc := 1) 9 dX5_count_1 (by decide) (by decide) (fun _ => ?_) (fun h => absurd h (by decide))
  refine g_iload_n (pc := 9) dX5_count_9 rfl ?_
  refine g_iconst (pc := 10) (v := 1) dX5_count_10 (by decide +kernel) ?_
  refine g_icmp_ne (pc := 11) 19 dX5_count_11 (by decide) (by decide) (by decide) (fun h => absurd (by decide) h) (fun _ => ?_)
  refine g_aload_n (pc := 14) dX5_count_14 rfl ?_
  refine fg_X5_count_113 (pc := 15) (by rfl) dX5_count_15 ?_
  refine g_top (b := 1) (by decide +kernel) ?_
  exact g_iret (pc := 18) dX5_count_18 ⟨mg_narI _, Or.inl rfl⟩ ⟨rfl, rfl⟩
/-- X4_count(r4.0, 2) at qms6 -/
theorem qa344 (l : Launch) {D : va_G} {E : mg_E} {B : Nat} : mg_C l (D, E, true, B) mX4_count [rv (D, E, true, B) 4 0, iv 2] qms6 (fun v g' => v = some 0 ∧ g' = qms6) := by
  refine mg_C.of (by decide) rfl (Nat.le_of_ble_eq_true rfl) (List.forall_mem_cons.mpr ⟨rfl, (List.forall_mem_cons.mpr ⟨rfl, (fun _ h => nomatch h)⟩)⟩) (fun K => ?_)
  refine g_iload_n (pc := 0) dX4_count_0 rfl ?_
  refine g_switchIn (pc := 1) 60 dX4_count_1 (by decide) (by decide) (by decide) rfl (by decide) ?_
  refine g_aload_n (pc := 60) dX4_count_60 rfl ?_
  refine fg_X4_count_55 (pc := 61) dX4_count_61 ?_
  refine g_top (b := 1) (by decide +kernel) ?_
  refine g_if_eq (pc := 64) 77 dX4_count_64 (by decide) (by decide) (fun h => absurd h (by decide)) (fun _ => ?_)
  refine g_aload_n (pc := 67) dX4_count_67 rfl ?_
  refine fg_X4_count_31 (pc := 68) dX4_count_68 ?_
  refine fg_X4_count_94 (pc := 71) (show 1 < 2 by omega) dX4_count_71 ?_
  refine g_top (b := 0) (by decide +kernel) ?_
  refine g_goto (pc := 74) 78 dX4_count_74 (by decide) ?_
  exact g_iret (pc := 78) dX4_count_78 ⟨mg_narI _, Or.inl rfl⟩ ⟨rfl, rfl⟩
/-- X5_count(r5.0, 2) at qms6 -/
theorem qa345 (l : Launch) {D : va_G} {E : mg_E} {B : Nat} : mg_C l (D, E, true, B) mX5_count [rv (D, E, true, B) 5 0, iv 2] qms6 (fun v g' => v = some 0 ∧ g' = qms6) := by
  refine mg_C.of (by decide) rfl (Nat.le_of_ble_eq_true rfl) (List.forall_mem_cons.mpr ⟨rfl, (List.forall_mem_cons.mpr ⟨rfl, (fun _ h => nomatch h)⟩)⟩) (fun K => ?_)
  refine g_iload_n (pc := 0) dX5_count_0 rfl ?_
  refine g_if_ne (pc := 1) 9 dX5_count_1 (by decide) (by decide) (fun _ => ?_) (fun h => absurd h (by decide))
  refine g_iload_n (pc := 9) dX5_count_9 rfl ?_
  refine g_iconst (pc := 10) (v := 1) dX5_count_10 (by decide +kernel) ?_
  refine g_icmp_ne (pc := 11) 19 dX5_count_11 (by decide) (by decide) (by decide) (fun _ => ?_) (fun h => absurd h (by decide))
  refine g_iload_n (pc := 19) dX5_count_19 rfl ?_
  refine g_iconst (pc := 20) (v := 5) dX5_count_20 (by decide +kernel) ?_
  refine g_icmp_ne (pc := 21) 29 dX5_count_21 (by decide) (by decide) (by decide) (fun _ => ?_) (fun h => absurd h (by decide))
  refine g_aload_n (pc := 29) dX5_count_29 rfl ?_
  refine fg_X5_count_105 (pc := 30) (by rfl) dX5_count_30 ?_
  refine g_top (b := 1) (by decide +kernel) ?_
  refine g_if_ne (pc := 33) 38 dX5_count_33 (by decide) (by decide) (fun _ => ?_) (fun h => absurd h (by decide))
  refine g_bipush (pc := 38) (v := 4294967294) dX5_count_38 (by decide +kernel) ?_
  refine g_istore_n (pc := 40) (ls' := [rv (D, E, true, B) 5 0, iv 2, iv 4294967294]) dX5_count_40 (Nat.le_of_ble_eq_true rfl) (Nat.le_of_ble_eq_true rfl) rfl ?_
  refine g_iconst (pc := 41) (v := 0) dX5_count_41 (by decide +kernel) ?_
  refine g_istore_n (pc := 42) (ls' := [rv (D, E, true, B) 5 0, iv 2, iv 4294967294, iv 0]) dX5_count_42 (Nat.le_of_ble_eq_true rfl) (Nat.le_of_ble_eq_true rfl) rfl ?_
  refine g_iload_n (pc := 43) dX5_count_43 rfl ?_
  refine g_aload_n (pc := 44) dX5_count_44 rfl ?_
  refine fg_X5_count_101 (pc := 45) (by rfl) dX5_count_45 ?_
  refine g_top (b := 2) (by decide +kernel) ?_
  refine g_icmp_ge (pc := 48) 72 dX5_count_48 (by decide) (by decide) (by decide) (fun h => absurd h (by decide)) (fun _ => ?_)
  refine g_aload_n (pc := 51) dX5_count_51 rfl ?_
  refine fg_X5_count_20 (pc := 52) (by rfl) dX5_count_52 ?_
  refine g_iload_n (pc := 55) dX5_count_55 rfl ?_
  refine g_baload (pc := 56) (k := 38) (i := 0) (n := 24) (show 0 < 1 by omega) rfl (by decide) (by decide) dX5_count_56 ?_
  refine g_top (b := 0) (by decide +kernel) ?_
  refine g_if_eq (pc := 57) 64 dX5_count_57 (by decide) (by decide) (fun _ => ?_) (fun h => absurd (by decide) h)
  refine g_iload_n (pc := 64) dX5_count_64 rfl ?_
  refine g_istore_n (pc := 65) (ls' := [rv (D, E, true, B) 5 0, iv 2, iv 4294967294, iv 0]) dX5_count_65 (Nat.le_of_ble_eq_true rfl) (Nat.le_of_ble_eq_true rfl) rfl ?_
  refine g_iinc (pc := 66) (v := 1) (ls' := [rv (D, E, true, B) 5 0, iv 2, iv 4294967294, iv 1]) dX5_count_66 (Nat.le_of_ble_eq_true rfl) rfl (by decide +kernel) rfl ?_
  refine g_goto (pc := 69) 43 dX5_count_69 (by decide) ?_
  refine g_iload_n (pc := 43) dX5_count_43 rfl ?_
  refine g_aload_n (pc := 44) dX5_count_44 rfl ?_
  refine fg_X5_count_101 (pc := 45) (by rfl) dX5_count_45 ?_
  refine g_top (b := 2) (by decide +kernel) ?_
  refine g_icmp_ge (pc := 48) 72 dX5_count_48 (by decide) (by decide) (by decide) (fun h => absurd h (by decide)) (fun _ => ?_)
  refine g_aload_n (pc := 51) dX5_count_51 rfl ?_
  refine fg_X5_count_20 (pc := 52) (by rfl) dX5_count_52 ?_
  refine g_iload_n (pc := 55) dX5_count_55 rfl ?_
  refine g_baload (pc := 56) (k := 38) (i := 0) (n := 24) (show 0 < 1 by omega) rfl (by decide) (by decide) dX5_count_56 ?_
  refine g_top (b := 0) (by decide +kernel) ?_
  refine g_if_eq (pc := 57) 64 dX5_count_57 (by decide) (by decide) (fun _ => ?_) (fun h => absurd (by decide) h)
  refine g_iload_n (pc := 64) dX5_count_64 rfl ?_
  refine g_istore_n (pc := 65) (ls' := [rv (D, E, true, B) 5 0, iv 2, iv 4294967294, iv 1]) dX5_count_65 (Nat.le_of_ble_eq_true rfl) (Nat.le_of_ble_eq_true rfl) rfl ?_
  refine g_iinc (pc := 66) (v := 2) (ls' := [rv (D, E, true, B) 5 0, iv 2, iv 4294967294, iv 2]) dX5_count_66 (Nat.le_of_ble_eq_true rfl) rfl (by decide +kernel) rfl ?_
  refine g_goto (pc := 69) 43 dX5_count_69 (by decide) ?_
  refine g_iload_n (pc := 43) dX5_count_43 rfl ?_
  refine g_aload_n (pc := 44) dX5_count_44 rfl ?_
  refine fg_X5_count_101 (pc := 45) (by rfl) dX5_count_45 ?_
  refine g_top (b := 2) (by decide +kernel) ?_
  refine g_icmp_ge (pc := 48) 72 dX5_count_48 (by decide) (by decide) (by decide) (fun _ => ?_) (fun h => absurd (by decide) h)
  refine g_iload_n (pc := 72) dX5_count_72 rfl ?_
  refine g_iconst (pc := 73) (v := 2) dX5_count_73 (by decide +kernel) ?_
  refine g_icmp_ne (pc := 74) 84 dX5_count_74 (by decide) (by decide) (by decide) (fun h => absurd (by decide) h) (fun _ => ?_)
  refine g_aload_n (pc := 77) dX5_count_77 rfl ?_
  refine fg_X5_count_136 (pc := 78) (by rfl) dX5_count_78 ?_
  refine g_top (b := 0) (by decide +kernel) ?_
  refine g_goto (pc := 81) 119 dX5_count_81 (by decide) ?_
  exact g_iret (pc := 119) dX5_count_119 ⟨mg_narI _, Or.inl rfl⟩ ⟨rfl, rfl⟩
/-- X4_whoPumps(r4.0) at qms6 -/
theorem qa346 (l : Launch) {D : va_G} {E : mg_E} {B : Nat} : mg_C l (D, E, true, B) mX4_whoPumps [rv (D, E, true, B) 4 0] qms6 (fun v g' => v = some 4294967294 ∧ g' = qms6) := by
  refine mg_C.of (by decide) rfl (Nat.le_of_ble_eq_true rfl) (List.forall_mem_cons.mpr ⟨rfl, (fun _ h => nomatch h)⟩) (fun K => ?_)
  refine g_iconst (pc := 0) (v := 0) dX4_whoPumps_0 (by decide +kernel) ?_
  refine g_istore_n (pc := 1) (ls' := [rv (D, E, true, B) 4 0, iv 0]) dX4_whoPumps_1 (Nat.le_of_ble_eq_true rfl) (Nat.le_of_ble_eq_true rfl) rfl ?_
  refine g_iload_n (pc := 2) dX4_whoPumps_2 rfl ?_
  refine g_aload_n (pc := 3) dX4_whoPumps_3 rfl ?_
  refine fg_X4_whoPumps_10 (pc := 4) dX4_whoPumps_4 ?_
  refine fg_X4_whoPumps_229 (pc := 7) dX4_whoPumps_7 ?_
  refine g_top (b := 2) (by decide +kernel) ?_
  refine g_icmp_ge (pc := 10) 33 dX4_whoPumps_10 (by decide) (by decide) (by decide) (fun h => absurd h (by decide)) (fun _ => ?_)
  refine g_aload_n (pc := 13) dX4_whoPumps_13 rfl ?_
  refine fg_X4_whoPumps_18 (pc := 14) dX4_whoPumps_14 ?_
  refine g_iload_n (pc := 17) dX4_whoPumps_17 rfl ?_
  refine g_aastation (pc := 18) (a := 0) (by decide) dX4_whoPumps_18 ?_
  refine fg_X4_whoPumps_111 (pc := 19) (show 0 < 24 by omega) dX4_whoPumps_19 ?_
  refine g_top (b := 0) (by decide +kernel) ?_
  refine g_if_eq (pc := 22) 27 dX4_whoPumps_22 (by decide) (by decide) (fun _ => ?_) (fun h => absurd (by decide) h)
  refine g_iinc (pc := 27) (v := 1) (ls' := [rv (D, E, true, B) 4 0, iv 1]) dX4_whoPumps_27 (Nat.le_of_ble_eq_true rfl) rfl (by decide +kernel) rfl ?_
  refine g_goto (pc := 30) 2 dX4_whoPumps_30 (by decide) ?_
  refine g_iload_n (pc := 2) dX4_whoPumps_2 rfl ?_
  refine g_aload_n (pc := 3) dX4_whoPumps_3 rfl ?_
  refine fg_X4_whoPumps_10 (pc := 4) dX4_whoPumps_4 ?_
  refine fg_X4_whoPumps_229 (pc := 7) dX4_whoPumps_7 ?_
  refine g_top (b := 2) (by decide +kernel) ?_
  refine g_icmp_ge (pc := 10) 33 dX4_whoPumps_10 (by decide) (by decide) (by decide) (fun h => absurd h (by decide)) (fun _ => ?_)
  refine g_aload_n (pc := 13) dX4_whoPumps_13 rfl ?_
  refine fg_X4_whoPumps_18 (pc := 14) dX4_whoPumps_14 ?_
  refine g_iload_n (pc := 17) dX4_whoPumps_17 rfl ?_
  refine g_aastation (pc := 18) (a := 1) (by decide) dX4_whoPumps_18 ?_
  refine fg_X4_whoPumps_111 (pc := 19) (show 1 < 24 by omega) dX4_whoPumps_19 ?_
  refine g_top (b := 0) (by decide +kernel) ?_
  refine g_if_eq (pc := 22) 27 dX4_whoPumps_22 (by decide) (by decide) (fun _ => ?_) (fun h => absurd (by decide) h)
  refine g_iinc (pc := 27) (v := 2) (ls' := [rv (D, E, true, B) 4 0, iv 2]) dX4_whoPumps_27 (Nat.le_of_ble_eq_true rfl) rfl (by decide +kernel) rfl ?_
  refine g_goto (pc := 30) 2 dX4_whoPumps_30 (by decide) ?_
  refine g_iload_n (pc := 2) dX4_whoPumps_2 rfl ?_
  refine g_aload_n (pc := 3) dX4_whoPumps_3 rfl ?_
  refine fg_X4_whoPumps_10 (pc := 4) dX4_whoPumps_4 ?_
  refine fg_X4_whoPumps_229 (pc := 7) dX4_whoPumps_7 ?_
  refine g_top (b := 2) (by decide +kernel) ?_
  refine g_icmp_ge (pc := 10) 33 dX4_whoPumps_10 (by decide) (by decide) (by decide) (fun _ => ?_) (fun h => absurd (by decide) h)
  refine g_bipush (pc := 33) (v := 4294967294) dX4_whoPumps_33 (by decide +kernel) ?_
  exact g_iret (pc := 35) dX4_whoPumps_35 ⟨mg_narI _, Or.inl rfl⟩ ⟨rfl, rfl⟩
/-- X4_count(r4.0, 3) at qms6 -/
theorem qa347 (l : Launch) {D : va_G} {E : mg_E} {B : Nat} : mg_C l (D, E, true, B) mX4_count [rv (D, E, true, B) 4 0, iv 3] qms6 (fun v g' => v = some 4294967294 ∧ g' = qms6) := by
  refine mg_C.of (by decide) rfl (Nat.le_of_ble_eq_true rfl) (List.forall_mem_cons.mpr ⟨rfl, (List.forall_mem_cons.mpr ⟨rfl, (fun _ h => nomatch h)⟩)⟩) (fun K => ?_)
  refine g_iload_n (pc := 0) dX4_count_0 rfl ?_
  refine g_switchIn (pc := 1) 79 dX4_count_1 (by decide) (by decide) (by decide) rfl (by decide) ?_
  refine g_aload_n (pc := 79) dX4_count_79 rfl ?_
  refine fg_X4_count_55 (pc := 80) dX4_count_80 ?_
  refine g_top (b := 1) (by decide +kernel) ?_
  refine g_if_eq (pc := 83) 93 dX4_count_83 (by decide) (by decide) (fun h => absurd h (by decide)) (fun _ => ?_)
  refine g_aload_n (pc := 86) dX4_count_86 rfl ?_
  refine g_callVi (pc := 87) (Y' := mX4_whoPumps) (As := []) (st := []) (k := 4) (i := 0) (qa346 K.2.1) gX4_count_X4_whoPumps rfl (show 0 < 1 by omega) rfl rfl (na := 0) rfl (by decide +kernel) (by decide) (by decide) (Nat.le_of_ble_eq_true rfl) dX4_count_87 (fun r1 g1 hp => ?_)
  obtain ⟨h1, rfl⟩ := hp
  cases h1
  refine g_goto (pc := 90) 94 dX4_count_90 (by decide) ?_
  exact g_iret (pc := 94) dX4_count_94 ⟨mg_narI _, Or.inl rfl⟩ ⟨rfl, rfl⟩
/-- X5_count(r5.0, 3) at qms6 -/
theorem qa348 (l : Launch) {D : va_G} {E : mg_E} {B : Nat} : mg_C l (D, E, true, B) mX5_count [rv (D, E, true, B) 5 0, iv 3] qms6 (fun v g' => v = some 4294967294 ∧ g' = qms6) := by
  refine mg_C.of (by decide) rfl (Nat.le_of_ble_eq_true rfl) (List.forall_mem_cons.mpr ⟨rfl, (List.forall_mem_cons.mpr ⟨rfl, (fun _ h => nomatch h)⟩)⟩) (fun K => ?_)
  refine g_iload_n (pc := 0) dX5_count_0 rfl ?_
  refine g_if_ne (pc := 1) 9 dX5_count_1 (by decide) (by decide) (fun _ => ?_) (fun h => absurd h (by decide))
  refine g_iload_n (pc := 9) dX5_count_9 rfl ?_
  refine g_iconst (pc := 10) (v := 1) dX5_count_10 (by decide +kernel) ?_
  refine g_icmp_ne (pc := 11) 19 dX5_count_11 (by decide) (by decide) (by decide) (fun _ => ?_) (fun h => absurd h (by decide))
  refine g_iload_n (pc := 19) dX5_count_19 rfl ?_
  refine g_iconst (pc := 20) (v := 5) dX5_count_20 (by decide +kernel) ?_
  refine g_icmp_ne (pc := 21) 29 dX5_count_21 (by decide) (by decide) (by decide) (fun _ => ?_) (fun h => absurd h (by decide))
  refine g_aload_n (pc := 29) dX5_count_29 rfl ?_
  refine fg_X5_count_105 (pc := 30) (by rfl) dX5_count_30 ?_
  refine g_top (b := 1) (by decide +kernel) ?_
  refine g_if_ne (pc := 33) 38 dX5_count_33 (by decide) (by decide) (fun _ => ?_) (fun h => absurd h (by decide))
  refine g_bipush (pc := 38) (v := 4294967294) dX5_count_38 (by decide +kernel) ?_
  refine g_istore_n (pc := 40) (ls' := [rv (D, E, true, B) 5 0, iv 3, iv 4294967294]) dX5_count_40 (Nat.le_of_ble_eq_true rfl) (Nat.le_of_ble_eq_true rfl) rfl ?_
  refine g_iconst (pc := 41) (v := 0) dX5_count_41 (by decide +kernel) ?_
  refine g_istore_n (pc := 42) (ls' := [rv (D, E, true, B) 5 0, iv 3, iv 4294967294, iv 0]) dX5_count_42 (Nat.le_of_ble_eq_true rfl) (Nat.le_of_ble_eq_true rfl) rfl ?_
  refine g_iload_n (pc := 43) dX5_count_43 rfl ?_
  refine g_aload_n (pc := 44) dX5_count_44 rfl ?_
  refine fg_X5_count_101 (pc := 45) (by rfl) dX5_count_45 ?_
  refine g_top (b := 2) (by decide +kernel) ?_
  refine g_icmp_ge (pc := 48) 72 dX5_count_48 (by decide) (by decide) (by decide) (fun h => absurd h (by decide)) (fun _ => ?_)
  refine g_aload_n (pc := 51) dX5_count_51 rfl ?_
  refine fg_X5_count_20 (pc := 52) (by rfl) dX5_count_52 ?_
  refine g_iload_n (pc := 55) dX5_count_55 rfl ?_
  refine g_baload (pc := 56) (k := 38) (i := 0) (n := 24) (show 0 < 1 by omega) rfl (by decide) (by decide) dX5_count_56 ?_
  refine g_top (b := 0) (by decide +kernel) ?_
  refine g_if_eq (pc := 57) 64 dX5_count_57 (by decide) (by decide) (fun _ => ?_) (fun h => absurd (by decide) h)
  refine g_iload_n (pc := 64) dX5_count_64 rfl ?_
  refine g_istore_n (pc := 65) (ls' := [rv (D, E, true, B) 5 0, iv 3, iv 4294967294, iv 0]) dX5_count_65 (Nat.le_of_ble_eq_true rfl) (Nat.le_of_ble_eq_true rfl) rfl ?_
  refine g_iinc (pc := 66) (v := 1) (ls' := [rv (D, E, true, B) 5 0, iv 3, iv 4294967294, iv 1]) dX5_count_66 (Nat.le_of_ble_eq_true rfl) rfl (by decide +kernel) rfl ?_
  refine g_goto (pc := 69) 43 dX5_count_69 (by decide) ?_
  refine g_iload_n (pc := 43) dX5_count_43 rfl ?_
  refine g_aload_n (pc := 44) dX5_count_44 rfl ?_
  refine fg_X5_count_101 (pc := 45) (by rfl) dX5_count_45 ?_
  refine g_top (b := 2) (by decide +kernel) ?_
  refine g_icmp_ge (pc := 48) 72 dX5_count_48 (by decide) (by decide) (by decide) (fun h => absurd h (by decide)) (fun _ => ?_)
  refine g_aload_n (pc := 51) dX5_count_51 rfl ?_
  refine fg_X5_count_20 (pc := 52) (by rfl) dX5_count_52 ?_
  refine g_iload_n (pc := 55) dX5_count_55 rfl ?_
  refine g_baload (pc := 56) (k := 38) (i := 0) (n := 24) (show 0 < 1 by omega) rfl (by decide) (by decide) dX5_count_56 ?_
  refine g_top (b := 0) (by decide +kernel) ?_
  refine g_if_eq (pc := 57) 64 dX5_count_57 (by decide) (by decide) (fun _ => ?_) (fun h => absurd (by decide) h)
  refine g_iload_n (pc := 64) dX5_count_64 rfl ?_
  refine g_istore_n (pc := 65) (ls' := [rv (D, E, true, B) 5 0, iv 3, iv 4294967294, iv 1]) dX5_count_65 (Nat.le_of_ble_eq_true rfl) (Nat.le_of_ble_eq_true rfl) rfl ?_
  refine g_iinc (pc := 66) (v := 2) (ls' := [rv (D, E, true, B) 5 0, iv 3, iv 4294967294, iv 2]) dX5_count_66 (Nat.le_of_ble_eq_true rfl) rfl (by decide +kernel) rfl ?_
  refine g_goto (pc := 69) 43 dX5_count_69 (by decide) ?_
  refine g_iload_n (pc := 43) dX5_count_43 rfl ?_
  refine g_aload_n (pc := 44) dX5_count_44 rfl ?_
  refine fg_X5_count_101 (pc := 45) (by rfl) dX5_count_45 ?_
  refine g_top (b := 2) (by decide +kernel) ?_
  refine g_icmp_ge (pc := 48) 72 dX5_count_48 (by decide) (by decide) (by decide) (fun _ => ?_) (fun h => absurd (by decide) h)
  refine g_iload_n (pc := 72) dX5_count_72 rfl ?_
  refine g_iconst (pc := 73) (v := 2) dX5_count_73 (by decide +kernel) ?_
  refine g_icmp_ne (pc := 74) 84 dX5_count_74 (by decide) (by decide) (by decide) (fun _ => ?_) (fun h => absurd h (by decide))
  refine g_iload_n (pc := 84) dX5_count_84 rfl ?_
  refine g_iconst (pc := 85) (v := 3) dX5_count_85 (by decide +kernel) ?_
  refine g_icmp_ne (pc := 86) 93 dX5_count_86 (by decide) (by decide) (by decide) (fun h => absurd (by decide) h) (fun _ => ?_)
  refine g_iload_n (pc := 89) dX5_count_89 rfl ?_
  refine g_goto (pc := 90) 119 dX5_count_90 (by decide) ?_
  exact g_iret (pc := 119) dX5_count_119 ⟨mg_narI _, Or.inl rfl⟩ ⟨rfl, rfl⟩
/-- X4_count(r4.0, 4) at qms6 -/
theorem qa349 (l : Launch) {D : va_G} {E : mg_E} {B : Nat} : mg_C l (D, E, true, B) mX4_count [rv (D, E, true, B) 4 0, iv 4] qms6 (fun v g' => v = some 0 ∧ g' = qms6) := by
  refine mg_C.of (by decide) rfl (Nat.le_of_ble_eq_true rfl) (List.forall_mem_cons.mpr ⟨rfl, (List.forall_mem_cons.mpr ⟨rfl, (fun _ h => nomatch h)⟩)⟩) (fun K => ?_)
  refine g_iload_n (pc := 0) dX4_count_0 rfl ?_
  refine g_switchIn (pc := 1) 95 dX4_count_1 (by decide) (by decide) (by decide) rfl (by decide) ?_
  refine g_aload_n (pc := 95) dX4_count_95 rfl ?_
  refine fg_X4_count_55 (pc := 96) dX4_count_96 ?_
  refine g_top (b := 1) (by decide +kernel) ?_
  refine g_if_eq (pc := 99) 109 dX4_count_99 (by decide) (by decide) (fun h => absurd h (by decide)) (fun _ => ?_)
  refine g_aload_n (pc := 102) dX4_count_102 rfl ?_
  refine g_callVi (pc := 103) (Y' := mX4_placeOfRight) (As := []) (st := []) (k := 4) (i := 0) (qa240 K.2.1) gX4_count_X4_placeOfRight rfl (show 0 < 1 by omega) rfl rfl (na := 0) rfl (by decide +kernel) (by decide) (by decide) (Nat.le_of_ble_eq_true rfl) dX4_count_103 (fun r1 g1 hp => ?_)
  obtain ⟨h1, rfl⟩ := hp
  cases h1
  refine g_goto (pc := 106) 110 dX4_count_106 (by decide) ?_
  exact g_iret (pc := 110) dX4_count_110 ⟨mg_narI _, Or.inl rfl⟩ ⟨rfl, rfl⟩
/-- X5_rightAt(r5.0) at qms6 -/
theorem qa350 (l : Launch) {D : va_G} {E : mg_E} {B : Nat} : mg_C l (D, E, true, B) mX5_rightAt [rv (D, E, true, B) 5 0] qms6 (fun v g' => v = some 0 ∧ g' = qms6) := by
  refine mg_C.of (by decide) rfl (Nat.le_of_ble_eq_true rfl) (List.forall_mem_cons.mpr ⟨rfl, (fun _ h => nomatch h)⟩) (fun K => ?_)
  refine g_iconst (pc := 0) (v := 0) dX5_rightAt_0 (by decide +kernel) ?_
  refine g_istore_n (pc := 1) (ls' := [rv (D, E, true, B) 5 0, iv 0]) dX5_rightAt_1 (Nat.le_of_ble_eq_true rfl) (Nat.le_of_ble_eq_true rfl) rfl ?_
  refine g_iload_n (pc := 2) dX5_rightAt_2 rfl ?_
  refine g_aload_n (pc := 3) dX5_rightAt_3 rfl ?_
  refine fg_X5_rightAt_101 (pc := 4) (by rfl) dX5_rightAt_4 ?_
  refine g_top (b := 2) (by decide +kernel) ?_
  refine g_icmp_ge (pc := 7) 28 dX5_rightAt_7 (by decide) (by decide) (by decide) (fun h => absurd h (by decide)) (fun _ => ?_)
  refine g_aload_n (pc := 10) dX5_rightAt_10 rfl ?_
  refine fg_X5_rightAt_13 (pc := 11) (by rfl) dX5_rightAt_11 ?_
  refine g_iload_n (pc := 14) dX5_rightAt_14 rfl ?_
  refine g_iaload (pc := 15) (k := 36) (i := 0) (n := 24) (show 0 < 1 by omega) rfl (by decide) (by decide) dX5_rightAt_15 ?_
  refine g_top (b := 0) (by decide +kernel) ?_
  refine g_iload_n (pc := 16) dX5_rightAt_16 rfl ?_
  refine g_icmp_ne (pc := 17) 22 dX5_rightAt_17 (by decide) (by decide) (by decide) (fun h => absurd (by decide) h) (fun _ => ?_)
  refine g_iload_n (pc := 20) dX5_rightAt_20 rfl ?_
  exact g_iret (pc := 21) dX5_rightAt_21 ⟨mg_narI _, Or.inl rfl⟩ ⟨rfl, rfl⟩
/-- X5_count(r5.0, 4) at qms6 -/
theorem qa351 (l : Launch) {D : va_G} {E : mg_E} {B : Nat} : mg_C l (D, E, true, B) mX5_count [rv (D, E, true, B) 5 0, iv 4] qms6 (fun v g' => v = some 0 ∧ g' = qms6) := by
  refine mg_C.of (by decide) rfl (Nat.le_of_ble_eq_true rfl) (List.forall_mem_cons.mpr ⟨rfl, (List.forall_mem_cons.mpr ⟨rfl, (fun _ h => nomatch h)⟩)⟩) (fun K => ?_)
  refine g_iload_n (pc := 0) dX5_count_0 rfl ?_
  refine g_if_ne (pc := 1) 9 dX5_count_1 (by decide) (by decide) (fun _ => ?_) (fun h => absurd h (by decide))
  refine g_iload_n (pc := 9) dX5_count_9 rfl ?_
  refine g_iconst (pc := 10) (v := 1) dX5_count_10 (by decide +kernel) ?_
  refine g_icmp_ne (pc := 11) 19 dX5_count_11 (by decide) (by decide) (by decide) (fun _ => ?_) (fun h => absurd h (by decide))
  refine g_iload_n (pc := 19) dX5_count_19 rfl ?_
  refine g_iconst (pc := 20) (v := 5) dX5_count_20 (by decide +kernel) ?_
  refine g_icmp_ne (pc := 21) 29 dX5_count_21 (by decide) (by decide) (by decide) (fun _ => ?_) (fun h => absurd h (by decide))
  refine g_aload_n (pc := 29) dX5_count_29 rfl ?_
  refine fg_X5_count_105 (pc := 30) (by rfl) dX5_count_30 ?_
  refine g_top (b := 1) (by decide +kernel) ?_
  refine g_if_ne (pc := 33) 38 dX5_count_33 (by decide) (by decide) (fun _ => ?_) (fun h => absurd h (by decide))
  refine g_bipush (pc := 38) (v := 4294967294) dX5_count_38 (by decide +kernel) ?_
  refine g_istore_n (pc := 40) (ls' := [rv (D, E, true, B) 5 0, iv 4, iv 4294967294]) dX5_count_40 (Nat.le_of_ble_eq_true rfl) (Nat.le_of_ble_eq_true rfl) rfl ?_
  refine g_iconst (pc := 41) (v := 0) dX5_count_41 (by decide +kernel) ?_
  refine g_istore_n (pc := 42) (ls' := [rv (D, E, true, B) 5 0, iv 4, iv 4294967294, iv 0]) dX5_count_42 (Nat.le_of_ble_eq_true rfl) (Nat.le_of_ble_eq_true rfl) rfl ?_
  refine g_iload_n (pc := 43) dX5_count_43 rfl ?_
  refine g_aload_n (pc := 44) dX5_count_44 rfl ?_
  refine fg_X5_count_101 (pc := 45) (by rfl) dX5_count_45 ?_
  refine g_top (b := 2) (by decide +kernel) ?_
  refine g_icmp_ge (pc := 48) 72 dX5_count_48 (by decide) (by decide) (by decide) (fun h => absurd h (by decide)) (fun _ => ?_)
  refine g_aload_n (pc := 51) dX5_count_51 rfl ?_
  refine fg_X5_count_20 (pc := 52) (by rfl) dX5_count_52 ?_
  refine g_iload_n (pc := 55) dX5_count_55 rfl ?_
  refine g_baload (pc := 56) (k := 38) (i := 0) (n := 24) (show 0 < 1 by omega) rfl (by decide) (by decide) dX5_count_56 ?_
  refine g_top (b := 0) (by decide +kernel) ?_
  refine g_if_eq (pc := 57) 64 dX5_count_57 (by decide) (by decide) (fun _ => ?_) (fun h => absurd (by decide) h)
  refine g_iload_n (pc := 64) dX5_count_64 rfl ?_
  refine g_istore_n (pc := 65) (ls' := [rv (D, E, true, B) 5 0, iv 4, iv 4294967294, iv 0]) dX5_count_65 (Nat.le_of_ble_eq_true rfl) (Nat.le_of_ble_eq_true rfl) rfl ?_
  refine g_iinc (pc := 66) (v := 1) (ls' := [rv (D, E, true, B) 5 0, iv 4, iv 4294967294, iv 1]) dX5_count_66 (Nat.le_of_ble_eq_true rfl) rfl (by decide +kernel) rfl ?_
  refine g_goto (pc := 69) 43 dX5_count_69 (by decide) ?_
  refine g_iload_n (pc := 43) dX5_count_43 rfl ?_
  refine g_aload_n (pc := 44) dX5_count_44 rfl ?_
  refine fg_X5_count_101 (pc := 45) (by rfl) dX5_count_45 ?_
  refine g_top (b := 2) (by decide +kernel) ?_
  refine g_icmp_ge (pc := 48) 72 dX5_count_48 (by decide) (by decide) (by decide) (fun h => absurd h (by decide)) (fun _ => ?_)
  refine g_aload_n (pc := 51) dX5_count_51 rfl ?_
  refine fg_X5_count_20 (pc := 52) (by rfl) dX5_count_52 ?_
  refine g_iload_n (pc := 55) dX5_count_55 rfl ?_
  refine g_baload (pc := 56) (k := 38) (i := 0) (n := 24) (show 0 < 1 by omega) rfl (by decide) (by decide) dX5_count_56 ?_
  refine g_top (b := 0) (by decide +kernel) ?_
  refine g_if_eq (pc := 57) 64 dX5_count_57 (by decide) (by decide) (fun _ => ?_) (fun h => absurd (by decide) h)
  refine g_iload_n (pc := 64) dX5_count_64 rfl ?_
  refine g_istore_n (pc := 65) (ls' := [rv (D, E, true, B) 5 0, iv 4, iv 4294967294, iv 1]) dX5_count_65 (Nat.le_of_ble_eq_true rfl) (Nat.le_of_ble_eq_true rfl) rfl ?_
  refine g_iinc (pc := 66) (v := 2) (ls' := [rv (D, E, true, B) 5 0, iv 4, iv 4294967294, iv 2]) dX5_count_66 (Nat.le_of_ble_eq_true rfl) rfl (by decide +kernel) rfl ?_
  refine g_goto (pc := 69) 43 dX5_count_69 (by decide) ?_
  refine g_iload_n (pc := 43) dX5_count_43 rfl ?_
  refine g_aload_n (pc := 44) dX5_count_44 rfl ?_
  refine fg_X5_count_101 (pc := 45) (by rfl) dX5_count_45 ?_
  refine g_top (b := 2) (by decide +kernel) ?_
  refine g_icmp_ge (pc := 48) 72 dX5_count_48 (by decide) (by decide) (by decide) (fun _ => ?_) (fun h => absurd (by decide) h)
  refine g_iload_n (pc := 72) dX5_count_72 rfl ?_
  refine g_iconst (pc := 73) (v := 2) dX5_count_73 (by decide +kernel) ?_
  refine g_icmp_ne (pc := 74) 84 dX5_count_74 (by decide) (by decide) (by decide) (fun _ => ?_) (fun h => absurd h (by decide))
  refine g_iload_n (pc := 84) dX5_count_84 rfl ?_
  refine g_iconst (pc := 85) (v := 3) dX5_count_85 (by decide +kernel) ?_
  refine g_icmp_ne (pc := 86) 93 dX5_count_86 (by decide) (by decide) (by decide) (fun _ => ?_) (fun h => absurd h (by decide))
  refine g_iload_n (pc := 93) dX5_count_93 rfl ?_
  refine g_iconst (pc := 94) (v := 4) dX5_count_94 (by decide +kernel) ?_
  refine g_icmp_ne (pc := 95) 105 dX5_count_95 (by decide) (by decide) (by decide) (fun h => absurd (by decide) h) (fun _ => ?_)
  refine g_aload_n (pc := 98) dX5_count_98 rfl ?_
  refine g_callVi (pc := 99) (Y' := mX5_rightAt) (As := []) (st := []) (k := 5) (i := 0) (qa350 K.2.1) gX5_count_X5_rightAt rfl (show 0 < 1 by omega) rfl rfl (na := 0) rfl (by decide +kernel) (by decide) (by decide) (Nat.le_of_ble_eq_true rfl) dX5_count_99 (fun r1 g1 hp => ?_)
  obtain ⟨h1, rfl⟩ := hp
  cases h1
  refine g_goto (pc := 102) 119 dX5_count_102 (by decide) ?_
  exact g_iret (pc := 119) dX5_count_119 ⟨mg_narI _, Or.inl rfl⟩ ⟨rfl, rfl⟩
/-- X0_parts(r0.0) at qms6 -/
theorem qa352 (l : Launch) {D : va_G} {E : mg_E} {B : Nat} : mg_C l (D, E, true, B) mX0_parts [rv (D, E, true, B) 0 0] qms6 (fun v g' => v = some 1 ∧ g' = qms6) := by
  refine mg_C.of (by decide) rfl (Nat.le_of_ble_eq_true rfl) (List.forall_mem_cons.mpr ⟨rfl, (fun _ h => nomatch h)⟩) (fun K => ?_)
  refine g_aload_n (pc := 0) dX0_parts_0 rfl ?_
  refine fg_X0_parts_21 (pc := 1) dX0_parts_1 ?_
  refine g_top (b := 2) (by decide +kernel) ?_
  refine g_aload_n (pc := 4) dX0_parts_4 rfl ?_
  refine fg_X0_parts_25 (pc := 5) dX0_parts_5 ?_
  refine g_top (b := 1) (by decide +kernel) ?_
  refine g_isub (pc := 8) (by decide) dX0_parts_8 ?_
  refine g_top (b := 1) (by decide +kernel) ?_
  exact g_iret (pc := 9) dX0_parts_9 ⟨mg_narI _, Or.inl rfl⟩ ⟨rfl, rfl⟩
/-- X4_count(r4.0, 5) at qms6 -/
theorem qa353 (l : Launch) {D : va_G} {E : mg_E} {B : Nat} : mg_C l (D, E, true, B) mX4_count [rv (D, E, true, B) 4 0, iv 5] qms6 (fun v g' => v = some 1 ∧ g' = qms6) := by
  refine mg_C.of (by decide) rfl (Nat.le_of_ble_eq_true rfl) (List.forall_mem_cons.mpr ⟨rfl, (List.forall_mem_cons.mpr ⟨rfl, (fun _ h => nomatch h)⟩)⟩) (fun K => ?_)
  refine g_iload_n (pc := 0) dX4_count_0 rfl ?_
  refine g_switchIn (pc := 1) 111 dX4_count_1 (by decide) (by decide) (by decide) rfl (by decide) ?_
  refine g_aload_n (pc := 111) dX4_count_111 rfl ?_
  refine fg_X4_count_10 (pc := 112) dX4_count_112 ?_
  refine g_callVi (pc := 115) (Y' := mX0_parts) (As := []) (st := []) (k := 0) (i := 0) (qa352 K.2.1) gX4_count_X0_parts rfl (show 0 < 1 by omega) rfl rfl (na := 0) rfl (by decide +kernel) (by decide) (by decide) (Nat.le_of_ble_eq_true rfl) dX4_count_115 (fun r1 g1 hp => ?_)
  obtain ⟨h1, rfl⟩ := hp
  cases h1
  exact g_iret (pc := 118) dX4_count_118 ⟨mg_narI _, Or.inl rfl⟩ ⟨rfl, rfl⟩
/-- X5_count(r5.0, 5) at qms6 -/
theorem qa354 (l : Launch) {D : va_G} {E : mg_E} {B : Nat} : mg_C l (D, E, true, B) mX5_count [rv (D, E, true, B) 5 0, iv 5] qms6 (fun v g' => v = some 1 ∧ g' = qas6) := by
  refine mg_C.of (by decide) rfl (Nat.le_of_ble_eq_true rfl) (List.forall_mem_cons.mpr ⟨rfl, (List.forall_mem_cons.mpr ⟨rfl, (fun _ h => nomatch h)⟩)⟩) (fun K => ?_)
  refine g_iload_n (pc := 0) dX5_count_0 rfl ?_
  refine g_if_ne (pc := 1) 9 dX5_count_1 (by decide) (by decide) (fun _ => ?_) (fun h => absurd h (by decide))
  refine g_iload_n (pc := 9) dX5_count_9 rfl ?_
  refine g_iconst (pc := 10) (v := 1) dX5_count_10 (by decide +kernel) ?_
  refine g_icmp_ne (pc := 11) 19 dX5_count_11 (by decide) (by decide) (by decide) (fun _ => ?_) (fun h => absurd h (by decide))
  refine g_iload_n (pc := 19) dX5_count_19 rfl ?_
  refine g_iconst (pc := 20) (v := 5) dX5_count_20 (by decide +kernel) ?_
  refine g_icmp_ne (pc := 21) 29 dX5_count_21 (by decide) (by decide) (by decide) (fun h => absurd (by decide) h) (fun _ => ?_)
  refine g_aload_n (pc := 24) dX5_count_24 rfl ?_
  refine g_callVi (pc := 25) (Y' := mX5_part) (As := []) (st := []) (k := 5) (i := 0) (qa10 K.2.1) gX5_count_X5_part rfl (show 0 < 1 by omega) rfl rfl (na := 0) rfl (by decide +kernel) (by decide) (by decide) (Nat.le_of_ble_eq_true rfl) dX5_count_25 (fun r1 g1 hp => ?_)
  obtain ⟨h1, rfl⟩ := hp
  cases h1
  exact g_iret (pc := 28) dX5_count_28 ⟨mg_narI _, Or.inl rfl⟩ ⟨rfl, rfl⟩
/-- X4_count(r4.0, 6) at qms6 -/
theorem qa355 (l : Launch) {D : va_G} {E : mg_E} {B : Nat} : mg_C l (D, E, true, B) mX4_count [rv (D, E, true, B) 4 0, iv 6] qms6 (fun v g' => v = some 0 ∧ g' = qms6) := by
  refine mg_C.of (by decide) rfl (Nat.le_of_ble_eq_true rfl) (List.forall_mem_cons.mpr ⟨rfl, (List.forall_mem_cons.mpr ⟨rfl, (fun _ h => nomatch h)⟩)⟩) (fun K => ?_)
  refine g_iload_n (pc := 0) dX4_count_0 rfl ?_
  refine g_switchIn (pc := 1) 119 dX4_count_1 (by decide) (by decide) (by decide) rfl (by decide) ?_
  refine g_aload_n (pc := 119) dX4_count_119 rfl ?_
  refine fg_X4_count_55 (pc := 120) dX4_count_120 ?_
  refine g_top (b := 1) (by decide +kernel) ?_
  refine g_if_eq (pc := 123) 133 dX4_count_123 (by decide) (by decide) (fun h => absurd h (by decide)) (fun _ => ?_)
  refine g_aload_n (pc := 126) dX4_count_126 rfl ?_
  refine fg_X4_count_91 (pc := 127) dX4_count_127 ?_
  refine g_top (b := 0) (by decide +kernel) ?_
  refine g_goto (pc := 130) 134 dX4_count_130 (by decide) ?_
  exact g_iret (pc := 134) dX4_count_134 ⟨mg_narI _, Or.inl rfl⟩ ⟨rfl, rfl⟩
/-- X5_count(r5.0, 6) at qms6 -/
theorem qa356 (l : Launch) {D : va_G} {E : mg_E} {B : Nat} : mg_C l (D, E, true, B) mX5_count [rv (D, E, true, B) 5 0, iv 6] qms6 (fun v g' => v = some 0 ∧ g' = qms6) := by
  refine mg_C.of (by decide) rfl (Nat.le_of_ble_eq_true rfl) (List.forall_mem_cons.mpr ⟨rfl, (List.forall_mem_cons.mpr ⟨rfl, (fun _ h => nomatch h)⟩)⟩) (fun K => ?_)
  refine g_iload_n (pc := 0) dX5_count_0 rfl ?_
  refine g_if_ne (pc := 1) 9 dX5_count_1 (by decide) (by decide) (fun _ => ?_) (fun h => absurd h (by decide))
  refine g_iload_n (pc := 9) dX5_count_9 rfl ?_
  refine g_iconst (pc := 10) (v := 1) dX5_count_10 (by decide +kernel) ?_
  refine g_icmp_ne (pc := 11) 19 dX5_count_11 (by decide) (by decide) (by decide) (fun _ => ?_) (fun h => absurd h (by decide))
  refine g_iload_n (pc := 19) dX5_count_19 rfl ?_
  refine g_iconst (pc := 20) (v := 5) dX5_count_20 (by decide +kernel) ?_
  refine g_icmp_ne (pc := 21) 29 dX5_count_21 (by decide) (by decide) (by decide) (fun _ => ?_) (fun h => absurd h (by decide))
  refine g_aload_n (pc := 29) dX5_count_29 rfl ?_
  refine fg_X5_count_105 (pc := 30) (by rfl) dX5_count_30 ?_
  refine g_top (b := 1) (by decide +kernel) ?_
  refine g_if_ne (pc := 33) 38 dX5_count_33 (by decide) (by decide) (fun _ => ?_) (fun h => absurd h (by decide))
  refine g_bipush (pc := 38) (v := 4294967294) dX5_count_38 (by decide +kernel) ?_
  refine g_istore_n (pc := 40) (ls' := [rv (D, E, true, B) 5 0, iv 6, iv 4294967294]) dX5_count_40 (Nat.le_of_ble_eq_true rfl) (Nat.le_of_ble_eq_true rfl) rfl ?_
  refine g_iconst (pc := 41) (v := 0) dX5_count_41 (by decide +kernel) ?_
  refine g_istore_n (pc := 42) (ls' := [rv (D, E, true, B) 5 0, iv 6, iv 4294967294, iv 0]) dX5_count_42 (Nat.le_of_ble_eq_true rfl) (Nat.le_of_ble_eq_true rfl) rfl ?_
  refine g_iload_n (pc := 43) dX5_count_43 rfl ?_
  refine g_aload_n (pc := 44) dX5_count_44 rfl ?_
  refine fg_X5_count_101 (pc := 45) (by rfl) dX5_count_45 ?_
  refine g_top (b := 2) (by decide +kernel) ?_
  refine g_icmp_ge (pc := 48) 72 dX5_count_48 (by decide) (by decide) (by decide) (fun h => absurd h (by decide)) (fun _ => ?_)
  refine g_aload_n (pc := 51) dX5_count_51 rfl ?_
  refine fg_X5_count_20 (pc := 52) (by rfl) dX5_count_52 ?_
  refine g_iload_n (pc := 55) dX5_count_55 rfl ?_
  refine g_baload (pc := 56) (k := 38) (i := 0) (n := 24) (show 0 < 1 by omega) rfl (by decide) (by decide) dX5_count_56 ?_
  refine g_top (b := 0) (by decide +kernel) ?_
  refine g_if_eq (pc := 57) 64 dX5_count_57 (by decide) (by decide) (fun _ => ?_) (fun h => absurd (by decide) h)
  refine g_iload_n (pc := 64) dX5_count_64 rfl ?_
  refine g_istore_n (pc := 65) (ls' := [rv (D, E, true, B) 5 0, iv 6, iv 4294967294, iv 0]) dX5_count_65 (Nat.le_of_ble_eq_true rfl) (Nat.le_of_ble_eq_true rfl) rfl ?_
  refine g_iinc (pc := 66) (v := 1) (ls' := [rv (D, E, true, B) 5 0, iv 6, iv 4294967294, iv 1]) dX5_count_66 (Nat.le_of_ble_eq_true rfl) rfl (by decide +kernel) rfl ?_
  refine g_goto (pc := 69) 43 dX5_count_69 (by decide) ?_
  refine g_iload_n (pc := 43) dX5_count_43 rfl ?_
  refine g_aload_n (pc := 44) dX5_count_44 rfl ?_
  refine fg_X5_count_101 (pc := 45) (by rfl) dX5_count_45 ?_
  refine g_top (b := 2) (by decide +kernel) ?_
  refine g_icmp_ge (pc := 48) 72 dX5_count_48 (by decide) (by decide) (by decide) (fun h => absurd h (by decide)) (fun _ => ?_)
  refine g_aload_n (pc := 51) dX5_count_51 rfl ?_
  refine fg_X5_count_20 (pc := 52) (by rfl) dX5_count_52 ?_
  refine g_iload_n (pc := 55) dX5_count_55 rfl ?_
  refine g_baload (pc := 56) (k := 38) (i := 0) (n := 24) (show 0 < 1 by omega) rfl (by decide) (by decide) dX5_count_56 ?_
  refine g_top (b := 0) (by decide +kernel) ?_
  refine g_if_eq (pc := 57) 64 dX5_count_57 (by decide) (by decide) (fun _ => ?_) (fun h => absurd (by decide) h)
  refine g_iload_n (pc := 64) dX5_count_64 rfl ?_
  refine g_istore_n (pc := 65) (ls' := [rv (D, E, true, B) 5 0, iv 6, iv 4294967294, iv 1]) dX5_count_65 (Nat.le_of_ble_eq_true rfl) (Nat.le_of_ble_eq_true rfl) rfl ?_
  refine g_iinc (pc := 66) (v := 2) (ls' := [rv (D, E, true, B) 5 0, iv 6, iv 4294967294, iv 2]) dX5_count_66 (Nat.le_of_ble_eq_true rfl) rfl (by decide +kernel) rfl ?_
  refine g_goto (pc := 69) 43 dX5_count_69 (by decide) ?_
  refine g_iload_n (pc := 43) dX5_count_43 rfl ?_
  refine g_aload_n (pc := 44) dX5_count_44 rfl ?_
  refine fg_X5_count_101 (pc := 45) (by rfl) dX5_count_45 ?_
  refine g_top (b := 2) (by decide +kernel) ?_
  refine g_icmp_ge (pc := 48) 72 dX5_count_48 (by decide) (by decide) (by decide) (fun _ => ?_) (fun h => absurd (by decide) h)
  refine g_iload_n (pc := 72) dX5_count_72 rfl ?_
  refine g_iconst (pc := 73) (v := 2) dX5_count_73 (by decide +kernel) ?_
  refine g_icmp_ne (pc := 74) 84 dX5_count_74 (by decide) (by decide) (by decide) (fun _ => ?_) (fun h => absurd h (by decide))
  refine g_iload_n (pc := 84) dX5_count_84 rfl ?_
  refine g_iconst (pc := 85) (v := 3) dX5_count_85 (by decide +kernel) ?_
  refine g_icmp_ne (pc := 86) 93 dX5_count_86 (by decide) (by decide) (by decide) (fun _ => ?_) (fun h => absurd h (by decide))
  refine g_iload_n (pc := 93) dX5_count_93 rfl ?_
  refine g_iconst (pc := 94) (v := 4) dX5_count_94 (by decide +kernel) ?_
  refine g_icmp_ne (pc := 95) 105 dX5_count_95 (by decide) (by decide) (by decide) (fun _ => ?_) (fun h => absurd h (by decide))
  refine g_iload_n (pc := 105) dX5_count_105 rfl ?_
  refine g_bipush (pc := 106) (v := 6) dX5_count_106 (by decide +kernel) ?_
  refine g_icmp_ne (pc := 108) 118 dX5_count_108 (by decide) (by decide) (by decide) (fun h => absurd (by decide) h) (fun _ => ?_)
  refine g_aload_n (pc := 111) dX5_count_111 rfl ?_
  refine fg_X5_count_130 (pc := 112) (by rfl) dX5_count_112 ?_
  refine g_top (b := 0) (by decide +kernel) ?_
  refine g_goto (pc := 115) 119 dX5_count_115 (by decide) ?_
  exact g_iret (pc := 119) dX5_count_119 ⟨mg_narI _, Or.inl rfl⟩ ⟨rfl, rfl⟩
/-- X4_count(r4.0, a[2147483648,4294967295]) at qms6 -/
theorem qa357 (l : Launch) {D : va_G} {E : mg_E} {B : Nat} (a : Nat) (h_a : 2147483648 ≤ a) (k_a : a ≤ 4294967295) : mg_C l (D, E, true, B) mX4_count [rv (D, E, true, B) 4 0, iv a] qms6 (fun v g' => v = some 4294967295 ∧ g' = qms6) := by
  refine mg_C.of (by decide) rfl (Nat.le_of_ble_eq_true rfl) (List.forall_mem_cons.mpr ⟨rfl, (List.forall_mem_cons.mpr ⟨rfl, (fun _ h => nomatch h)⟩)⟩) (fun K => ?_)
  refine g_iload_n (pc := 0) dX4_count_0 rfl ?_
  refine g_switchOut (pc := 1) 135 dX4_count_1 (by omega) (Or.inl (by have q := mg_sgn h_a (by omega : a < 4294967296); omega)) (by decide) ?_
  refine g_iconst (pc := 135) (v := 4294967295) dX4_count_135 (by decide +kernel) ?_
  exact g_iret (pc := 136) dX4_count_136 ⟨mg_narI _, Or.inl rfl⟩ ⟨rfl, rfl⟩
/-- X5_count(r5.0, a[2147483648,4294967295]) at qms6 -/
theorem qa358 (l : Launch) {D : va_G} {E : mg_E} {B : Nat} (a : Nat) (h_a : 2147483648 ≤ a) (k_a : a ≤ 4294967295) : mg_C l (D, E, true, B) mX5_count [rv (D, E, true, B) 5 0, iv a] qms6 (fun v g' => v = some 4294967295 ∧ g' = qms6) := by
  refine mg_C.of (by decide) rfl (Nat.le_of_ble_eq_true rfl) (List.forall_mem_cons.mpr ⟨rfl, (List.forall_mem_cons.mpr ⟨rfl, (fun _ h => nomatch h)⟩)⟩) (fun K => ?_)
  refine g_iload_n (pc := 0) dX5_count_0 rfl ?_
  refine g_if_ne (pc := 1) 9 dX5_count_1 (by decide) (by omega) (fun _ => ?_) (fun h => absurd h (by omega))
  refine g_iload_n (pc := 9) dX5_count_9 rfl ?_
  refine g_iconst (pc := 10) (v := 1) dX5_count_10 (by decide +kernel) ?_
  refine g_icmp_ne (pc := 11) 19 dX5_count_11 (by decide) (by omega) (by decide) (fun _ => ?_) (fun h => absurd h (by omega))
  refine g_iload_n (pc := 19) dX5_count_19 rfl ?_
  refine g_iconst (pc := 20) (v := 5) dX5_count_20 (by decide +kernel) ?_
  refine g_icmp_ne (pc := 21) 29 dX5_count_21 (by decide) (by omega) (by decide) (fun _ => ?_) (fun h => absurd h (by omega))
  refine g_aload_n (pc := 29) dX5_count_29 rfl ?_
  refine fg_X5_count_105 (pc := 30) (by rfl) dX5_count_30 ?_
  refine g_top (b := 1) (by decide +kernel) ?_
  refine g_if_ne (pc := 33) 38 dX5_count_33 (by decide) (by decide) (fun _ => ?_) (fun h => absurd h (by decide))
  refine g_bipush (pc := 38) (v := 4294967294) dX5_count_38 (by decide +kernel) ?_
  refine g_istore_n (pc := 40) (ls' := [rv (D, E, true, B) 5 0, iv a, iv 4294967294]) dX5_count_40 (Nat.le_of_ble_eq_true rfl) (Nat.le_of_ble_eq_true rfl) rfl ?_
  refine g_iconst (pc := 41) (v := 0) dX5_count_41 (by decide +kernel) ?_
  refine g_istore_n (pc := 42) (ls' := [rv (D, E, true, B) 5 0, iv a, iv 4294967294, iv 0]) dX5_count_42 (Nat.le_of_ble_eq_true rfl) (Nat.le_of_ble_eq_true rfl) rfl ?_
  refine g_iload_n (pc := 43) dX5_count_43 rfl ?_
  refine g_aload_n (pc := 44) dX5_count_44 rfl ?_
  refine fg_X5_count_101 (pc := 45) (by rfl) dX5_count_45 ?_
  refine g_top (b := 2) (by decide +kernel) ?_
  refine g_icmp_ge (pc := 48) 72 dX5_count_48 (by decide) (by decide) (by decide) (fun h => absurd h (by decide)) (fun _ => ?_)
  refine g_aload_n (pc := 51) dX5_count_51 rfl ?_
  refine fg_X5_count_20 (pc := 52) (by rfl) dX5_count_52 ?_
  refine g_iload_n (pc := 55) dX5_count_55 rfl ?_
  refine g_baload (pc := 56) (k := 38) (i := 0) (n := 24) (show 0 < 1 by omega) rfl (by decide) (by decide) dX5_count_56 ?_
  refine g_top (b := 0) (by decide +kernel) ?_
  refine g_if_eq (pc := 57) 64 dX5_count_57 (by decide) (by decide) (fun _ => ?_) (fun h => absurd (by decide) h)
  refine g_iload_n (pc := 64) dX5_count_64 rfl ?_
  refine g_istore_n (pc := 65) (ls' := [rv (D, E, true, B) 5 0, iv a, iv 4294967294, iv 0]) dX5_count_65 (Nat.le_of_ble_eq_true rfl) (Nat.le_of_ble_eq_true rfl) rfl ?_
  refine g_iinc (pc := 66) (v := 1) (ls' := [rv (D, E, true, B) 5 0, iv a, iv 4294967294, iv 1]) dX5_count_66 (Nat.le_of_ble_eq_true rfl) rfl (by decide +kernel) rfl ?_
  refine g_goto (pc := 69) 43 dX5_count_69 (by decide) ?_
  refine g_iload_n (pc := 43) dX5_count_43 rfl ?_
  refine g_aload_n (pc := 44) dX5_count_44 rfl ?_
  refine fg_X5_count_101 (pc := 45) (by rfl) dX5_count_45 ?_
  refine g_top (b := 2) (by decide +kernel) ?_
  refine g_icmp_ge (pc := 48) 72 dX5_count_48 (by decide) (by decide) (by decide) (fun h => absurd h (by decide)) (fun _ => ?_)
  refine g_aload_n (pc := 51) dX5_count_51 rfl ?_
  refine fg_X5_count_20 (pc := 52) (by rfl) dX5_count_52 ?_
  refine g_iload_n (pc := 55) dX5_count_55 rfl ?_
  refine g_baload (pc := 56) (k := 38) (i := 0) (n := 24) (show 0 < 1 by omega) rfl (by decide) (by decide) dX5_count_56 ?_
  refine g_top (b := 0) (by decide +kernel) ?_
  refine g_if_eq (pc := 57) 64 dX5_count_57 (by decide) (by decide) (fun _ => ?_) (fun h => absurd (by decide) h)
  refine g_iload_n (pc := 64) dX5_count_64 rfl ?_
  refine g_istore_n (pc := 65) (ls' := [rv (D, E, true, B) 5 0, iv a, iv 4294967294, iv 1]) dX5_count_65 (Nat.le_of_ble_eq_true rfl) (Nat.le_of_ble_eq_true rfl) rfl ?_
  refine g_iinc (pc := 66) (v := 2) (ls' := [rv (D, E, true, B) 5 0, iv a, iv 4294967294, iv 2]) dX5_count_66 (Nat.le_of_ble_eq_true rfl) rfl (by decide +kernel) rfl ?_
  refine g_goto (pc := 69) 43 dX5_count_69 (by decide) ?_
  refine g_iload_n (pc := 43) dX5_count_43 rfl ?_
  refine g_aload_n (pc := 44) dX5_count_44 rfl ?_
  refine fg_X5_count_101 (pc := 45) (by rfl) dX5_count_45 ?_
  refine g_top (b := 2) (by decide +kernel) ?_
  refine g_icmp_ge (pc := 48) 72 dX5_count_48 (by decide) (by decide) (by decide) (fun _ => ?_) (fun h => absurd (by decide) h)
  refine g_iload_n (pc := 72) dX5_count_72 rfl ?_
  refine g_iconst (pc := 73) (v := 2) dX5_count_73 (by decide +kernel) ?_
  refine g_icmp_ne (pc := 74) 84 dX5_count_74 (by decide) (by omega) (by decide) (fun _ => ?_) (fun h => absurd h (by omega))
  refine g_iload_n (pc := 84) dX5_count_84 rfl ?_
  refine g_iconst (pc := 85) (v := 3) dX5_count_85 (by decide +kernel) ?_
  refine g_icmp_ne (pc := 86) 93 dX5_count_86 (by decide) (by omega) (by decide) (fun _ => ?_) (fun h => absurd h (by omega))
  refine g_iload_n (pc := 93) dX5_count_93 rfl ?_
  refine g_iconst (pc := 94) (v := 4) dX5_count_94 (by decide +kernel) ?_
  refine g_icmp_ne (pc := 95) 105 dX5_count_95 (by decide) (by omega) (by decide) (fun _ => ?_) (fun h => absurd h (by omega))
  refine g_iload_n (pc := 105) dX5_count_105 rfl ?_
  refine g_bipush (pc := 106) (v := 6) dX5_count_106 (by decide +kernel) ?_
  refine g_icmp_ne (pc := 108) 118 dX5_count_108 (by decide) (by omega) (by decide) (fun _ => ?_) (fun h => absurd h (by omega))
  refine g_iconst (pc := 118) (v := 4294967295) dX5_count_118 (by decide +kernel) ?_
  exact g_iret (pc := 119) dX5_count_119 ⟨mg_narI _, Or.inl rfl⟩ ⟨rfl, rfl⟩
/-- X4_count(r4.0, a[7,2147483647]) at qms6 -/
theorem qa359 (l : Launch) {D : va_G} {E : mg_E} {B : Nat} (a : Nat) (h_a : 7 ≤ a) (k_a : a ≤ 2147483647) : mg_C l (D, E, true, B) mX4_count [rv (D, E, true, B) 4 0, iv a] qms6 (fun v g' => v = some 4294967295 ∧ g' = qms6) := by
  refine mg_C.of (by decide) rfl (Nat.le_of_ble_eq_true rfl) (List.forall_mem_cons.mpr ⟨rfl, (List.forall_mem_cons.mpr ⟨rfl, (fun _ h => nomatch h)⟩)⟩) (fun K => ?_)
  refine g_iload_n (pc := 0) dX4_count_0 rfl ?_
  refine g_switchOut (pc := 1) 135 dX4_count_1 (by omega) (Or.inr (by have q := mg_sgs (a := a) (by omega); omega)) (by decide) ?_
  refine g_iconst (pc := 135) (v := 4294967295) dX4_count_135 (by decide +kernel) ?_
  exact g_iret (pc := 136) dX4_count_136 ⟨mg_narI _, Or.inl rfl⟩ ⟨rfl, rfl⟩
/-- X5_count(r5.0, a[7,2147483647]) at qms6 -/
theorem qa360 (l : Launch) {D : va_G} {E : mg_E} {B : Nat} (a : Nat) (h_a : 7 ≤ a) (k_a : a ≤ 2147483647) : mg_C l (D, E, true, B) mX5_count [rv (D, E, true, B) 5 0, iv a] qms6 (fun v g' => v = some 4294967295 ∧ g' = qms6) := by
  refine mg_C.of (by decide) rfl (Nat.le_of_ble_eq_true rfl) (List.forall_mem_cons.mpr ⟨rfl, (List.forall_mem_cons.mpr ⟨rfl, (fun _ h => nomatch h)⟩)⟩) (fun K => ?_)
  refine g_iload_n (pc := 0) dX5_count_0 rfl ?_
  refine g_if_ne (pc := 1) 9 dX5_count_1 (by decide) (by omega) (fun _ => ?_) (fun h => absurd h (by omega))
  refine g_iload_n (pc := 9) dX5_count_9 rfl ?_
  refine g_iconst (pc := 10) (v := 1) dX5_count_10 (by decide +kernel) ?_
  refine g_icmp_ne (pc := 11) 19 dX5_count_11 (by decide) (by omega) (by decide) (fun _ => ?_) (fun h => absurd h (by omega))
  refine g_iload_n (pc := 19) dX5_count_19 rfl ?_
  refine g_iconst (pc := 20) (v := 5) dX5_count_20 (by decide +kernel) ?_
  refine g_icmp_ne (pc := 21) 29 dX5_count_21 (by decide) (by omega) (by decide) (fun _ => ?_) (fun h => absurd h (by omega))
  refine g_aload_n (pc := 29) dX5_count_29 rfl ?_
  refine fg_X5_count_105 (pc := 30) (by rfl) dX5_count_30 ?_
  refine g_top (b := 1) (by decide +kernel) ?_
  refine g_if_ne (pc := 33) 38 dX5_count_33 (by decide) (by decide) (fun _ => ?_) (fun h => absurd h (by decide))
  refine g_bipush (pc := 38) (v := 4294967294) dX5_count_38 (by decide +kernel) ?_
  refine g_istore_n (pc := 40) (ls' := [rv (D, E, true, B) 5 0, iv a, iv 4294967294]) dX5_count_40 (Nat.le_of_ble_eq_true rfl) (Nat.le_of_ble_eq_true rfl) rfl ?_
  refine g_iconst (pc := 41) (v := 0) dX5_count_41 (by decide +kernel) ?_
  refine g_istore_n (pc := 42) (ls' := [rv (D, E, true, B) 5 0, iv a, iv 4294967294, iv 0]) dX5_count_42 (Nat.le_of_ble_eq_true rfl) (Nat.le_of_ble_eq_true rfl) rfl ?_
  refine g_iload_n (pc := 43) dX5_count_43 rfl ?_
  refine g_aload_n (pc := 44) dX5_count_44 rfl ?_
  refine fg_X5_count_101 (pc := 45) (by rfl) dX5_count_45 ?_
  refine g_top (b := 2) (by decide +kernel) ?_
  refine g_icmp_ge (pc := 48) 72 dX5_count_48 (by decide) (by decide) (by decide) (fun h => absurd h (by decide)) (fun _ => ?_)
  refine g_aload_n (pc := 51) dX5_count_51 rfl ?_
  refine fg_X5_count_20 (pc := 52) (by rfl) dX5_count_52 ?_
  refine g_iload_n (pc := 55) dX5_count_55 rfl ?_
  refine g_baload (pc := 56) (k := 38) (i := 0) (n := 24) (show 0 < 1 by omega) rfl (by decide) (by decide) dX5_count_56 ?_
  refine g_top (b := 0) (by decide +kernel) ?_
  refine g_if_eq (pc := 57) 64 dX5_count_57 (by decide) (by decide) (fun _ => ?_) (fun h => absurd (by decide) h)
  refine g_iload_n (pc := 64) dX5_count_64 rfl ?_
  refine g_istore_n (pc := 65) (ls' := [rv (D, E, true, B) 5 0, iv a, iv 4294967294, iv 0]) dX5_count_65 (Nat.le_of_ble_eq_true rfl) (Nat.le_of_ble_eq_true rfl) rfl ?_
  refine g_iinc (pc := 66) (v := 1) (ls' := [rv (D, E, true, B) 5 0, iv a, iv 4294967294, iv 1]) dX5_count_66 (Nat.le_of_ble_eq_true rfl) rfl (by decide +kernel) rfl ?_
  refine g_goto (pc := 69) 43 dX5_count_69 (by decide) ?_
  refine g_iload_n (pc := 43) dX5_count_43 rfl ?_
  refine g_aload_n (pc := 44) dX5_count_44 rfl ?_
  refine fg_X5_count_101 (pc := 45) (by rfl) dX5_count_45 ?_
  refine g_top (b := 2) (by decide +kernel) ?_
  refine g_icmp_ge (pc := 48) 72 dX5_count_48 (by decide) (by decide) (by decide) (fun h => absurd h (by decide)) (fun _ => ?_)
  refine g_aload_n (pc := 51) dX5_count_51 rfl ?_
  refine fg_X5_count_20 (pc := 52) (by rfl) dX5_count_52 ?_
  refine g_iload_n (pc := 55) dX5_count_55 rfl ?_
  refine g_baload (pc := 56) (k := 38) (i := 0) (n := 24) (show 0 < 1 by omega) rfl (by decide) (by decide) dX5_count_56 ?_
  refine g_top (b := 0) (by decide +kernel) ?_
  refine g_if_eq (pc := 57) 64 dX5_count_57 (by decide) (by decide) (fun _ => ?_) (fun h => absurd (by decide) h)
  refine g_iload_n (pc := 64) dX5_count_64 rfl ?_
  refine g_istore_n (pc := 65) (ls' := [rv (D, E, true, B) 5 0, iv a, iv 4294967294, iv 1]) dX5_count_65 (Nat.le_of_ble_eq_true rfl) (Nat.le_of_ble_eq_true rfl) rfl ?_
  refine g_iinc (pc := 66) (v := 2) (ls' := [rv (D, E, true, B) 5 0, iv a, iv 4294967294, iv 2]) dX5_count_66 (Nat.le_of_ble_eq_true rfl) rfl (by decide +kernel) rfl ?_
  refine g_goto (pc := 69) 43 dX5_count_69 (by decide) ?_
  refine g_iload_n (pc := 43) dX5_count_43 rfl ?_
  refine g_aload_n (pc := 44) dX5_count_44 rfl ?_
  refine fg_X5_count_101 (pc := 45) (by rfl) dX5_count_45 ?_
  refine g_top (b := 2) (by decide +kernel) ?_
  refine g_icmp_ge (pc := 48) 72 dX5_count_48 (by decide) (by decide) (by decide) (fun _ => ?_) (fun h => absurd (by decide) h)
  refine g_iload_n (pc := 72) dX5_count_72 rfl ?_
  refine g_iconst (pc := 73) (v := 2) dX5_count_73 (by decide +kernel) ?_
  refine g_icmp_ne (pc := 74) 84 dX5_count_74 (by decide) (by omega) (by decide) (fun _ => ?_) (fun h => absurd h (by omega))
  refine g_iload_n (pc := 84) dX5_count_84 rfl ?_
  refine g_iconst (pc := 85) (v := 3) dX5_count_85 (by decide +kernel) ?_
  refine g_icmp_ne (pc := 86) 93 dX5_count_86 (by decide) (by omega) (by decide) (fun _ => ?_) (fun h => absurd h (by omega))
  refine g_iload_n (pc := 93) dX5_count_93 rfl ?_
  refine g_iconst (pc := 94) (v := 4) dX5_count_94 (by decide +kernel) ?_
  refine g_icmp_ne (pc := 95) 105 dX5_count_95 (by decide) (by omega) (by decide) (fun _ => ?_) (fun h => absurd h (by omega))
  refine g_iload_n (pc := 105) dX5_count_105 rfl ?_
  refine g_bipush (pc := 106) (v := 6) dX5_count_106 (by decide +kernel) ?_
  refine g_icmp_ne (pc := 108) 118 dX5_count_108 (by decide) (by omega) (by decide) (fun _ => ?_) (fun h => absurd h (by omega))
  refine g_iconst (pc := 118) (v := 4294967295) dX5_count_118 (by decide +kernel) ?_
  exact g_iret (pc := 119) dX5_count_119 ⟨mg_narI _, Or.inl rfl⟩ ⟨rfl, rfl⟩
