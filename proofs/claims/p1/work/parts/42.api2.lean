/-- X5_firstLetter(r5.0, 1) at qms6 -/
theorem qa127 (l : Launch) {D : va_G} {E : mg_E} {B : Nat} : mg_C l (D, E, true, B) mX5_firstLetter [rv (D, E, true, B) 5 0, iv 1] qms6 (fun v g' => v = some 4294967295 ∧ g' = qms6) := by
  refine mg_C.of (by decide) rfl (Nat.le_of_ble_eq_true rfl) (List.forall_mem_cons.mpr ⟨rfl, (List.forall_mem_cons.mpr ⟨rfl, (fun _ h => nomatch h)⟩)⟩) (fun K => ?_)
  refine g_iconst (pc := 0) (v := 4294967295) dX5_firstLetter_0 (by decide +kernel) ?_
  refine g_istore_n (pc := 1) (ls' := [rv (D, E, true, B) 5 0, iv 1, iv 4294967295]) dX5_firstLetter_1 (Nat.le_of_ble_eq_true rfl) (Nat.le_of_ble_eq_true rfl) rfl ?_
  refine g_aload_n (pc := 2) dX5_firstLetter_2 rfl ?_
  refine fg_X5_firstLetter_133 (pc := 3) (by rfl) dX5_firstLetter_3 ?_
  refine g_top (b := 0) (by decide +kernel) ?_
  refine g_iconst (pc := 6) (v := 1) dX5_firstLetter_6 (by decide +kernel) ?_
  refine g_isubw (pc := 7) (c := 4294967295) (by decide +kernel) dX5_firstLetter_7 ?_
  refine g_istore_n (pc := 8) (ls' := [rv (D, E, true, B) 5 0, iv 1, iv 4294967295, iv 4294967295]) dX5_firstLetter_8 (Nat.le_of_ble_eq_true rfl) (Nat.le_of_ble_eq_true rfl) rfl ?_
  refine g_iload_n (pc := 9) dX5_firstLetter_9 rfl ?_
  refine g_sif_lt (pc := 10) 35 dX5_firstLetter_10 (by decide) (by decide) (fun _ => ?_) (fun h => absurd (by decide) h)
  refine g_iload_n (pc := 35) dX5_firstLetter_35 rfl ?_
  exact g_iret (pc := 36) dX5_firstLetter_36 ⟨mg_narI _, Or.inl rfl⟩ ⟨rfl, rfl⟩
/-- X5_sendFirst(r5.0, 1) at qms6 -/
theorem qa128 (l : Launch) {D : va_G} {E : mg_E} {B : Nat} : mg_C l (D, E, true, B) mX5_sendFirst [rv (D, E, true, B) 5 0, iv 1] qms6 (fun v g' => v = none ∧ g' = qms6) := by
  refine mg_C.of (by decide) rfl (Nat.le_of_ble_eq_true rfl) (List.forall_mem_cons.mpr ⟨rfl, (List.forall_mem_cons.mpr ⟨rfl, (fun _ h => nomatch h)⟩)⟩) (fun K => ?_)
  refine g_aload_n (pc := 0) dX5_sendFirst_0 rfl ?_
  refine g_iload_n (pc := 1) dX5_sendFirst_1 rfl ?_
  refine g_callVi (pc := 2) (Y' := mX5_firstLetter) (As := [iv 1]) (st := []) (k := 5) (i := 0) (qa127 K.2.1) gX5_sendFirst_X5_firstLetter rfl (show 0 < 1 by omega) rfl rfl (na := 1) rfl (by decide +kernel) (by decide) (by decide) (Nat.le_of_ble_eq_true rfl) dX5_sendFirst_2 (fun r1 g1 hp => ?_)
  obtain ⟨h1, rfl⟩ := hp
  cases h1
  refine g_istore_n (pc := 5) (ls' := [rv (D, E, true, B) 5 0, iv 1, iv 4294967295]) dX5_sendFirst_5 (Nat.le_of_ble_eq_true rfl) (Nat.le_of_ble_eq_true rfl) rfl ?_
  refine g_iload_n (pc := 6) dX5_sendFirst_6 rfl ?_
  refine g_sif_lt (pc := 7) 33 dX5_sendFirst_7 (by decide) (by decide) (fun _ => ?_) (fun h => absurd (by decide) h)
  exact g_ret (pc := 33) dX5_sendFirst_33 trivial ⟨rfl, rfl⟩
/-- X5_resend(r5.0, 0) at qms6 -/
theorem qa129 (l : Launch) {D : va_G} {E : mg_E} {B : Nat} : mg_C l (D, E, true, B) mX5_resend [rv (D, E, true, B) 5 0, iv 0] qms6 (fun v g' => v = some 0 ∧ g' = qms6) := by
  refine mg_C.of (by decide) rfl (Nat.le_of_ble_eq_true rfl) (List.forall_mem_cons.mpr ⟨rfl, (List.forall_mem_cons.mpr ⟨rfl, (fun _ h => nomatch h)⟩)⟩) (fun K => ?_)
  refine g_aload_n (pc := 0) dX5_resend_0 rfl ?_
  refine g_iload_n (pc := 1) dX5_resend_1 rfl ?_
  refine g_callVi (pc := 2) (Y' := mX5_isUp) (As := [iv 0]) (st := []) (k := 5) (i := 0) (qa33 K.2.1) gX5_resend_X5_isUp rfl (show 0 < 1 by omega) rfl rfl (na := 1) rfl (by decide +kernel) (by decide) (by decide) (Nat.le_of_ble_eq_true rfl) dX5_resend_2 (fun r1 g1 hp => ?_)
  obtain ⟨h1, rfl⟩ := hp
  cases h1
  refine g_if_ne (pc := 5) 10 dX5_resend_5 (by decide) (by decide) (fun _ => ?_) (fun h => absurd h (by decide))
  refine g_iconst (pc := 10) (v := 0) dX5_resend_10 (by decide +kernel) ?_
  refine g_istore_n (pc := 11) (ls' := [rv (D, E, true, B) 5 0, iv 0, iv 0]) dX5_resend_11 (Nat.le_of_ble_eq_true rfl) (Nat.le_of_ble_eq_true rfl) rfl ?_
  refine g_iload_n (pc := 12) dX5_resend_12 rfl ?_
  refine g_aload_n (pc := 13) dX5_resend_13 rfl ?_
  refine fg_X5_resend_101 (pc := 14) (by rfl) dX5_resend_14 ?_
  refine g_top (b := 2) (by decide +kernel) ?_
  refine g_icmp_ge (pc := 17) 36 dX5_resend_17 (by decide) (by decide) (by decide) (fun h => absurd h (by decide)) (fun _ => ?_)
  refine g_aload_n (pc := 20) dX5_resend_20 rfl ?_
  refine g_bipush (pc := 21) (v := 24) dX5_resend_21 (by decide +kernel) ?_
  refine g_iload_n (pc := 23) dX5_resend_23 rfl ?_
  refine g_imul (pc := 24) dX5_resend_24 ?_
  refine g_top (b := 0) (by decide +kernel) ?_
  refine g_iload_n (pc := 25) dX5_resend_25 rfl ?_
  refine g_iadd (pc := 26) dX5_resend_26 ?_
  refine g_top (b := 0) (by decide +kernel) ?_
  refine g_callVv (pc := 27) (Y' := mX5_sendFirst) (As := [iv 0]) (st := []) (k := 5) (i := 0) (qa126 K.2.1) gX5_resend_X5_sendFirst rfl (show 0 < 1 by omega) rfl rfl (na := 1) rfl (by decide +kernel) (by decide) (by decide) (Nat.le_of_ble_eq_true rfl) dX5_resend_27 (fun g1 hp => ?_)
  obtain ⟨-, rfl⟩ := hp
  refine g_iinc (pc := 30) (v := 1) (ls' := [rv (D, E, true, B) 5 0, iv 0, iv 1]) dX5_resend_30 (Nat.le_of_ble_eq_true rfl) rfl (by decide +kernel) rfl ?_
  refine g_goto (pc := 33) 12 dX5_resend_33 (by decide) ?_
  refine g_iload_n (pc := 12) dX5_resend_12 rfl ?_
  refine g_aload_n (pc := 13) dX5_resend_13 rfl ?_
  refine fg_X5_resend_101 (pc := 14) (by rfl) dX5_resend_14 ?_
  refine g_top (b := 2) (by decide +kernel) ?_
  refine g_icmp_ge (pc := 17) 36 dX5_resend_17 (by decide) (by decide) (by decide) (fun h => absurd h (by decide)) (fun _ => ?_)
  refine g_aload_n (pc := 20) dX5_resend_20 rfl ?_
  refine g_bipush (pc := 21) (v := 24) dX5_resend_21 (by decide +kernel) ?_
  refine g_iload_n (pc := 23) dX5_resend_23 rfl ?_
  refine g_imul (pc := 24) dX5_resend_24 ?_
  refine g_top (b := 0) (by decide +kernel) ?_
  refine g_iload_n (pc := 25) dX5_resend_25 rfl ?_
  refine g_iadd (pc := 26) dX5_resend_26 ?_
  refine g_top (b := 1) (by decide +kernel) ?_
  refine g_callVv (pc := 27) (Y' := mX5_sendFirst) (As := [iv 1]) (st := []) (k := 5) (i := 0) (qa128 K.2.1) gX5_resend_X5_sendFirst rfl (show 0 < 1 by omega) rfl rfl (na := 1) rfl (by decide +kernel) (by decide) (by decide) (Nat.le_of_ble_eq_true rfl) dX5_resend_27 (fun g1 hp => ?_)
  obtain ⟨-, rfl⟩ := hp
  refine g_iinc (pc := 30) (v := 2) (ls' := [rv (D, E, true, B) 5 0, iv 0, iv 2]) dX5_resend_30 (Nat.le_of_ble_eq_true rfl) rfl (by decide +kernel) rfl ?_
  refine g_goto (pc := 33) 12 dX5_resend_33 (by decide) ?_
  refine g_iload_n (pc := 12) dX5_resend_12 rfl ?_
  refine g_aload_n (pc := 13) dX5_resend_13 rfl ?_
  refine fg_X5_resend_101 (pc := 14) (by rfl) dX5_resend_14 ?_
  refine g_top (b := 2) (by decide +kernel) ?_
  refine g_icmp_ge (pc := 17) 36 dX5_resend_17 (by decide) (by decide) (by decide) (fun _ => ?_) (fun h => absurd (by decide) h)
  refine g_aload_n (pc := 36) dX5_resend_36 rfl ?_
  refine fg_X5_resend_136 (pc := 37) (by rfl) dX5_resend_37 ?_
  refine g_top (b := 0) (by decide +kernel) ?_
  exact g_iret (pc := 40) dX5_resend_40 ⟨mg_narI _, Or.inl rfl⟩ ⟨rfl, rfl⟩
/-- X1_firstBetween(r1.0, 1, 0) at qms6 -/
theorem qa130 (l : Launch) {D : va_G} {E : mg_E} {B : Nat} : mg_C l (D, E, true, B) mX1_firstBetween [rv (D, E, true, B) 1 0, iv 1, iv 0] qms6 (fun v g' => v = some 4294967294 ∧ g' = qms6) := by
  refine mg_C.of (by decide) rfl (Nat.le_of_ble_eq_true rfl) (List.forall_mem_cons.mpr ⟨rfl, (List.forall_mem_cons.mpr ⟨rfl, (List.forall_mem_cons.mpr ⟨rfl, (fun _ h => nomatch h)⟩)⟩)⟩) (fun K => ?_)
  refine g_iconst (pc := 0) (v := 0) dX1_firstBetween_0 (by decide +kernel) ?_
  refine g_istore_n (pc := 1) (ls' := [rv (D, E, true, B) 1 0, iv 1, iv 0, iv 0]) dX1_firstBetween_1 (Nat.le_of_ble_eq_true rfl) (Nat.le_of_ble_eq_true rfl) rfl ?_
  refine g_iload_n (pc := 2) dX1_firstBetween_2 rfl ?_
  refine g_aload_n (pc := 3) dX1_firstBetween_3 rfl ?_
  refine fg_X1_firstBetween_27 (pc := 4) (show 0 < 2 by omega) dX1_firstBetween_4 ?_
  refine g_top (b := 0) (by decide +kernel) ?_
  refine g_icmp_ge (pc := 7) 38 dX1_firstBetween_7 (by decide) (by decide) (by decide) (fun _ => ?_) (fun h => absurd (by decide) h)
  refine g_bipush (pc := 38) (v := 4294967294) dX1_firstBetween_38 (by decide +kernel) ?_
  exact g_iret (pc := 40) dX1_firstBetween_40 ⟨mg_narI _, Or.inl rfl⟩ ⟨rfl, rfl⟩
/-- X4_copyFirst(r4.0, 1, 0) at qms6 -/
theorem qa131 (l : Launch) {D : va_G} {E : mg_E} {B : Nat} : mg_C l (D, E, true, B) mX4_copyFirst [rv (D, E, true, B) 4 0, iv 1, iv 0] qms6 (fun v g' => v = none ∧ g' = qms6) := by
  refine mg_C.of (by decide) rfl (Nat.le_of_ble_eq_true rfl) (List.forall_mem_cons.mpr ⟨rfl, (List.forall_mem_cons.mpr ⟨rfl, (List.forall_mem_cons.mpr ⟨rfl, (fun _ h => nomatch h)⟩)⟩)⟩) (fun K => ?_)
  refine g_aload_n (pc := 0) dX4_copyFirst_0 rfl ?_
  refine fg_X4_copyFirst_27 (pc := 1) dX4_copyFirst_1 ?_
  refine g_iload_n (pc := 4) dX4_copyFirst_4 rfl ?_
  refine g_iload_n (pc := 5) dX4_copyFirst_5 rfl ?_
  refine g_callVi (pc := 6) (Y' := mX1_firstBetween) (As := [iv 1, iv 0]) (st := []) (k := 1) (i := 0) (qa130 K.2.1) gX4_copyFirst_X1_firstBetween rfl (show 0 < 2 by omega) rfl rfl (na := 2) rfl (by decide +kernel) (by decide) (by decide) (Nat.le_of_ble_eq_true rfl) dX4_copyFirst_6 (fun r1 g1 hp => ?_)
  obtain ⟨h1, rfl⟩ := hp
  cases h1
  refine g_istore_n (pc := 9) (ls' := [rv (D, E, true, B) 4 0, iv 1, iv 0, iv 4294967294]) dX4_copyFirst_9 (Nat.le_of_ble_eq_true rfl) (Nat.le_of_ble_eq_true rfl) rfl ?_
  refine g_iload_n (pc := 10) dX4_copyFirst_10 rfl ?_
  refine g_bipush (pc := 11) (v := 4294967294) dX4_copyFirst_11 (by decide +kernel) ?_
  refine g_icmp_eq (pc := 13) 28 dX4_copyFirst_13 (by decide) (by decide) (by decide) (fun _ => ?_) (fun h => absurd (by decide) h)
  exact g_ret (pc := 28) dX4_copyFirst_28 trivial ⟨rfl, rfl⟩
/-- X1_firstBetween(r1.0, 1, 1) at qms6 -/
theorem qa132 (l : Launch) {D : va_G} {E : mg_E} {B : Nat} : mg_C l (D, E, true, B) mX1_firstBetween [rv (D, E, true, B) 1 0, iv 1, iv 1] qms6 (fun v g' => v = some 4294967294 ∧ g' = qms6) := by
  refine mg_C.of (by decide) rfl (Nat.le_of_ble_eq_true rfl) (List.forall_mem_cons.mpr ⟨rfl, (List.forall_mem_cons.mpr ⟨rfl, (List.forall_mem_cons.mpr ⟨rfl, (fun _ h => nomatch h)⟩)⟩)⟩) (fun K => ?_)
  refine g_iconst (pc := 0) (v := 0) dX1_firstBetween_0 (by decide +kernel) ?_
  refine g_istore_n (pc := 1) (ls' := [rv (D, E, true, B) 1 0, iv 1, iv 1, iv 0]) dX1_firstBetween_1 (Nat.le_of_ble_eq_true rfl) (Nat.le_of_ble_eq_true rfl) rfl ?_
  refine g_iload_n (pc := 2) dX1_firstBetween_2 rfl ?_
  refine g_aload_n (pc := 3) dX1_firstBetween_3 rfl ?_
  refine fg_X1_firstBetween_27 (pc := 4) (show 0 < 2 by omega) dX1_firstBetween_4 ?_
  refine g_top (b := 0) (by decide +kernel) ?_
  refine g_icmp_ge (pc := 7) 38 dX1_firstBetween_7 (by decide) (by decide) (by decide) (fun _ => ?_) (fun h => absurd (by decide) h)
  refine g_bipush (pc := 38) (v := 4294967294) dX1_firstBetween_38 (by decide +kernel) ?_
  exact g_iret (pc := 40) dX1_firstBetween_40 ⟨mg_narI _, Or.inl rfl⟩ ⟨rfl, rfl⟩
/-- X4_copyFirst(r4.0, 1, 1) at qms6 -/
theorem qa133 (l : Launch) {D : va_G} {E : mg_E} {B : Nat} : mg_C l (D, E, true, B) mX4_copyFirst [rv (D, E, true, B) 4 0, iv 1, iv 1] qms6 (fun v g' => v = none ∧ g' = qms6) := by
  refine mg_C.of (by decide) rfl (Nat.le_of_ble_eq_true rfl) (List.forall_mem_cons.mpr ⟨rfl, (List.forall_mem_cons.mpr ⟨rfl, (List.forall_mem_cons.mpr ⟨rfl, (fun _ h => nomatch h)⟩)⟩)⟩) (fun K => ?_)
  refine g_aload_n (pc := 0) dX4_copyFirst_0 rfl ?_
  refine fg_X4_copyFirst_27 (pc := 1) dX4_copyFirst_1 ?_
  refine g_iload_n (pc := 4) dX4_copyFirst_4 rfl ?_
  refine g_iload_n (pc := 5) dX4_copyFirst_5 rfl ?_
  refine g_callVi (pc := 6) (Y' := mX1_firstBetween) (As := [iv 1, iv 1]) (st := []) (k := 1) (i := 0) (qa132 K.2.1) gX4_copyFirst_X1_firstBetween rfl (show 0 < 2 by omega) rfl rfl (na := 2) rfl (by decide +kernel) (by decide) (by decide) (Nat.le_of_ble_eq_true rfl) dX4_copyFirst_6 (fun r1 g1 hp => ?_)
  obtain ⟨h1, rfl⟩ := hp
  cases h1
  refine g_istore_n (pc := 9) (ls' := [rv (D, E, true, B) 4 0, iv 1, iv 1, iv 4294967294]) dX4_copyFirst_9 (Nat.le_of_ble_eq_true rfl) (Nat.le_of_ble_eq_true rfl) rfl ?_
  refine g_iload_n (pc := 10) dX4_copyFirst_10 rfl ?_
  refine g_bipush (pc := 11) (v := 4294967294) dX4_copyFirst_11 (by decide +kernel) ?_
  refine g_icmp_eq (pc := 13) 28 dX4_copyFirst_13 (by decide) (by decide) (by decide) (fun _ => ?_) (fun h => absurd (by decide) h)
  exact g_ret (pc := 28) dX4_copyFirst_28 trivial ⟨rfl, rfl⟩
/-- X4_resend(r4.0, 1) at qms6 -/
theorem qa134 (l : Launch) {D : va_G} {E : mg_E} {B : Nat} : mg_C l (D, E, true, B) mX4_resend [rv (D, E, true, B) 4 0, iv 1] qms6 (fun v g' => v = some 0 ∧ g' = qms6) := by
  refine mg_C.of (by decide) rfl (Nat.le_of_ble_eq_true rfl) (List.forall_mem_cons.mpr ⟨rfl, (List.forall_mem_cons.mpr ⟨rfl, (fun _ h => nomatch h)⟩)⟩) (fun K => ?_)
  refine g_aload_n (pc := 0) dX4_resend_0 rfl ?_
  refine g_iload_n (pc := 1) dX4_resend_1 rfl ?_
  refine g_callVi (pc := 2) (Y' := mX4_isUp) (As := [iv 1]) (st := []) (k := 4) (i := 0) (qa51 K.2.1) gX4_resend_X4_isUp rfl (show 0 < 1 by omega) rfl rfl (na := 1) rfl (by decide +kernel) (by decide) (by decide) (Nat.le_of_ble_eq_true rfl) dX4_resend_2 (fun r1 g1 hp => ?_)
  obtain ⟨h1, rfl⟩ := hp
  cases h1
  refine g_if_ne (pc := 5) 10 dX4_resend_5 (by decide) (by decide) (fun _ => ?_) (fun h => absurd h (by decide))
  refine g_iconst (pc := 10) (v := 0) dX4_resend_10 (by decide +kernel) ?_
  refine g_istore_n (pc := 11) (ls' := [rv (D, E, true, B) 4 0, iv 1, iv 0]) dX4_resend_11 (Nat.le_of_ble_eq_true rfl) (Nat.le_of_ble_eq_true rfl) rfl ?_
  refine g_iload_n (pc := 12) dX4_resend_12 rfl ?_
  refine g_aload_n (pc := 13) dX4_resend_13 rfl ?_
  refine fg_X4_resend_10 (pc := 14) dX4_resend_14 ?_
  refine fg_X4_resend_229 (pc := 17) dX4_resend_17 ?_
  refine g_top (b := 2) (by decide +kernel) ?_
  refine g_icmp_ge (pc := 20) 35 dX4_resend_20 (by decide) (by decide) (by decide) (fun h => absurd h (by decide)) (fun _ => ?_)
  refine g_aload_n (pc := 23) dX4_resend_23 rfl ?_
  refine g_iload_n (pc := 24) dX4_resend_24 rfl ?_
  refine g_iload_n (pc := 25) dX4_resend_25 rfl ?_
  refine g_callVv (pc := 26) (Y' := mX4_copyFirst) (As := [iv 1, iv 0]) (st := []) (k := 4) (i := 0) (qa131 K.2.1) gX4_resend_X4_copyFirst rfl (show 0 < 1 by omega) rfl rfl (na := 2) rfl (by decide +kernel) (by decide) (by decide) (Nat.le_of_ble_eq_true rfl) dX4_resend_26 (fun g1 hp => ?_)
  obtain ⟨-, rfl⟩ := hp
  refine g_iinc (pc := 29) (v := 1) (ls' := [rv (D, E, true, B) 4 0, iv 1, iv 1]) dX4_resend_29 (Nat.le_of_ble_eq_true rfl) rfl (by decide +kernel) rfl ?_
  refine g_goto (pc := 32) 12 dX4_resend_32 (by decide) ?_
  refine g_iload_n (pc := 12) dX4_resend_12 rfl ?_
  refine g_aload_n (pc := 13) dX4_resend_13 rfl ?_
  refine fg_X4_resend_10 (pc := 14) dX4_resend_14 ?_
  refine fg_X4_resend_229 (pc := 17) dX4_resend_17 ?_
  refine g_top (b := 2) (by decide +kernel) ?_
  refine g_icmp_ge (pc := 20) 35 dX4_resend_20 (by decide) (by decide) (by decide) (fun h => absurd h (by decide)) (fun _ => ?_)
  refine g_aload_n (pc := 23) dX4_resend_23 rfl ?_
  refine g_iload_n (pc := 24) dX4_resend_24 rfl ?_
  refine g_iload_n (pc := 25) dX4_resend_25 rfl ?_
  refine g_callVv (pc := 26) (Y' := mX4_copyFirst) (As := [iv 1, iv 1]) (st := []) (k := 4) (i := 0) (qa133 K.2.1) gX4_resend_X4_copyFirst rfl (show 0 < 1 by omega) rfl rfl (na := 2) rfl (by decide +kernel) (by decide) (by decide) (Nat.le_of_ble_eq_true rfl) dX4_resend_26 (fun g1 hp => ?_)
  obtain ⟨-, rfl⟩ := hp
  refine g_iinc (pc := 29) (v := 2) (ls' := [rv (D, E, true, B) 4 0, iv 1, iv 2]) dX4_resend_29 (Nat.le_of_ble_eq_true rfl) rfl (by decide +kernel) rfl ?_
  refine g_goto (pc := 32) 12 dX4_resend_32 (by decide) ?_
  refine g_iload_n (pc := 12) dX4_resend_12 rfl ?_
  refine g_aload_n (pc := 13) dX4_resend_13 rfl ?_
  refine fg_X4_resend_10 (pc := 14) dX4_resend_14 ?_
  refine fg_X4_resend_229 (pc := 17) dX4_resend_17 ?_
  refine g_top (b := 2) (by decide +kernel) ?_
  refine g_icmp_ge (pc := 20) 35 dX4_resend_20 (by decide) (by decide) (by decide) (fun _ => ?_) (fun h => absurd (by decide) h)
  refine g_aload_n (pc := 35) dX4_resend_35 rfl ?_
  refine fg_X4_resend_31 (pc := 36) dX4_resend_36 ?_
  refine fg_X4_resend_94 (pc := 39) (show 1 < 2 by omega) dX4_resend_39 ?_
  refine g_top (b := 0) (by decide +kernel) ?_
  exact g_iret (pc := 42) dX4_resend_42 ⟨mg_narI _, Or.inl rfl⟩ ⟨rfl, rfl⟩
/-- X5_firstLetter(r5.0, 24) at qms6 -/
theorem qa135 (l : Launch) {D : va_G} {E : mg_E} {B : Nat} : mg_C l (D, E, true, B) mX5_firstLetter [rv (D, E, true, B) 5 0, iv 24] qms6 (fun v g' => v = some 4294967295 ∧ g' = qms6) := by
  refine mg_C.of (by decide) rfl (Nat.le_of_ble_eq_true rfl) (List.forall_mem_cons.mpr ⟨rfl, (List.forall_mem_cons.mpr ⟨rfl, (fun _ h => nomatch h)⟩)⟩) (fun K => ?_)
  refine g_iconst (pc := 0) (v := 4294967295) dX5_firstLetter_0 (by decide +kernel) ?_
  refine g_istore_n (pc := 1) (ls' := [rv (D, E, true, B) 5 0, iv 24, iv 4294967295]) dX5_firstLetter_1 (Nat.le_of_ble_eq_true rfl) (Nat.le_of_ble_eq_true rfl) rfl ?_
  refine g_aload_n (pc := 2) dX5_firstLetter_2 rfl ?_
  refine fg_X5_firstLetter_133 (pc := 3) (by rfl) dX5_firstLetter_3 ?_
  refine g_top (b := 0) (by decide +kernel) ?_
  refine g_iconst (pc := 6) (v := 1) dX5_firstLetter_6 (by decide +kernel) ?_
  refine g_isubw (pc := 7) (c := 4294967295) (by decide +kernel) dX5_firstLetter_7 ?_
  refine g_istore_n (pc := 8) (ls' := [rv (D, E, true, B) 5 0, iv 24, iv 4294967295, iv 4294967295]) dX5_firstLetter_8 (Nat.le_of_ble_eq_true rfl) (Nat.le_of_ble_eq_true rfl) rfl ?_
  refine g_iload_n (pc := 9) dX5_firstLetter_9 rfl ?_
  refine g_sif_lt (pc := 10) 35 dX5_firstLetter_10 (by decide) (by decide) (fun _ => ?_) (fun h => absurd (by decide) h)
  refine g_iload_n (pc := 35) dX5_firstLetter_35 rfl ?_
  exact g_iret (pc := 36) dX5_firstLetter_36 ⟨mg_narI _, Or.inl rfl⟩ ⟨rfl, rfl⟩
/-- X5_sendFirst(r5.0, 24) at qms6 -/
theorem qa136 (l : Launch) {D : va_G} {E : mg_E} {B : Nat} : mg_C l (D, E, true, B) mX5_sendFirst [rv (D, E, true, B) 5 0, iv 24] qms6 (fun v g' => v = none ∧ g' = qms6) := by
  refine mg_C.of (by decide) rfl (Nat.le_of_ble_eq_true rfl) (List.forall_mem_cons.mpr ⟨rfl, (List.forall_mem_cons.mpr ⟨rfl, (fun _ h => nomatch h)⟩)⟩) (fun K => ?_)
  refine g_aload_n (pc := 0) dX5_sendFirst_0 rfl ?_
  refine g_iload_n (pc := 1) dX5_sendFirst_1 rfl ?_
  refine g_callVi (pc := 2) (Y' := mX5_firstLetter) (As := [iv 24]) (st := []) (k := 5) (i := 0) (qa135 K.2.1) gX5_sendFirst_X5_firstLetter rfl (show 0 < 1 by omega) rfl rfl (na := 1) rfl (by decide +kernel) (by decide) (by decide) (Nat.le_of_ble_eq_true rfl) dX5_sendFirst_2 (fun r1 g1 hp => ?_)
  obtain ⟨h1, rfl⟩ := hp
  cases h1
  refine g_istore_n (pc := 5) (ls' := [rv (D, E, true, B) 5 0, iv 24, iv 4294967295]) dX5_sendFirst_5 (Nat.le_of_ble_eq_true rfl) (Nat.le_of_ble_eq_true rfl) rfl ?_
  refine g_iload_n (pc := 6) dX5_sendFirst_6 rfl ?_
  refine g_sif_lt (pc := 7) 33 dX5_sendFirst_7 (by decide) (by decide) (fun _ => ?_) (fun h => absurd (by decide) h)
  exact g_ret (pc := 33) dX5_sendFirst_33 trivial ⟨rfl, rfl⟩
/-- X5_firstLetter(r5.0, 25) at qms6 -/
theorem qa137 (l : Launch) {D : va_G} {E : mg_E} {B : Nat} : mg_C l (D, E, true, B) mX5_firstLetter [rv (D, E, true, B) 5 0, iv 25] qms6 (fun v g' => v = some 4294967295 ∧ g' = qms6) := by
  refine mg_C.of (by decide) rfl (Nat.le_of_ble_eq_true rfl) (List.forall_mem_cons.mpr ⟨rfl, (List.forall_mem_cons.mpr ⟨rfl, (fun _ h => nomatch h)⟩)⟩) (fun K => ?_)
  refine g_iconst (pc := 0) (v := 4294967295) dX5_firstLetter_0 (by decide +kernel) ?_
  refine g_istore_n (pc := 1) (ls' := [rv (D, E, true, B) 5 0, iv 25, iv 4294967295]) dX5_firstLetter_1 (Nat.le_of_ble_eq_true rfl) (Nat.le_of_ble_eq_true rfl) rfl ?_
  refine g_aload_n (pc := 2) dX5_firstLetter_2 rfl ?_
  refine fg_X5_firstLetter_133 (pc := 3) (by rfl) dX5_firstLetter_3 ?_
  refine g_top (b := 0) (by decide +kernel) ?_
  refine g_iconst (pc := 6) (v := 1) dX5_firstLetter_6 (by decide +kernel) ?_
  refine g_isubw (pc := 7) (c := 4294967295) (by decide +kernel) dX5_firstLetter_7 ?_
  refine g_istore_n (pc := 8) (ls' := [rv (D, E, true, B) 5 0, iv 25, iv 4294967295, iv 4294967295]) dX5_firstLetter_8 (Nat.le_of_ble_eq_true rfl) (Nat.le_of_ble_eq_true rfl) rfl ?_
  refine g_iload_n (pc := 9) dX5_firstLetter_9 rfl ?_
  refine g_sif_lt (pc := 10) 35 dX5_firstLetter_10 (by decide) (by decide) (fun _ => ?_) (fun h => absurd (by decide) h)
  refine g_iload_n (pc := 35) dX5_firstLetter_35 rfl ?_
  exact g_iret (pc := 36) dX5_firstLetter_36 ⟨mg_narI _, Or.inl rfl⟩ ⟨rfl, rfl⟩
/-- X5_sendFirst(r5.0, 25) at qms6 -/
theorem qa138 (l : Launch) {D : va_G} {E : mg_E} {B : Nat} : mg_C l (D, E, true, B) mX5_sendFirst [rv (D, E, true, B) 5 0, iv 25] qms6 (fun v g' => v = none ∧ g' = qms6) := by
  refine mg_C.of (by decide) rfl (Nat.le_of_ble_eq_true rfl) (List.forall_mem_cons.mpr ⟨rfl, (List.forall_mem_cons.mpr ⟨rfl, (fun _ h => nomatch h)⟩)⟩) (fun K => ?_)
  refine g_aload_n (pc := 0) dX5_sendFirst_0 rfl ?_
  refine g_iload_n (pc := 1) dX5_sendFirst_1 rfl ?_
  refine g_callVi (pc := 2) (Y' := mX5_firstLetter) (As := [iv 25]) (st := []) (k := 5) (i := 0) (qa137 K.2.1) gX5_sendFirst_X5_firstLetter rfl (show 0 < 1 by omega) rfl rfl (na := 1) rfl (by decide +kernel) (by decide) (by decide) (Nat.le_of_ble_eq_true rfl) dX5_sendFirst_2 (fun r1 g1 hp => ?_)
  obtain ⟨h1, rfl⟩ := hp
  cases h1
  refine g_istore_n (pc := 5) (ls' := [rv (D, E, true, B) 5 0, iv 25, iv 4294967295]) dX5_sendFirst_5 (Nat.le_of_ble_eq_true rfl) (Nat.le_of_ble_eq_true rfl) rfl ?_
  refine g_iload_n (pc := 6) dX5_sendFirst_6 rfl ?_
  refine g_sif_lt (pc := 7) 33 dX5_sendFirst_7 (by decide) (by decide) (fun _ => ?_) (fun h => absurd (by decide) h)
  exact g_ret (pc := 33) dX5_sendFirst_33 trivial ⟨rfl, rfl⟩
/-- X5_resend(r5.0, 1) at qms6 -/
theorem qa139 (l : Launch) {D : va_G} {E : mg_E} {B : Nat} : mg_C l (D, E, true, B) mX5_resend [rv (D, E, true, B) 5 0, iv 1] qms6 (fun v g' => v = some 0 ∧ g' = qms6) := by
  refine mg_C.of (by decide) rfl (Nat.le_of_ble_eq_true rfl) (List.forall_mem_cons.mpr ⟨rfl, (List.forall_mem_cons.mpr ⟨rfl, (fun _ h => nomatch h)⟩)⟩) (fun K => ?_)
  refine g_aload_n (pc := 0) dX5_resend_0 rfl ?_
  refine g_iload_n (pc := 1) dX5_resend_1 rfl ?_
  refine g_callVi (pc := 2) (Y' := mX5_isUp) (As := [iv 1]) (st := []) (k := 5) (i := 0) (qa54 K.2.1) gX5_resend_X5_isUp rfl (show 0 < 1 by omega) rfl rfl (na := 1) rfl (by decide +kernel) (by decide) (by decide) (Nat.le_of_ble_eq_true rfl) dX5_resend_2 (fun r1 g1 hp => ?_)
  obtain ⟨h1, rfl⟩ := hp
  cases h1
  refine g_if_ne (pc := 5) 10 dX5_resend_5 (by decide) (by decide) (fun _ => ?_) (fun h => absurd h (by decide))
  refine g_iconst (pc := 10) (v := 0) dX5_resend_10 (by decide +kernel) ?_
  refine g_istore_n (pc := 11) (ls' := [rv (D, E, true, B) 5 0, iv 1, iv 0]) dX5_resend_11 (Nat.le_of_ble_eq_true rfl) (Nat.le_of_ble_eq_true rfl) rfl ?_
  refine g_iload_n (pc := 12) dX5_resend_12 rfl ?_
  refine g_aload_n (pc := 13) dX5_resend_13 rfl ?_
  refine fg_X5_resend_101 (pc := 14) (by rfl) dX5_resend_14 ?_
  refine g_top (b := 2) (by decide +kernel) ?_
  refine g_icmp_ge (pc := 17) 36 dX5_resend_17 (by decide) (by decide) (by decide) (fun h => absurd h (by decide)) (fun _ => ?_)
  refine g_aload_n (pc := 20) dX5_resend_20 rfl ?_
  refine g_bipush (pc := 21) (v := 24) dX5_resend_21 (by decide +kernel) ?_
  refine g_iload_n (pc := 23) dX5_resend_23 rfl ?_
  refine g_imul (pc := 24) dX5_resend_24 ?_
  refine g_top (b := 24) (by decide +kernel) ?_
  refine g_iload_n (pc := 25) dX5_resend_25 rfl ?_
  refine g_iadd (pc := 26) dX5_resend_26 ?_
  refine g_top (b := 24) (by decide +kernel) ?_
  refine g_callVv (pc := 27) (Y' := mX5_sendFirst) (As := [iv 24]) (st := []) (k := 5) (i := 0) (qa136 K.2.1) gX5_resend_X5_sendFirst rfl (show 0 < 1 by omega) rfl rfl (na := 1) rfl (by decide +kernel) (by decide) (by decide) (Nat.le_of_ble_eq_true rfl) dX5_resend_27 (fun g1 hp => ?_)
  obtain ⟨-, rfl⟩ := hp
  refine g_iinc (pc := 30) (v := 1) (ls' := [rv (D, E, true, B) 5 0, iv 1, iv 1]) dX5_resend_30 (Nat.le_of_ble_eq_true rfl) rfl (by decide +kernel) rfl ?_
  refine g_goto (pc := 33) 12 dX5_resend_33 (by decide) ?_
  refine g_iload_n (pc := 12) dX5_resend_12 rfl ?_
  refine g_aload_n (pc := 13) dX5_resend_13 rfl ?_
  refine fg_X5_resend_101 (pc := 14) (by rfl) dX5_resend_14 ?_
  refine g_top (b := 2) (by decide +kernel) ?_
  refine g_icmp_ge (pc := 17) 36 dX5_resend_17 (by decide) (by decide) (by decide) (fun h => absurd h (by decide)) (fun _ => ?_)
  refine g_aload_n (pc := 20) dX5_resend_20 rfl ?_
  refine g_bipush (pc := 21) (v := 24) dX5_resend_21 (by decide +kernel) ?_
  refine g_iload_n (pc := 23) dX5_resend_23 rfl ?_
  refine g_imul (pc := 24) dX5_resend_24 ?_
  refine g_top (b := 24) (by decide +kernel) ?_
  refine g_iload_n (pc := 25) dX5_resend_25 rfl ?_
  refine g_iadd (pc := 26) dX5_resend_26 ?_
  refine g_top (b := 25) (by decide +kernel) ?_
  refine g_callVv (pc := 27) (Y' := mX5_sendFirst) (As := [iv 25]) (st := []) (k := 5) (i := 0) (qa138 K.2.1) gX5_resend_X5_sendFirst rfl (show 0 < 1 by omega) rfl rfl (na := 1) rfl (by decide +kernel) (by decide) (by decide) (Nat.le_of_ble_eq_true rfl) dX5_resend_27 (fun g1 hp => ?_)
  obtain ⟨-, rfl⟩ := hp
  refine g_iinc (pc := 30) (v := 2) (ls' := [rv (D, E, true, B) 5 0, iv 1, iv 2]) dX5_resend_30 (Nat.le_of_ble_eq_true rfl) rfl (by decide +kernel) rfl ?_
  refine g_goto (pc := 33) 12 dX5_resend_33 (by decide) ?_
  refine g_iload_n (pc := 12) dX5_resend_12 rfl ?_
  refine g_aload_n (pc := 13) dX5_resend_13 rfl ?_
  refine fg_X5_resend_101 (pc := 14) (by rfl) dX5_resend_14 ?_
  refine g_top (b := 2) (by decide +kernel) ?_
  refine g_icmp_ge (pc := 17) 36 dX5_resend_17 (by decide) (by decide) (by decide) (fun _ => ?_) (fun h => absurd (by decide) h)
  refine g_aload_n (pc := 36) dX5_resend_36 rfl ?_
  refine fg_X5_resend_136 (pc := 37) (by rfl) dX5_resend_37 ?_
  refine g_top (b := 0) (by decide +kernel) ?_
  exact g_iret (pc := 40) dX5_resend_40 ⟨mg_narI _, Or.inl rfl⟩ ⟨rfl, rfl⟩
/-- X4_crash(r4.0, a[2147483648,4294967295]) at qms6 -/
theorem qa140 (l : Launch) {D : va_G} {E : mg_E} {B : Nat} (a : Nat) (h_a : 2147483648 ≤ a) (k_a : a ≤ 4294967295) : mg_C l (D, E, true, B) mX4_crash [rv (D, E, true, B) 4 0, iv a] qms6 (fun v g' => v = some 4294967295 ∧ g' = qms6) := by
  refine mg_C.of (by decide) rfl (Nat.le_of_ble_eq_true rfl) (List.forall_mem_cons.mpr ⟨rfl, (List.forall_mem_cons.mpr ⟨rfl, (fun _ h => nomatch h)⟩)⟩) (fun K => ?_)
  refine g_aload_n (pc := 0) dX4_crash_0 rfl ?_
  refine g_iload_n (pc := 1) dX4_crash_1 rfl ?_
  refine g_callVi (pc := 2) (Y' := mX4_isUp) (As := [iv a]) (st := []) (k := 4) (i := 0) (qa16 K.2.1 a h_a k_a) gX4_crash_X4_isUp rfl (show 0 < 1 by omega) rfl rfl (na := 1) rfl (by decide +kernel) (by decide) (by decide) (Nat.le_of_ble_eq_true rfl) dX4_crash_2 (fun r1 g1 hp => ?_)
  obtain ⟨h1, rfl⟩ := hp
  cases h1
  refine g_if_ne (pc := 5) 10 dX4_crash_5 (by decide) (by decide) (fun h => absurd (by decide) h) (fun _ => ?_)
  refine g_iconst (pc := 8) (v := 4294967295) dX4_crash_8 (by decide +kernel) ?_
  exact g_iret (pc := 9) dX4_crash_9 ⟨mg_narI _, Or.inl rfl⟩ ⟨rfl, rfl⟩
/-- X5_crash(r5.0, a[2147483648,4294967295]) at qms6 -/
theorem qa141 (l : Launch) {D : va_G} {E : mg_E} {B : Nat} (a : Nat) (h_a : 2147483648 ≤ a) (k_a : a ≤ 4294967295) : mg_C l (D, E, true, B) mX5_crash [rv (D, E, true, B) 5 0, iv a] qms6 (fun v g' => v = some 4294967295 ∧ g' = qms6) := by
  refine mg_C.of (by decide) rfl (Nat.le_of_ble_eq_true rfl) (List.forall_mem_cons.mpr ⟨rfl, (List.forall_mem_cons.mpr ⟨rfl, (fun _ h => nomatch h)⟩)⟩) (fun K => ?_)
  refine g_aload_n (pc := 0) dX5_crash_0 rfl ?_
  refine g_iload_n (pc := 1) dX5_crash_1 rfl ?_
  refine g_callVi (pc := 2) (Y' := mX5_isUp) (As := [iv a]) (st := []) (k := 5) (i := 0) (qa19 K.2.1 a h_a k_a) gX5_crash_X5_isUp rfl (show 0 < 1 by omega) rfl rfl (na := 1) rfl (by decide +kernel) (by decide) (by decide) (Nat.le_of_ble_eq_true rfl) dX5_crash_2 (fun r1 g1 hp => ?_)
  obtain ⟨h1, rfl⟩ := hp
  cases h1
  refine g_if_ne (pc := 5) 10 dX5_crash_5 (by decide) (by decide) (fun h => absurd (by decide) h) (fun _ => ?_)
  refine g_iconst (pc := 8) (v := 4294967295) dX5_crash_8 (by decide +kernel) ?_
  exact g_iret (pc := 9) dX5_crash_9 ⟨mg_narI _, Or.inl rfl⟩ ⟨rfl, rfl⟩
/-- X4_crash(r4.0, a[2,2147483647]) at qms6 -/
theorem qa142 (l : Launch) {D : va_G} {E : mg_E} {B : Nat} (a : Nat) (h_a : 2 ≤ a) (k_a : a ≤ 2147483647) : mg_C l (D, E, true, B) mX4_crash [rv (D, E, true, B) 4 0, iv a] qms6 (fun v g' => v = some 4294967295 ∧ g' = qms6) := by
  refine mg_C.of (by decide) rfl (Nat.le_of_ble_eq_true rfl) (List.forall_mem_cons.mpr ⟨rfl, (List.forall_mem_cons.mpr ⟨rfl, (fun _ h => nomatch h)⟩)⟩) (fun K => ?_)
  refine g_aload_n (pc := 0) dX4_crash_0 rfl ?_
  refine g_iload_n (pc := 1) dX4_crash_1 rfl ?_
  refine g_callVi (pc := 2) (Y' := mX4_isUp) (As := [iv a]) (st := []) (k := 4) (i := 0) (qa23 K.2.1 a h_a k_a) gX4_crash_X4_isUp rfl (show 0 < 1 by omega) rfl rfl (na := 1) rfl (by decide +kernel) (by decide) (by decide) (Nat.le_of_ble_eq_true rfl) dX4_crash_2 (fun r1 g1 hp => ?_)
  obtain ⟨h1, rfl⟩ := hp
  cases h1
  refine g_if_ne (pc := 5) 10 dX4_crash_5 (by decide) (by decide) (fun h => absurd (by decide) h) (fun _ => ?_)
  refine g_iconst (pc := 8) (v := 4294967295) dX4_crash_8 (by decide +kernel) ?_
  exact g_iret (pc := 9) dX4_crash_9 ⟨mg_narI _, Or.inl rfl⟩ ⟨rfl, rfl⟩
/-- X5_crash(r5.0, a[2,2147483647]) at qms6 -/
theorem qa143 (l : Launch) {D : va_G} {E : mg_E} {B : Nat} (a : Nat) (h_a : 2 ≤ a) (k_a : a ≤ 2147483647) : mg_C l (D, E, true, B) mX5_crash [rv (D, E, true, B) 5 0, iv a] qms6 (fun v g' => v = some 4294967295 ∧ g' = qms6) := by
  refine mg_C.of (by decide) rfl (Nat.le_of_ble_eq_true rfl) (List.forall_mem_cons.mpr ⟨rfl, (List.forall_mem_cons.mpr ⟨rfl, (fun _ h => nomatch h)⟩)⟩) (fun K => ?_)
  refine g_aload_n (pc := 0) dX5_crash_0 rfl ?_
  refine g_iload_n (pc := 1) dX5_crash_1 rfl ?_
  refine g_callVi (pc := 2) (Y' := mX5_isUp) (As := [iv a]) (st := []) (k := 5) (i := 0) (qa26 K.2.1 a h_a k_a) gX5_crash_X5_isUp rfl (show 0 < 1 by omega) rfl rfl (na := 1) rfl (by decide +kernel) (by decide) (by decide) (Nat.le_of_ble_eq_true rfl) dX5_crash_2 (fun r1 g1 hp => ?_)
  obtain ⟨h1, rfl⟩ := hp
  cases h1
  refine g_if_ne (pc := 5) 10 dX5_crash_5 (by decide) (by decide) (fun h => absurd (by decide) h) (fun _ => ?_)
  refine g_iconst (pc := 8) (v := 4294967295) dX5_crash_8 (by decide +kernel) ?_
  exact g_iret (pc := 9) dX5_crash_9 ⟨mg_narI _, Or.inl rfl⟩ ⟨rfl, rfl⟩
def qas41 : mg_F := mg_up (qms6) 3 0 6 1
/-- X4_crash(r4.0, 0) at qms6 -/
theorem qa144 (l : Launch) {D : va_G} {E : mg_E} {B : Nat} : mg_C l (D, E, true, B) mX4_crash [rv (D, E, true, B) 4 0, iv 0] qms6 (fun v g' => v = some 0 ∧ g' = qas41) := by
  refine mg_C.of (by decide) rfl (Nat.le_of_ble_eq_true rfl) (List.forall_mem_cons.mpr ⟨rfl, (List.forall_mem_cons.mpr ⟨rfl, (fun _ h => nomatch h)⟩)⟩) (fun K => ?_)
  refine g_aload_n (pc := 0) dX4_crash_0 rfl ?_
  refine g_iload_n (pc := 1) dX4_crash_1 rfl ?_
  refine g_callVi (pc := 2) (Y' := mX4_isUp) (As := [iv 0]) (st := []) (k := 4) (i := 0) (qa30 K.2.1) gX4_crash_X4_isUp rfl (show 0 < 1 by omega) rfl rfl (na := 1) rfl (by decide +kernel) (by decide) (by decide) (Nat.le_of_ble_eq_true rfl) dX4_crash_2 (fun r1 g1 hp => ?_)
  obtain ⟨h1, rfl⟩ := hp
  cases h1
  refine g_if_ne (pc := 5) 10 dX4_crash_5 (by decide) (by decide) (fun _ => ?_) (fun h => absurd h (by decide))
  refine g_aload_n (pc := 10) dX4_crash_10 rfl ?_
  refine fg_X4_crash_18 (pc := 11) dX4_crash_11 ?_
  refine g_iload_n (pc := 14) dX4_crash_14 rfl ?_
  refine g_aastation (pc := 15) (a := 0) (by decide) dX4_crash_15 ?_
  refine g_astore_n (pc := 16) (ls' := [rv (D, E, true, B) 4 0, iv 0, rv (D, E, true, B) 3 0]) dX4_crash_16 (Nat.le_of_ble_eq_true rfl) (Nat.le_of_ble_eq_true rfl) rfl ?_
  refine g_aload_n (pc := 17) dX4_crash_17 rfl ?_
  refine fg_X4_crash_111 (pc := 18) (show 0 < 24 by omega) dX4_crash_18 ?_
  refine g_top (b := 0) (by decide +kernel) ?_
  refine g_if_eq (pc := 21) 28 dX4_crash_21 (by decide) (by decide) (fun _ => ?_) (fun h => absurd (by decide) h)
  refine g_aload_n (pc := 28) dX4_crash_28 rfl ?_
  refine g_iconst (pc := 29) (v := 1) dX4_crash_29 (by decide +kernel) ?_
  refine fp_X4_crash_211 (pc := 30) (show 0 < 24 by omega) (by decide) dX4_crash_30 ?_
  refine g_iconst (pc := 33) (v := 0) dX4_crash_33 (by decide +kernel) ?_
  exact g_iret (pc := 34) dX4_crash_34 ⟨mg_narI _, Or.inl rfl⟩ ⟨rfl, rfl⟩
/-- X5_isStation(r5.0, 0) at qas41 -/
theorem qa145 (l : Launch) {D : va_G} {E : mg_E} {B : Nat} : mg_C l (D, E, true, B) mX5_isStation [rv (D, E, true, B) 5 0, iv 0] qas41 (fun v g' => v = some 1 ∧ g' = qas41) := by
  refine mg_C.of (by decide) rfl (Nat.le_of_ble_eq_true rfl) (List.forall_mem_cons.mpr ⟨rfl, (List.forall_mem_cons.mpr ⟨rfl, (fun _ h => nomatch h)⟩)⟩) (fun K => ?_)
  refine g_iload_n (pc := 0) dX5_isStation_0 rfl ?_
  refine g_sif_lt (pc := 1) 16 dX5_isStation_1 (by decide) (by decide) (fun h => absurd h (by decide)) (fun _ => ?_)
  refine g_iload_n (pc := 4) dX5_isStation_4 rfl ?_
  refine g_aload_n (pc := 5) dX5_isStation_5 rfl ?_
  refine fg_X5_isStation_101 (pc := 6) (by rfl) dX5_isStation_6 ?_
  refine g_top (b := 2) (by decide +kernel) ?_
  refine g_icmp_ge (pc := 9) 16 dX5_isStation_9 (by decide) (by decide) (by decide) (fun h => absurd h (by decide)) (fun _ => ?_)
  refine g_iconst (pc := 12) (v := 1) dX5_isStation_12 (by decide +kernel) ?_
  refine g_goto (pc := 13) 17 dX5_isStation_13 (by decide) ?_
  exact g_iret (pc := 17) dX5_isStation_17 ⟨mg_narZ (by decide), Or.inr rfl⟩ ⟨rfl, rfl⟩
/-- X5_isUp(r5.0, 0) at qas41 -/
theorem qa146 (l : Launch) {D : va_G} {E : mg_E} {B : Nat} : mg_C l (D, E, true, B) mX5_isUp [rv (D, E, true, B) 5 0, iv 0] qas41 (fun v g' => v = some 1 ∧ g' = qas41) := by
  refine mg_C.of (by decide) rfl (Nat.le_of_ble_eq_true rfl) (List.forall_mem_cons.mpr ⟨rfl, (List.forall_mem_cons.mpr ⟨rfl, (fun _ h => nomatch h)⟩)⟩) (fun K => ?_)
  refine g_aload_n (pc := 0) dX5_isUp_0 rfl ?_
  refine fg_X5_isUp_105 (pc := 1) (by rfl) dX5_isUp_1 ?_
  refine g_top (b := 1) (by decide +kernel) ?_
  refine g_if_eq (pc := 4) 28 dX5_isUp_4 (by decide) (by decide) (fun h => absurd h (by decide)) (fun _ => ?_)
  refine g_aload_n (pc := 7) dX5_isUp_7 rfl ?_
  refine g_iload_n (pc := 8) dX5_isUp_8 rfl ?_
  refine g_callVi (pc := 9) (Y' := mX5_isStation) (As := [iv 0]) (st := []) (k := 5) (i := 0) (qa145 K.2.1) gX5_isUp_X5_isStation rfl (show 0 < 1 by omega) rfl rfl (na := 1) rfl (by decide +kernel) (by decide) (by decide) (Nat.le_of_ble_eq_true rfl) dX5_isUp_9 (fun r1 g1 hp => ?_)
  obtain ⟨h1, rfl⟩ := hp
  cases h1
  refine g_if_eq (pc := 12) 28 dX5_isUp_12 (by decide) (by decide) (fun h => absurd h (by decide)) (fun _ => ?_)
  refine g_aload_n (pc := 15) dX5_isUp_15 rfl ?_
  refine fg_X5_isUp_23 (pc := 16) (by rfl) dX5_isUp_16 ?_
  refine g_iload_n (pc := 19) dX5_isUp_19 rfl ?_
  refine g_baload (pc := 20) (k := 39) (i := 0) (n := 24) (show 0 < 1 by omega) rfl (by decide) (by decide) dX5_isUp_20 ?_
  refine g_top (b := 0) (by decide +kernel) ?_
  refine g_if_ne (pc := 21) 28 dX5_isUp_21 (by decide) (by decide) (fun h => absurd (by decide) h) (fun _ => ?_)
  refine g_iconst (pc := 24) (v := 1) dX5_isUp_24 (by decide +kernel) ?_
  refine g_goto (pc := 25) 29 dX5_isUp_25 (by decide) ?_
  exact g_iret (pc := 29) dX5_isUp_29 ⟨mg_narZ (by decide), Or.inr rfl⟩ ⟨rfl, rfl⟩
def qas42 : mg_F := mg_up (mg_up (qas41) 42 0 0 0) 38 0 0 0
/-- X5_stop(r5.0, 0) at qas41 -/
theorem qa147 (l : Launch) {D : va_G} {E : mg_E} {B : Nat} : mg_C l (D, E, true, B) mX5_stop [rv (D, E, true, B) 5 0, iv 0] qas41 (fun v g' => v = none ∧ g' = qas42) := by
  refine mg_C.of (by decide) rfl (Nat.le_of_ble_eq_true rfl) (List.forall_mem_cons.mpr ⟨rfl, (List.forall_mem_cons.mpr ⟨rfl, (fun _ h => nomatch h)⟩)⟩) (fun K => ?_)
  refine g_aload_n (pc := 0) dX5_stop_0 rfl ?_
  refine fg_X5_stop_32 (pc := 1) (by rfl) dX5_stop_1 ?_
  refine g_iload_n (pc := 4) dX5_stop_4 rfl ?_
  refine g_dup2 (pc := 5) dX5_stop_5 rfl rfl ?_
  refine g_iaload (pc := 6) (k := 42) (i := 0) (n := 24) (show 0 < 1 by omega) rfl (by decide) (by decide) dX5_stop_6 ?_
  refine g_top (b := 0) (by decide +kernel) ?_
  refine g_aload_n (pc := 7) dX5_stop_7 rfl ?_
  refine fg_X5_stop_20 (pc := 8) (by rfl) dX5_stop_8 ?_
  refine g_iload_n (pc := 11) dX5_stop_11 rfl ?_
  refine g_baload (pc := 12) (k := 38) (i := 0) (n := 24) (show 0 < 1 by omega) rfl (by decide) (by decide) dX5_stop_12 ?_
  refine g_top (b := 0) (by decide +kernel) ?_
  refine g_if_eq (pc := 13) 20 dX5_stop_13 (by decide) (by decide) (fun _ => ?_) (fun h => absurd (by decide) h)
  refine g_iconst (pc := 20) (v := 0) dX5_stop_20 (by decide +kernel) ?_
  refine g_iadd (pc := 21) dX5_stop_21 ?_
  refine g_top (b := 0) (by decide +kernel) ?_
  refine g_iastore (pc := 22) (k := 42) (i := 0) (n := 24) (show 0 < 1 by omega) (fun _ => rfl) (by decide) (by decide) dX5_stop_22 ?_
  refine g_aload_n (pc := 23) dX5_stop_23 rfl ?_
  refine fg_X5_stop_20 (pc := 24) (by rfl) dX5_stop_24 ?_
  refine g_iload_n (pc := 27) dX5_stop_27 rfl ?_
  refine g_iconst (pc := 28) (v := 0) dX5_stop_28 (by decide +kernel) ?_
  refine g_bastore (pc := 29) (k := 38) (i := 0) (n := 24) (show 0 < 1 by omega) (fun _ => rfl) (by decide) (by decide) (by decide) dX5_stop_29 ?_
  exact g_ret (pc := 30) dX5_stop_30 trivial ⟨rfl, rfl⟩
def qas43 : mg_F := mg_up (qas42) 39 0 0 1
/-- X5_crash(r5.0, 0) at qas41 -/
theorem qa148 (l : Launch) {D : va_G} {E : mg_E} {B : Nat} : mg_C l (D, E, true, B) mX5_crash [rv (D, E, true, B) 5 0, iv 0] qas41 (fun v g' => v = some 0 ∧ g' = qas43) := by
  refine mg_C.of (by decide) rfl (Nat.le_of_ble_eq_true rfl) (List.forall_mem_cons.mpr ⟨rfl, (List.forall_mem_cons.mpr ⟨rfl, (fun _ h => nomatch h)⟩)⟩) (fun K => ?_)
  refine g_aload_n (pc := 0) dX5_crash_0 rfl ?_
  refine g_iload_n (pc := 1) dX5_crash_1 rfl ?_
  refine g_callVi (pc := 2) (Y' := mX5_isUp) (As := [iv 0]) (st := []) (k := 5) (i := 0) (qa146 K.2.1) gX5_crash_X5_isUp rfl (show 0 < 1 by omega) rfl rfl (na := 1) rfl (by decide +kernel) (by decide) (by decide) (Nat.le_of_ble_eq_true rfl) dX5_crash_2 (fun r1 g1 hp => ?_)
  obtain ⟨h1, rfl⟩ := hp
  cases h1
  refine g_if_ne (pc := 5) 10 dX5_crash_5 (by decide) (by decide) (fun _ => ?_) (fun h => absurd h (by decide))
  refine g_aload_n (pc := 10) dX5_crash_10 rfl ?_
  refine g_iload_n (pc := 11) dX5_crash_11 rfl ?_
  refine g_callVv (pc := 12) (Y' := mX5_stop) (As := [iv 0]) (st := []) (k := 5) (i := 0) (qa147 K.2.1) gX5_crash_X5_stop rfl (show 0 < 1 by omega) rfl rfl (na := 1) rfl (by decide +kernel) (by decide) (by decide) (Nat.le_of_ble_eq_true rfl) dX5_crash_12 (fun g1 hp => ?_)
  obtain ⟨-, rfl⟩ := hp
  refine g_aload_n (pc := 15) dX5_crash_15 rfl ?_
  refine fg_X5_crash_23 (pc := 16) (by rfl) dX5_crash_16 ?_
  refine g_iload_n (pc := 19) dX5_crash_19 rfl ?_
  refine g_iconst (pc := 20) (v := 1) dX5_crash_20 (by decide +kernel) ?_
  refine g_bastore (pc := 21) (k := 39) (i := 0) (n := 24) (show 0 < 1 by omega) (fun _ => rfl) (by decide) (by decide) (by decide) dX5_crash_21 ?_
  refine g_iconst (pc := 22) (v := 0) dX5_crash_22 (by decide +kernel) ?_
  exact g_iret (pc := 23) dX5_crash_23 ⟨mg_narI _, Or.inl rfl⟩ ⟨rfl, rfl⟩
def qas44 : mg_F := mg_up (qms6) 3 1 6 1
/-- X4_crash(r4.0, 1) at qms6 -/
theorem qa149 (l : Launch) {D : va_G} {E : mg_E} {B : Nat} : mg_C l (D, E, true, B) mX4_crash [rv (D, E, true, B) 4 0, iv 1] qms6 (fun v g' => v = some 0 ∧ g' = qas44) := by
  refine mg_C.of (by decide) rfl (Nat.le_of_ble_eq_true rfl) (List.forall_mem_cons.mpr ⟨rfl, (List.forall_mem_cons.mpr ⟨rfl, (fun _ h => nomatch h)⟩)⟩) (fun K => ?_)
  refine g_aload_n (pc := 0) dX4_crash_0 rfl ?_
  refine g_iload_n (pc := 1) dX4_crash_1 rfl ?_
  refine g_callVi (pc := 2) (Y' := mX4_isUp) (As := [iv 1]) (st := []) (k := 4) (i := 0) (qa51 K.2.1) gX4_crash_X4_isUp rfl (show 0 < 1 by omega) rfl rfl (na := 1) rfl (by decide +kernel) (by decide) (by decide) (Nat.le_of_ble_eq_true rfl) dX4_crash_2 (fun r1 g1 hp => ?_)
  obtain ⟨h1, rfl⟩ := hp
  cases h1
  refine g_if_ne (pc := 5) 10 dX4_crash_5 (by decide) (by decide) (fun _ => ?_) (fun h => absurd h (by decide))
  refine g_aload_n (pc := 10) dX4_crash_10 rfl ?_
  refine fg_X4_crash_18 (pc := 11) dX4_crash_11 ?_
  refine g_iload_n (pc := 14) dX4_crash_14 rfl ?_
  refine g_aastation (pc := 15) (a := 1) (by decide) dX4_crash_15 ?_
  refine g_astore_n (pc := 16) (ls' := [rv (D, E, true, B) 4 0, iv 1, rv (D, E, true, B) 3 1]) dX4_crash_16 (Nat.le_of_ble_eq_true rfl) (Nat.le_of_ble_eq_true rfl) rfl ?_
  refine g_aload_n (pc := 17) dX4_crash_17 rfl ?_
  refine fg_X4_crash_111 (pc := 18) (show 1 < 24 by omega) dX4_crash_18 ?_
  refine g_top (b := 0) (by decide +kernel) ?_
  refine g_if_eq (pc := 21) 28 dX4_crash_21 (by decide) (by decide) (fun _ => ?_) (fun h => absurd (by decide) h)
  refine g_aload_n (pc := 28) dX4_crash_28 rfl ?_
  refine g_iconst (pc := 29) (v := 1) dX4_crash_29 (by decide +kernel) ?_
  refine fp_X4_crash_211 (pc := 30) (show 1 < 24 by omega) (by decide) dX4_crash_30 ?_
  refine g_iconst (pc := 33) (v := 0) dX4_crash_33 (by decide +kernel) ?_
  exact g_iret (pc := 34) dX4_crash_34 ⟨mg_narI _, Or.inl rfl⟩ ⟨rfl, rfl⟩
/-- X5_isStation(r5.0, 1) at qas44 -/
theorem qa150 (l : Launch) {D : va_G} {E : mg_E} {B : Nat} : mg_C l (D, E, true, B) mX5_isStation [rv (D, E, true, B) 5 0, iv 1] qas44 (fun v g' => v = some 1 ∧ g' = qas44) := by
  refine mg_C.of (by decide) rfl (Nat.le_of_ble_eq_true rfl) (List.forall_mem_cons.mpr ⟨rfl, (List.forall_mem_cons.mpr ⟨rfl, (fun _ h => nomatch h)⟩)⟩) (fun K => ?_)
  refine g_iload_n (pc := 0) dX5_isStation_0 rfl ?_
  refine g_sif_lt (pc := 1) 16 dX5_isStation_1 (by decide) (by decide) (fun h => absurd h (by decide)) (fun _ => ?_)
  refine g_iload_n (pc := 4) dX5_isStation_4 rfl ?_
  refine g_aload_n (pc := 5) dX5_isStation_5 rfl ?_
  refine fg_X5_isStation_101 (pc := 6) (by rfl) dX5_isStation_6 ?_
  refine g_top (b := 2) (by decide +kernel) ?_
  refine g_icmp_ge (pc := 9) 16 dX5_isStation_9 (by decide) (by decide) (by decide) (fun h => absurd h (by decide)) (fun _ => ?_)
  refine g_iconst (pc := 12) (v := 1) dX5_isStation_12 (by decide +kernel) ?_
  refine g_goto (pc := 13) 17 dX5_isStation_13 (by decide) ?_
  exact g_iret (pc := 17) dX5_isStation_17 ⟨mg_narZ (by decide), Or.inr rfl⟩ ⟨rfl, rfl⟩
/-- X5_isUp(r5.0, 1) at qas44 -/
theorem qa151 (l : Launch) {D : va_G} {E : mg_E} {B : Nat} : mg_C l (D, E, true, B) mX5_isUp [rv (D, E, true, B) 5 0, iv 1] qas44 (fun v g' => v = some 1 ∧ g' = qas44) := by
  refine mg_C.of (by decide) rfl (Nat.le_of_ble_eq_true rfl) (List.forall_mem_cons.mpr ⟨rfl, (List.forall_mem_cons.mpr ⟨rfl, (fun _ h => nomatch h)⟩)⟩) (fun K => ?_)
  refine g_aload_n (pc := 0) dX5_isUp_0 rfl ?_
  refine fg_X5_isUp_105 (pc := 1) (by rfl) dX5_isUp_1 ?_
  refine g_top (b := 1) (by decide +kernel) ?_
  refine g_if_eq (pc := 4) 28 dX5_isUp_4 (by decide) (by decide) (fun h => absurd h (by decide)) (fun _ => ?_)
  refine g_aload_n (pc := 7) dX5_isUp_7 rfl ?_
  refine g_iload_n (pc := 8) dX5_isUp_8 rfl ?_
  refine g_callVi (pc := 9) (Y' := mX5_isStation) (As := [iv 1]) (st := []) (k := 5) (i := 0) (qa150 K.2.1) gX5_isUp_X5_isStation rfl (show 0 < 1 by omega) rfl rfl (na := 1) rfl (by decide +kernel) (by decide) (by decide) (Nat.le_of_ble_eq_true rfl) dX5_isUp_9 (fun r1 g1 hp => ?_)
  obtain ⟨h1, rfl⟩ := hp
  cases h1
  refine g_if_eq (pc := 12) 28 dX5_isUp_12 (by decide) (by decide) (fun h => absurd h (by decide)) (fun _ => ?_)
  refine g_aload_n (pc := 15) dX5_isUp_15 rfl ?_
  refine fg_X5_isUp_23 (pc := 16) (by rfl) dX5_isUp_16 ?_
  refine g_iload_n (pc := 19) dX5_isUp_19 rfl ?_
  refine g_baload (pc := 20) (k := 39) (i := 0) (n := 24) (show 0 < 1 by omega) rfl (by decide) (by decide) dX5_isUp_20 ?_
  refine g_top (b := 0) (by decide +kernel) ?_
  refine g_if_ne (pc := 21) 28 dX5_isUp_21 (by decide) (by decide) (fun h => absurd (by decide) h) (fun _ => ?_)
  refine g_iconst (pc := 24) (v := 1) dX5_isUp_24 (by decide +kernel) ?_
  refine g_goto (pc := 25) 29 dX5_isUp_25 (by decide) ?_
  exact g_iret (pc := 29) dX5_isUp_29 ⟨mg_narZ (by decide), Or.inr rfl⟩ ⟨rfl, rfl⟩
def qas45 : mg_F := mg_up (mg_up (qas44) 42 0 1 0) 38 0 1 0
/-- X5_stop(r5.0, 1) at qas44 -/
theorem qa152 (l : Launch) {D : va_G} {E : mg_E} {B : Nat} : mg_C l (D, E, true, B) mX5_stop [rv (D, E, true, B) 5 0, iv 1] qas44 (fun v g' => v = none ∧ g' = qas45) := by
  refine mg_C.of (by decide) rfl (Nat.le_of_ble_eq_true rfl) (List.forall_mem_cons.mpr ⟨rfl, (List.forall_mem_cons.mpr ⟨rfl, (fun _ h => nomatch h)⟩)⟩) (fun K => ?_)
  refine g_aload_n (pc := 0) dX5_stop_0 rfl ?_
  refine fg_X5_stop_32 (pc := 1) (by rfl) dX5_stop_1 ?_
  refine g_iload_n (pc := 4) dX5_stop_4 rfl ?_
  refine g_dup2 (pc := 5) dX5_stop_5 rfl rfl ?_
  refine g_iaload (pc := 6) (k := 42) (i := 0) (n := 24) (show 0 < 1 by omega) rfl (by decide) (by decide) dX5_stop_6 ?_
  refine g_top (b := 0) (by decide +kernel) ?_
  refine g_aload_n (pc := 7) dX5_stop_7 rfl ?_
  refine fg_X5_stop_20 (pc := 8) (by rfl) dX5_stop_8 ?_
  refine g_iload_n (pc := 11) dX5_stop_11 rfl ?_
  refine g_baload (pc := 12) (k := 38) (i := 0) (n := 24) (show 0 < 1 by omega) rfl (by decide) (by decide) dX5_stop_12 ?_
  refine g_top (b := 0) (by decide +kernel) ?_
  refine g_if_eq (pc := 13) 20 dX5_stop_13 (by decide) (by decide) (fun _ => ?_) (fun h => absurd (by decide) h)
  refine g_iconst (pc := 20) (v := 0) dX5_stop_20 (by decide +kernel) ?_
  refine g_iadd (pc := 21) dX5_stop_21 ?_
  refine g_top (b := 0) (by decide +kernel) ?_
  refine g_iastore (pc := 22) (k := 42) (i := 0) (n := 24) (show 0 < 1 by omega) (fun _ => rfl) (by decide) (by decide) dX5_stop_22 ?_
  refine g_aload_n (pc := 23) dX5_stop_23 rfl ?_
  refine fg_X5_stop_20 (pc := 24) (by rfl) dX5_stop_24 ?_
  refine g_iload_n (pc := 27) dX5_stop_27 rfl ?_
  refine g_iconst (pc := 28) (v := 0) dX5_stop_28 (by decide +kernel) ?_
  refine g_bastore (pc := 29) (k := 38) (i := 0) (n := 24) (show 0 < 1 by omega) (fun _ => rfl) (by decide) (by decide) (by decide) dX5_stop_29 ?_
  exact g_ret (pc := 30) dX5_stop_30 trivial ⟨rfl, rfl⟩
def qas46 : mg_F := mg_up (qas45) 39 0 1 1
/-- X5_crash(r5.0, 1) at qas44 -/
theorem qa153 (l : Launch) {D : va_G} {E : mg_E} {B : Nat} : mg_C l (D, E, true, B) mX5_crash [rv (D, E, true, B) 5 0, iv 1] qas44 (fun v g' => v = some 0 ∧ g' = qas46) := by
  refine mg_C.of (by decide) rfl (Nat.le_of_ble_eq_true rfl) (List.forall_mem_cons.mpr ⟨rfl, (List.forall_mem_cons.mpr ⟨rfl, (fun _ h => nomatch h)⟩)⟩) (fun K => ?_)
  refine g_aload_n (pc := 0) dX5_crash_0 rfl ?_
  refine g_iload_n (pc := 1) dX5_crash_1 rfl ?_
  refine g_callVi (pc := 2) (Y' := mX5_isUp) (As := [iv 1]) (st := []) (k := 5) (i := 0) (qa151 K.2.1) gX5_crash_X5_isUp rfl (show 0 < 1 by omega) rfl rfl (na := 1) rfl (by decide +kernel) (by decide) (by decide) (Nat.le_of_ble_eq_true rfl) dX5_crash_2 (fun r1 g1 hp => ?_)
  obtain ⟨h1, rfl⟩ := hp
  cases h1
  refine g_if_ne (pc := 5) 10 dX5_crash_5 (by decide) (by decide) (fun _ => ?_) (fun h => absurd h (by decide))
  refine g_aload_n (pc := 10) dX5_crash_10 rfl ?_
  refine g_iload_n (pc := 11) dX5_crash_11 rfl ?_
  refine g_callVv (pc := 12) (Y' := mX5_stop) (As := [iv 1]) (st := []) (k := 5) (i := 0) (qa152 K.2.1) gX5_crash_X5_stop rfl (show 0 < 1 by omega) rfl rfl (na := 1) rfl (by decide +kernel) (by decide) (by decide) (Nat.le_of_ble_eq_true rfl) dX5_crash_12 (fun g1 hp => ?_)
  obtain ⟨-, rfl⟩ := hp
  refine g_aload_n (pc := 15) dX5_crash_15 rfl ?_
  refine fg_X5_crash_23 (pc := 16) (by rfl) dX5_crash_16 ?_
  refine g_iload_n (pc := 19) dX5_crash_19 rfl ?_
  refine g_iconst (pc := 20) (v := 1) dX5_crash_20 (by decide +kernel) ?_
  refine g_bastore (pc := 21) (k := 39) (i := 0) (n := 24) (show 0 < 1 by omega) (fun _ => rfl) (by decide) (by decide) (by decide) dX5_crash_21 ?_
  refine g_iconst (pc := 22) (v := 0) dX5_crash_22 (by decide +kernel) ?_
  exact g_iret (pc := 23) dX5_crash_23 ⟨mg_narI _, Or.inl rfl⟩ ⟨rfl, rfl⟩
/-- X4_restart(r4.0, a[2147483648,4294967295]) at qms6 -/
theorem qa154 (l : Launch) {D : va_G} {E : mg_E} {B : Nat} (a : Nat) (h_a : 2147483648 ≤ a) (k_a : a ≤ 4294967295) : mg_C l (D, E, true, B) mX4_restart [rv (D, E, true, B) 4 0, iv a] qms6 (fun v g' => v = some 4294967295 ∧ g' = qms6) := by
  refine mg_C.of (by decide) rfl (Nat.le_of_ble_eq_true rfl) (List.forall_mem_cons.mpr ⟨rfl, (List.forall_mem_cons.mpr ⟨rfl, (fun _ h => nomatch h)⟩)⟩) (fun K => ?_)
  refine g_aload_n (pc := 0) dX4_restart_0 rfl ?_
  refine g_iload_n (pc := 1) dX4_restart_1 rfl ?_
  refine g_callVi (pc := 2) (Y' := mX4_isStation) (As := [iv a]) (st := []) (k := 4) (i := 0) (qa15 K.2.1 a h_a k_a) gX4_restart_X4_isStation rfl (show 0 < 1 by omega) rfl rfl (na := 1) rfl (by decide +kernel) (by decide) (by decide) (Nat.le_of_ble_eq_true rfl) dX4_restart_2 (fun r1 g1 hp => ?_)
  obtain ⟨h1, rfl⟩ := hp
  cases h1
  refine g_if_eq (pc := 5) 20 dX4_restart_5 (by decide) (by decide) (fun _ => ?_) (fun h => absurd (by decide) h)
  refine g_iconst (pc := 20) (v := 4294967295) dX4_restart_20 (by decide +kernel) ?_
  exact g_iret (pc := 21) dX4_restart_21 ⟨mg_narI _, Or.inl rfl⟩ ⟨rfl, rfl⟩
/-- X5_restart(r5.0, a[2147483648,4294967295]) at qms6 -/
theorem qa155 (l : Launch) {D : va_G} {E : mg_E} {B : Nat} (a : Nat) (h_a : 2147483648 ≤ a) (k_a : a ≤ 4294967295) : mg_C l (D, E, true, B) mX5_restart [rv (D, E, true, B) 5 0, iv a] qms6 (fun v g' => v = some 4294967295 ∧ g' = qms6) := by
  refine mg_C.of (by decide) rfl (Nat.le_of_ble_eq_true rfl) (List.forall_mem_cons.mpr ⟨rfl, (List.forall_mem_cons.mpr ⟨rfl, (fun _ h => nomatch h)⟩)⟩) (fun K => ?_)
  refine g_aload_n (pc := 0) dX5_restart_0 rfl ?_
  refine fg_X5_restart_105 (pc := 1) (by rfl) dX5_restart_1 ?_
  refine g_top (b := 1) (by decide +kernel) ?_
  refine g_if_eq (pc := 4) 24 dX5_restart_4 (by decide) (by decide) (fun h => absurd h (by decide)) (fun _ => ?_)
  refine g_aload_n (pc := 7) dX5_restart_7 rfl ?_
  refine g_iload_n (pc := 8) dX5_restart_8 rfl ?_
  refine g_callVi (pc := 9) (Y' := mX5_isStation) (As := [iv a]) (st := []) (k := 5) (i := 0) (qa18 K.2.1 a h_a k_a) gX5_restart_X5_isStation rfl (show 0 < 1 by omega) rfl rfl (na := 1) rfl (by decide +kernel) (by decide) (by decide) (Nat.le_of_ble_eq_true rfl) dX5_restart_9 (fun r1 g1 hp => ?_)
  obtain ⟨h1, rfl⟩ := hp
  cases h1
  refine g_if_eq (pc := 12) 24 dX5_restart_12 (by decide) (by decide) (fun _ => ?_) (fun h => absurd (by decide) h)
  refine g_iconst (pc := 24) (v := 4294967295) dX5_restart_24 (by decide +kernel) ?_
  exact g_iret (pc := 25) dX5_restart_25 ⟨mg_narI _, Or.inl rfl⟩ ⟨rfl, rfl⟩
/-- X4_restart(r4.0, a[2,2147483647]) at qms6 -/
theorem qa156 (l : Launch) {D : va_G} {E : mg_E} {B : Nat} (a : Nat) (h_a : 2 ≤ a) (k_a : a ≤ 2147483647) : mg_C l (D, E, true, B) mX4_restart [rv (D, E, true, B) 4 0, iv a] qms6 (fun v g' => v = some 4294967295 ∧ g' = qms6) := by
  refine mg_C.of (by decide) rfl (Nat.le_of_ble_eq_true rfl) (List.forall_mem_cons.mpr ⟨rfl, (List.forall_mem_cons.mpr ⟨rfl, (fun _ h => nomatch h)⟩)⟩) (fun K => ?_)
  refine g_aload_n (pc := 0) dX4_restart_0 rfl ?_
  refine g_iload_n (pc := 1) dX4_restart_1 rfl ?_
  refine g_callVi (pc := 2) (Y' := mX4_isStation) (As := [iv a]) (st := []) (k := 4) (i := 0) (qa22 K.2.1 a h_a k_a) gX4_restart_X4_isStation rfl (show 0 < 1 by omega) rfl rfl (na := 1) rfl (by decide +kernel) (by decide) (by decide) (Nat.le_of_ble_eq_true rfl) dX4_restart_2 (fun r1 g1 hp => ?_)
  obtain ⟨h1, rfl⟩ := hp
  cases h1
  refine g_if_eq (pc := 5) 20 dX4_restart_5 (by decide) (by decide) (fun _ => ?_) (fun h => absurd (by decide) h)
  refine g_iconst (pc := 20) (v := 4294967295) dX4_restart_20 (by decide +kernel) ?_
  exact g_iret (pc := 21) dX4_restart_21 ⟨mg_narI _, Or.inl rfl⟩ ⟨rfl, rfl⟩
/-- X5_restart(r5.0, a[2,2147483647]) at qms6 -/
theorem qa157 (l : Launch) {D : va_G} {E : mg_E} {B : Nat} (a : Nat) (h_a : 2 ≤ a) (k_a : a ≤ 2147483647) : mg_C l (D, E, true, B) mX5_restart [rv (D, E, true, B) 5 0, iv a] qms6 (fun v g' => v = some 4294967295 ∧ g' = qms6) := by
  refine mg_C.of (by decide) rfl (Nat.le_of_ble_eq_true rfl) (List.forall_mem_cons.mpr ⟨rfl, (List.forall_mem_cons.mpr ⟨rfl, (fun _ h => nomatch h)⟩)⟩) (fun K => ?_)
  refine g_aload_n (pc := 0) dX5_restart_0 rfl ?_
  refine fg_X5_restart_105 (pc := 1) (by rfl) dX5_restart_1 ?_
  refine g_top (b := 1) (by decide +kernel) ?_
  refine g_if_eq (pc := 4) 24 dX5_restart_4 (by decide) (by decide) (fun h => absurd h (by decide)) (fun _ => ?_)
  refine g_aload_n (pc := 7) dX5_restart_7 rfl ?_
  refine g_iload_n (pc := 8) dX5_restart_8 rfl ?_
  refine g_callVi (pc := 9) (Y' := mX5_isStation) (As := [iv a]) (st := []) (k := 5) (i := 0) (qa25 K.2.1 a h_a k_a) gX5_restart_X5_isStation rfl (show 0 < 1 by omega) rfl rfl (na := 1) rfl (by decide +kernel) (by decide) (by decide) (Nat.le_of_ble_eq_true rfl) dX5_restart_9 (fun r1 g1 hp => ?_)
  obtain ⟨h1, rfl⟩ := hp
  cases h1
  refine g_if_eq (pc := 12) 24 dX5_restart_12 (by decide) (by decide) (fun _ => ?_) (fun h => absurd (by decide) h)
  refine g_iconst (pc := 24) (v := 4294967295) dX5_restart_24 (by decide +kernel) ?_
  exact g_iret (pc := 25) dX5_restart_25 ⟨mg_narI _, Or.inl rfl⟩ ⟨rfl, rfl⟩
/-- X4_restart(r4.0, 0) at qms6 -/
theorem qa158 (l : Launch) {D : va_G} {E : mg_E} {B : Nat} : mg_C l (D, E, true, B) mX4_restart [rv (D, E, true, B) 4 0, iv 0] qms6 (fun v g' => v = some 4294967295 ∧ g' = qms6) := by
  refine mg_C.of (by decide) rfl (Nat.le_of_ble_eq_true rfl) (List.forall_mem_cons.mpr ⟨rfl, (List.forall_mem_cons.mpr ⟨rfl, (fun _ h => nomatch h)⟩)⟩) (fun K => ?_)
  refine g_aload_n (pc := 0) dX4_restart_0 rfl ?_
  refine g_iload_n (pc := 1) dX4_restart_1 rfl ?_
  refine g_callVi (pc := 2) (Y' := mX4_isStation) (As := [iv 0]) (st := []) (k := 4) (i := 0) (qa29 K.2.1) gX4_restart_X4_isStation rfl (show 0 < 1 by omega) rfl rfl (na := 1) rfl (by decide +kernel) (by decide) (by decide) (Nat.le_of_ble_eq_true rfl) dX4_restart_2 (fun r1 g1 hp => ?_)
  obtain ⟨h1, rfl⟩ := hp
  cases h1
  refine g_if_eq (pc := 5) 20 dX4_restart_5 (by decide) (by decide) (fun h => absurd h (by decide)) (fun _ => ?_)
  refine g_aload_n (pc := 8) dX4_restart_8 rfl ?_
  refine fg_X4_restart_18 (pc := 9) dX4_restart_9 ?_
  refine g_iload_n (pc := 12) dX4_restart_12 rfl ?_
  refine g_aastation (pc := 13) (a := 0) (by decide) dX4_restart_13 ?_
  refine fg_X4_restart_211 (pc := 14) (show 0 < 24 by omega) dX4_restart_14 ?_
  refine g_top (b := 0) (by decide +kernel) ?_
  refine g_if_ne (pc := 17) 22 dX4_restart_17 (by decide) (by decide) (fun h => absurd (by decide) h) (fun _ => ?_)
  refine g_iconst (pc := 20) (v := 4294967295) dX4_restart_20 (by decide +kernel) ?_
  exact g_iret (pc := 21) dX4_restart_21 ⟨mg_narI _, Or.inl rfl⟩ ⟨rfl, rfl⟩
/-- X5_restart(r5.0, 0) at qms6 -/
theorem qa159 (l : Launch) {D : va_G} {E : mg_E} {B : Nat} : mg_C l (D, E, true, B) mX5_restart [rv (D, E, true, B) 5 0, iv 0] qms6 (fun v g' => v = some 4294967295 ∧ g' = qms6) := by
  refine mg_C.of (by decide) rfl (Nat.le_of_ble_eq_true rfl) (List.forall_mem_cons.mpr ⟨rfl, (List.forall_mem_cons.mpr ⟨rfl, (fun _ h => nomatch h)⟩)⟩) (fun K => ?_)
  refine g_aload_n (pc := 0) dX5_restart_0 rfl ?_
  refine fg_X5_restart_105 (pc := 1) (by rfl) dX5_restart_1 ?_
  refine g_top (b := 1) (by decide +kernel) ?_
  refine g_if_eq (pc := 4) 24 dX5_restart_4 (by decide) (by decide) (fun h => absurd h (by decide)) (fun _ => ?_)
  refine g_aload_n (pc := 7) dX5_restart_7 rfl ?_
  refine g_iload_n (pc := 8) dX5_restart_8 rfl ?_
  refine g_callVi (pc := 9) (Y' := mX5_isStation) (As := [iv 0]) (st := []) (k := 5) (i := 0) (qa32 K.2.1) gX5_restart_X5_isStation rfl (show 0 < 1 by omega) rfl rfl (na := 1) rfl (by decide +kernel) (by decide) (by decide) (Nat.le_of_ble_eq_true rfl) dX5_restart_9 (fun r1 g1 hp => ?_)
  obtain ⟨h1, rfl⟩ := hp
  cases h1
  refine g_if_eq (pc := 12) 24 dX5_restart_12 (by decide) (by decide) (fun h => absurd h (by decide)) (fun _ => ?_)
  refine g_aload_n (pc := 15) dX5_restart_15 rfl ?_
  refine fg_X5_restart_23 (pc := 16) (by rfl) dX5_restart_16 ?_
  refine g_iload_n (pc := 19) dX5_restart_19 rfl ?_
  refine g_baload (pc := 20) (k := 39) (i := 0) (n := 24) (show 0 < 1 by omega) rfl (by decide) (by decide) dX5_restart_20 ?_
  refine g_top (b := 0) (by decide +kernel) ?_
  refine g_if_ne (pc := 21) 26 dX5_restart_21 (by decide) (by decide) (fun h => absurd (by decide) h) (fun _ => ?_)
  refine g_iconst (pc := 24) (v := 4294967295) dX5_restart_24 (by decide +kernel) ?_
  exact g_iret (pc := 25) dX5_restart_25 ⟨mg_narI _, Or.inl rfl⟩ ⟨rfl, rfl⟩
/-- X4_restart(r4.0, 1) at qms6 -/
theorem qa160 (l : Launch) {D : va_G} {E : mg_E} {B : Nat} : mg_C l (D, E, true, B) mX4_restart [rv (D, E, true, B) 4 0, iv 1] qms6 (fun v g' => v = some 4294967295 ∧ g' = qms6) := by
  refine mg_C.of (by decide) rfl (Nat.le_of_ble_eq_true rfl) (List.forall_mem_cons.mpr ⟨rfl, (List.forall_mem_cons.mpr ⟨rfl, (fun _ h => nomatch h)⟩)⟩) (fun K => ?_)
  refine g_aload_n (pc := 0) dX4_restart_0 rfl ?_
  refine g_iload_n (pc := 1) dX4_restart_1 rfl ?_
  refine g_callVi (pc := 2) (Y' := mX4_isStation) (As := [iv 1]) (st := []) (k := 4) (i := 0) (qa50 K.2.1) gX4_restart_X4_isStation rfl (show 0 < 1 by omega) rfl rfl (na := 1) rfl (by decide +kernel) (by decide) (by decide) (Nat.le_of_ble_eq_true rfl) dX4_restart_2 (fun r1 g1 hp => ?_)
  obtain ⟨h1, rfl⟩ := hp
  cases h1
  refine g_if_eq (pc := 5) 20 dX4_restart_5 (by decide) (by decide) (fun h => absurd h (by decide)) (fun _ => ?_)
  refine g_aload_n (pc := 8) dX4_restart_8 rfl ?_
  refine fg_X4_restart_18 (pc := 9) dX4_restart_9 ?_
  refine g_iload_n (pc := 12) dX4_restart_12 rfl ?_
  refine g_aastation (pc := 13) (a := 1) (by decide) dX4_restart_13 ?_
  refine fg_X4_restart_211 (pc := 14) (show 1 < 24 by omega) dX4_restart_14 ?_
  refine g_top (b := 0) (by decide +kernel) ?_
  refine g_if_ne (pc := 17) 22 dX4_restart_17 (by decide) (by decide) (fun h => absurd (by decide) h) (fun _ => ?_)
  refine g_iconst (pc := 20) (v := 4294967295) dX4_restart_20 (by decide +kernel) ?_
  exact g_iret (pc := 21) dX4_restart_21 ⟨mg_narI _, Or.inl rfl⟩ ⟨rfl, rfl⟩
/-- X5_restart(r5.0, 1) at qms6 -/
theorem qa161 (l : Launch) {D : va_G} {E : mg_E} {B : Nat} : mg_C l (D, E, true, B) mX5_restart [rv (D, E, true, B) 5 0, iv 1] qms6 (fun v g' => v = some 4294967295 ∧ g' = qms6) := by
  refine mg_C.of (by decide) rfl (Nat.le_of_ble_eq_true rfl) (List.forall_mem_cons.mpr ⟨rfl, (List.forall_mem_cons.mpr ⟨rfl, (fun _ h => nomatch h)⟩)⟩) (fun K => ?_)
  refine g_aload_n (pc := 0) dX5_restart_0 rfl ?_
  refine fg_X5_restart_105 (pc := 1) (by rfl) dX5_restart_1 ?_
  refine g_top (b := 1) (by decide +kernel) ?_
  refine g_if_eq (pc := 4) 24 dX5_restart_4 (by decide) (by decide) (fun h => absurd h (by decide)) (fun _ => ?_)
  refine g_aload_n (pc := 7) dX5_restart_7 rfl ?_
  refine g_iload_n (pc := 8) dX5_restart_8 rfl ?_
  refine g_callVi (pc := 9) (Y' := mX5_isStation) (As := [iv 1]) (st := []) (k := 5) (i := 0) (qa53 K.2.1) gX5_restart_X5_isStation rfl (show 0 < 1 by omega) rfl rfl (na := 1) rfl (by decide +kernel) (by decide) (by decide) (Nat.le_of_ble_eq_true rfl) dX5_restart_9 (fun r1 g1 hp => ?_)
  obtain ⟨h1, rfl⟩ := hp
  cases h1
  refine g_if_eq (pc := 12) 24 dX5_restart_12 (by decide) (by decide) (fun h => absurd h (by decide)) (fun _ => ?_)
  refine g_aload_n (pc := 15) dX5_restart_15 rfl ?_
  refine fg_X5_restart_23 (pc := 16) (by rfl) dX5_restart_16 ?_
  refine g_iload_n (pc := 19) dX5_restart_19 rfl ?_
  refine g_baload (pc := 20) (k := 39) (i := 0) (n := 24) (show 0 < 1 by omega) rfl (by decide) (by decide) dX5_restart_20 ?_
  refine g_top (b := 0) (by decide +kernel) ?_
  refine g_if_ne (pc := 21) 26 dX5_restart_21 (by decide) (by decide) (fun h => absurd (by decide) h) (fun _ => ?_)
  refine g_iconst (pc := 24) (v := 4294967295) dX5_restart_24 (by decide +kernel) ?_
  exact g_iret (pc := 25) dX5_restart_25 ⟨mg_narI _, Or.inl rfl⟩ ⟨rfl, rfl⟩
/-- X4_cut(r4.0, a[2147483648,4294967295], b[0,4294967295]) at qms6 -/
theorem qa162 (l : Launch) {D : va_G} {E : mg_E} {B : Nat} (a : Nat) (h_a : 2147483648 ≤ a) (k_a : a ≤ 4294967295) (b : Nat) (h_b : 0 ≤ b) (k_b : b ≤ 4294967295) : mg_C l (D, E, true, B) mX4_cut [rv (D, E, true, B) 4 0, iv a, iv b] qms6 (fun v g' => v = some 4294967295 ∧ g' = qms6) := by
  refine mg_C.of (by decide) rfl (Nat.le_of_ble_eq_true rfl) (List.forall_mem_cons.mpr ⟨rfl, (List.forall_mem_cons.mpr ⟨rfl, (List.forall_mem_cons.mpr ⟨rfl, (fun _ h => nomatch h)⟩)⟩)⟩) (fun K => ?_)
  refine g_aload_n (pc := 0) dX4_cut_0 rfl ?_
  refine g_iload_n (pc := 1) dX4_cut_1 rfl ?_
  refine g_callVi (pc := 2) (Y' := mX4_isStation) (As := [iv a]) (st := []) (k := 4) (i := 0) (qa15 K.2.1 a h_a k_a) gX4_cut_X4_isStation rfl (show 0 < 1 by omega) rfl rfl (na := 1) rfl (by decide +kernel) (by decide) (by decide) (Nat.le_of_ble_eq_true rfl) dX4_cut_2 (fun r1 g1 hp => ?_)
  obtain ⟨h1, rfl⟩ := hp
  cases h1
  refine g_if_eq (pc := 5) 28 dX4_cut_5 (by decide) (by decide) (fun _ => ?_) (fun h => absurd (by decide) h)
  refine g_iconst (pc := 28) (v := 4294967295) dX4_cut_28 (by decide +kernel) ?_
  exact g_iret (pc := 29) dX4_cut_29 ⟨mg_narI _, Or.inl rfl⟩ ⟨rfl, rfl⟩
/-- X5_cut(r5.0, a[2147483648,4294967295], b[0,4294967295]) at qms6 -/
theorem qa163 (l : Launch) {D : va_G} {E : mg_E} {B : Nat} (a : Nat) (h_a : 2147483648 ≤ a) (k_a : a ≤ 4294967295) (b : Nat) (h_b : 0 ≤ b) (k_b : b ≤ 4294967295) : mg_C l (D, E, true, B) mX5_cut [rv (D, E, true, B) 5 0, iv a, iv b] qms6 (fun v g' => v = some 4294967295 ∧ g' = qms6) := by
  refine mg_C.of (by decide) rfl (Nat.le_of_ble_eq_true rfl) (List.forall_mem_cons.mpr ⟨rfl, (List.forall_mem_cons.mpr ⟨rfl, (List.forall_mem_cons.mpr ⟨rfl, (fun _ h => nomatch h)⟩)⟩)⟩) (fun K => ?_)
  refine g_aload_n (pc := 0) dX5_cut_0 rfl ?_
  refine fg_X5_cut_105 (pc := 1) (by rfl) dX5_cut_1 ?_
  refine g_top (b := 1) (by decide +kernel) ?_
  refine g_if_eq (pc := 4) 37 dX5_cut_4 (by decide) (by decide) (fun h => absurd h (by decide)) (fun _ => ?_)
  refine g_aload_n (pc := 7) dX5_cut_7 rfl ?_
  refine g_iload_n (pc := 8) dX5_cut_8 rfl ?_
  refine g_callVi (pc := 9) (Y' := mX5_isStation) (As := [iv a]) (st := []) (k := 5) (i := 0) (qa18 K.2.1 a h_a k_a) gX5_cut_X5_isStation rfl (show 0 < 1 by omega) rfl rfl (na := 1) rfl (by decide +kernel) (by decide) (by decide) (Nat.le_of_ble_eq_true rfl) dX5_cut_9 (fun r1 g1 hp => ?_)
  obtain ⟨h1, rfl⟩ := hp
  cases h1
  refine g_if_eq (pc := 12) 37 dX5_cut_12 (by decide) (by decide) (fun _ => ?_) (fun h => absurd (by decide) h)
  refine g_iconst (pc := 37) (v := 4294967295) dX5_cut_37 (by decide +kernel) ?_
  exact g_iret (pc := 38) dX5_cut_38 ⟨mg_narI _, Or.inl rfl⟩ ⟨rfl, rfl⟩
/-- X4_cut(r4.0, a[2,2147483647], b[0,4294967295]) at qms6 -/
theorem qa164 (l : Launch) {D : va_G} {E : mg_E} {B : Nat} (a : Nat) (h_a : 2 ≤ a) (k_a : a ≤ 2147483647) (b : Nat) (h_b : 0 ≤ b) (k_b : b ≤ 4294967295) : mg_C l (D, E, true, B) mX4_cut [rv (D, E, true, B) 4 0, iv a, iv b] qms6 (fun v g' => v = some 4294967295 ∧ g' = qms6) := by
  refine mg_C.of (by decide) rfl (Nat.le_of_ble_eq_true rfl) (List.forall_mem_cons.mpr ⟨rfl, (List.forall_mem_cons.mpr ⟨rfl, (List.forall_mem_cons.mpr ⟨rfl, (fun _ h => nomatch h)⟩)⟩)⟩) (fun K => ?_)
  refine g_aload_n (pc := 0) dX4_cut_0 rfl ?_
  refine g_iload_n (pc := 1) dX4_cut_1 rfl ?_
  refine g_callVi (pc := 2) (Y' := mX4_isStation) (As := [iv a]) (st := []) (k := 4) (i := 0) (qa22 K.2.1 a h_a k_a) gX4_cut_X4_isStation rfl (show 0 < 1 by omega) rfl rfl (na := 1) rfl (by decide +kernel) (by decide) (by decide) (Nat.le_of_ble_eq_true rfl) dX4_cut_2 (fun r1 g1 hp => ?_)
  obtain ⟨h1, rfl⟩ := hp
  cases h1
  refine g_if_eq (pc := 5) 28 dX4_cut_5 (by decide) (by decide) (fun _ => ?_) (fun h => absurd (by decide) h)
  refine g_iconst (pc := 28) (v := 4294967295) dX4_cut_28 (by decide +kernel) ?_
  exact g_iret (pc := 29) dX4_cut_29 ⟨mg_narI _, Or.inl rfl⟩ ⟨rfl, rfl⟩
/-- X5_cut(r5.0, a[2,2147483647], b[0,4294967295]) at qms6 -/
theorem qa165 (l : Launch) {D : va_G} {E : mg_E} {B : Nat} (a : Nat) (h_a : 2 ≤ a) (k_a : a ≤ 2147483647) (b : Nat) (h_b : 0 ≤ b) (k_b : b ≤ 4294967295) : mg_C l (D, E, true, B) mX5_cut [rv (D, E, true, B) 5 0, iv a, iv b] qms6 (fun v g' => v = some 4294967295 ∧ g' = qms6) := by
  refine mg_C.of (by decide) rfl (Nat.le_of_ble_eq_true rfl) (List.forall_mem_cons.mpr ⟨rfl, (List.forall_mem_cons.mpr ⟨rfl, (List.forall_mem_cons.mpr ⟨rfl, (fun _ h => nomatch h)⟩)⟩)⟩) (fun K => ?_)
  refine g_aload_n (pc := 0) dX5_cut_0 rfl ?_
  refine fg_X5_cut_105 (pc := 1) (by rfl) dX5_cut_1 ?_
  refine g_top (b := 1) (by decide +kernel) ?_
  refine g_if_eq (pc := 4) 37 dX5_cut_4 (by decide) (by decide) (fun h => absurd h (by decide)) (fun _ => ?_)
  refine g_aload_n (pc := 7) dX5_cut_7 rfl ?_
  refine g_iload_n (pc := 8) dX5_cut_8 rfl ?_
  refine g_callVi (pc := 9) (Y' := mX5_isStation) (As := [iv a]) (st := []) (k := 5) (i := 0) (qa25 K.2.1 a h_a k_a) gX5_cut_X5_isStation rfl (show 0 < 1 by omega) rfl rfl (na := 1) rfl (by decide +kernel) (by decide) (by decide) (Nat.le_of_ble_eq_true rfl) dX5_cut_9 (fun r1 g1 hp => ?_)
  obtain ⟨h1, rfl⟩ := hp
  cases h1
  refine g_if_eq (pc := 12) 37 dX5_cut_12 (by decide) (by decide) (fun _ => ?_) (fun h => absurd (by decide) h)
  refine g_iconst (pc := 37) (v := 4294967295) dX5_cut_37 (by decide +kernel) ?_
  exact g_iret (pc := 38) dX5_cut_38 ⟨mg_narI _, Or.inl rfl⟩ ⟨rfl, rfl⟩
/-- X0_has(r0.0, b[2147483648,4294967295]) at qms6 -/
theorem qa166 (l : Launch) {D : va_G} {E : mg_E} {B : Nat} (b : Nat) (h_b : 2147483648 ≤ b) (k_b : b ≤ 4294967295) : mg_C l (D, E, true, B) mX0_has [rv (D, E, true, B) 0 0, iv b] qms6 (fun v g' => v = some 0 ∧ g' = qms6) := by
  refine mg_C.of (by decide) rfl (Nat.le_of_ble_eq_true rfl) (List.forall_mem_cons.mpr ⟨rfl, (List.forall_mem_cons.mpr ⟨rfl, (fun _ h => nomatch h)⟩)⟩) (fun K => ?_)
  refine g_iload_n (pc := 0) dX0_has_0 rfl ?_
  refine g_sif_lt (pc := 1) 16 dX0_has_1 (by decide) (by omega) (fun _ => ?_) (fun h => absurd (by have q := mg_sgn h_b (by omega : b < 4294967296); omega) h)
  refine g_iconst (pc := 16) (v := 0) dX0_has_16 (by decide +kernel) ?_
  exact g_iret (pc := 17) dX0_has_17 ⟨mg_narZ (by decide), Or.inr rfl⟩ ⟨rfl, rfl⟩
/-- X4_isStation(r4.0, b[2147483648,4294967295]) at qms6 -/
theorem qa167 (l : Launch) {D : va_G} {E : mg_E} {B : Nat} (b : Nat) (h_b : 2147483648 ≤ b) (k_b : b ≤ 4294967295) : mg_C l (D, E, true, B) mX4_isStation [rv (D, E, true, B) 4 0, iv b] qms6 (fun v g' => v = some 0 ∧ g' = qms6) := by
  refine mg_C.of (by decide) rfl (Nat.le_of_ble_eq_true rfl) (List.forall_mem_cons.mpr ⟨rfl, (List.forall_mem_cons.mpr ⟨rfl, (fun _ h => nomatch h)⟩)⟩) (fun K => ?_)
  refine g_aload_n (pc := 0) dX4_isStation_0 rfl ?_
  refine fg_X4_isStation_55 (pc := 1) dX4_isStation_1 ?_
  refine g_top (b := 1) (by decide +kernel) ?_
  refine g_if_eq (pc := 4) 22 dX4_isStation_4 (by decide) (by decide) (fun h => absurd h (by decide)) (fun _ => ?_)
  refine g_aload_n (pc := 7) dX4_isStation_7 rfl ?_
  refine fg_X4_isStation_10 (pc := 8) dX4_isStation_8 ?_
  refine g_iload_n (pc := 11) dX4_isStation_11 rfl ?_
  refine g_callVi (pc := 12) (Y' := mX0_has) (As := [iv b]) (st := []) (k := 0) (i := 0) (qa166 K.2.1 b h_b k_b) gX4_isStation_X0_has rfl (show 0 < 1 by omega) rfl rfl (na := 1) rfl (by decide +kernel) (by decide) (by decide) (Nat.le_of_ble_eq_true rfl) dX4_isStation_12 (fun r1 g1 hp => ?_)
  obtain ⟨h1, rfl⟩ := hp
  cases h1
  refine g_if_eq (pc := 15) 22 dX4_isStation_15 (by decide) (by decide) (fun _ => ?_) (fun h => absurd (by decide) h)
  refine g_iconst (pc := 22) (v := 0) dX4_isStation_22 (by decide +kernel) ?_
  exact g_iret (pc := 23) dX4_isStation_23 ⟨mg_narZ (by decide), Or.inr rfl⟩ ⟨rfl, rfl⟩
/-- X4_cut(r4.0, 0, b[2147483648,4294967295]) at qms6 -/
theorem qa168 (l : Launch) {D : va_G} {E : mg_E} {B : Nat} (b : Nat) (h_b : 2147483648 ≤ b) (k_b : b ≤ 4294967295) : mg_C l (D, E, true, B) mX4_cut [rv (D, E, true, B) 4 0, iv 0, iv b] qms6 (fun v g' => v = some 4294967295 ∧ g' = qms6) := by
  refine mg_C.of (by decide) rfl (Nat.le_of_ble_eq_true rfl) (List.forall_mem_cons.mpr ⟨rfl, (List.forall_mem_cons.mpr ⟨rfl, (List.forall_mem_cons.mpr ⟨rfl, (fun _ h => nomatch h)⟩)⟩)⟩) (fun K => ?_)
  refine g_aload_n (pc := 0) dX4_cut_0 rfl ?_
  refine g_iload_n (pc := 1) dX4_cut_1 rfl ?_
  refine g_callVi (pc := 2) (Y' := mX4_isStation) (As := [iv 0]) (st := []) (k := 4) (i := 0) (qa29 K.2.1) gX4_cut_X4_isStation rfl (show 0 < 1 by omega) rfl rfl (na := 1) rfl (by decide +kernel) (by decide) (by decide) (Nat.le_of_ble_eq_true rfl) dX4_cut_2 (fun r1 g1 hp => ?_)
  obtain ⟨h1, rfl⟩ := hp
  cases h1
  refine g_if_eq (pc := 5) 28 dX4_cut_5 (by decide) (by decide) (fun h => absurd h (by decide)) (fun _ => ?_)
  refine g_aload_n (pc := 8) dX4_cut_8 rfl ?_
  refine g_iload_n (pc := 9) dX4_cut_9 rfl ?_
  refine g_callVi (pc := 10) (Y' := mX4_isStation) (As := [iv b]) (st := []) (k := 4) (i := 0) (qa167 K.2.1 b h_b k_b) gX4_cut_X4_isStation rfl (show 0 < 1 by omega) rfl rfl (na := 1) rfl (by decide +kernel) (by decide) (by decide) (Nat.le_of_ble_eq_true rfl) dX4_cut_10 (fun r1 g1 hp => ?_)
  obtain ⟨h1, rfl⟩ := hp
  cases h1
  refine g_if_eq (pc := 13) 28 dX4_cut_13 (by decide) (by decide) (fun _ => ?_) (fun h => absurd (by decide) h)
  refine g_iconst (pc := 28) (v := 4294967295) dX4_cut_28 (by decide +kernel) ?_
  exact g_iret (pc := 29) dX4_cut_29 ⟨mg_narI _, Or.inl rfl⟩ ⟨rfl, rfl⟩
/-- X5_isStation(r5.0, b[2147483648,4294967295]) at qms6 -/
theorem qa169 (l : Launch) {D : va_G} {E : mg_E} {B : Nat} (b : Nat) (h_b : 2147483648 ≤ b) (k_b : b ≤ 4294967295) : mg_C l (D, E, true, B) mX5_isStation [rv (D, E, true, B) 5 0, iv b] qms6 (fun v g' => v = some 0 ∧ g' = qms6) := by
  refine mg_C.of (by decide) rfl (Nat.le_of_ble_eq_true rfl) (List.forall_mem_cons.mpr ⟨rfl, (List.forall_mem_cons.mpr ⟨rfl, (fun _ h => nomatch h)⟩)⟩) (fun K => ?_)
  refine g_iload_n (pc := 0) dX5_isStation_0 rfl ?_
  refine g_sif_lt (pc := 1) 16 dX5_isStation_1 (by decide) (by omega) (fun _ => ?_) (fun h => absurd (by have q := mg_sgn h_b (by omega : b < 4294967296); omega) h)
  refine g_iconst (pc := 16) (v := 0) dX5_isStation_16 (by decide +kernel) ?_
  exact g_iret (pc := 17) dX5_isStation_17 ⟨mg_narZ (by decide), Or.inr rfl⟩ ⟨rfl, rfl⟩
/-- X5_cut(r5.0, 0, b[2147483648,4294967295]) at qms6 -/
theorem qa170 (l : Launch) {D : va_G} {E : mg_E} {B : Nat} (b : Nat) (h_b : 2147483648 ≤ b) (k_b : b ≤ 4294967295) : mg_C l (D, E, true, B) mX5_cut [rv (D, E, true, B) 5 0, iv 0, iv b] qms6 (fun v g' => v = some 4294967295 ∧ g' = qms6) := by
  refine mg_C.of (by decide) rfl (Nat.le_of_ble_eq_true rfl) (List.forall_mem_cons.mpr ⟨rfl, (List.forall_mem_cons.mpr ⟨rfl, (List.forall_mem_cons.mpr ⟨rfl, (fun _ h => nomatch h)⟩)⟩)⟩) (fun K => ?_)
  refine g_aload_n (pc := 0) dX5_cut_0 rfl ?_
  refine fg_X5_cut_105 (pc := 1) (by rfl) dX5_cut_1 ?_
  refine g_top (b := 1) (by decide +kernel) ?_
  refine g_if_eq (pc := 4) 37 dX5_cut_4 (by decide) (by decide) (fun h => absurd h (by decide)) (fun _ => ?_)
  refine g_aload_n (pc := 7) dX5_cut_7 rfl ?_
  refine g_iload_n (pc := 8) dX5_cut_8 rfl ?_
  refine g_callVi (pc := 9) (Y' := mX5_isStation) (As := [iv 0]) (st := []) (k := 5) (i := 0) (qa32 K.2.1) gX5_cut_X5_isStation rfl (show 0 < 1 by omega) rfl rfl (na := 1) rfl (by decide +kernel) (by decide) (by decide) (Nat.le_of_ble_eq_true rfl) dX5_cut_9 (fun r1 g1 hp => ?_)
  obtain ⟨h1, rfl⟩ := hp
  cases h1
  refine g_if_eq (pc := 12) 37 dX5_cut_12 (by decide) (by decide) (fun h => absurd h (by decide)) (fun _ => ?_)
  refine g_aload_n (pc := 15) dX5_cut_15 rfl ?_
  refine g_iload_n (pc := 16) dX5_cut_16 rfl ?_
  refine g_callVi (pc := 17) (Y' := mX5_isStation) (As := [iv b]) (st := []) (k := 5) (i := 0) (qa169 K.2.1 b h_b k_b) gX5_cut_X5_isStation rfl (show 0 < 1 by omega) rfl rfl (na := 1) rfl (by decide +kernel) (by decide) (by decide) (Nat.le_of_ble_eq_true rfl) dX5_cut_17 (fun r1 g1 hp => ?_)
  obtain ⟨h1, rfl⟩ := hp
  cases h1
  refine g_if_eq (pc := 20) 37 dX5_cut_20 (by decide) (by decide) (fun _ => ?_) (fun h => absurd (by decide) h)
  refine g_iconst (pc := 37) (v := 4294967295) dX5_cut_37 (by decide +kernel) ?_
  exact g_iret (pc := 38) dX5_cut_38 ⟨mg_narI _, Or.inl rfl⟩ ⟨rfl, rfl⟩
/-- X0_has(r0.0, b[2,2147483647]) at qms6 -/
theorem qa171 (l : Launch) {D : va_G} {E : mg_E} {B : Nat} (b : Nat) (h_b : 2 ≤ b) (k_b : b ≤ 2147483647) : mg_C l (D, E, true, B) mX0_has [rv (D, E, true, B) 0 0, iv b] qms6 (fun v g' => v = some 0 ∧ g' = qms6) := by
  refine mg_C.of (by decide) rfl (Nat.le_of_ble_eq_true rfl) (List.forall_mem_cons.mpr ⟨rfl, (List.forall_mem_cons.mpr ⟨rfl, (fun _ h => nomatch h)⟩)⟩) (fun K => ?_)
  refine g_iload_n (pc := 0) dX0_has_0 rfl ?_
  refine g_sif_lt (pc := 1) 16 dX0_has_1 (by decide) (by omega) (fun h => absurd h (by have q := mg_sgs (a := b) (by omega); omega)) (fun _ => ?_)
  refine g_iload_n (pc := 4) dX0_has_4 rfl ?_
  refine g_aload_n (pc := 5) dX0_has_5 rfl ?_
  refine fg_X0_has_21 (pc := 6) dX0_has_6 ?_
  refine g_top (b := 2) (by decide +kernel) ?_
  refine g_icmp_ge (pc := 9) 16 dX0_has_9 (by decide) (by omega) (by decide) (fun _ => ?_) (fun h => absurd (by omega) h)
  refine g_iconst (pc := 16) (v := 0) dX0_has_16 (by decide +kernel) ?_
  exact g_iret (pc := 17) dX0_has_17 ⟨mg_narZ (by decide), Or.inr rfl⟩ ⟨rfl, rfl⟩
/-- X4_isStation(r4.0, b[2,2147483647]) at qms6 -/
theorem qa172 (l : Launch) {D : va_G} {E : mg_E} {B : Nat} (b : Nat) (h_b : 2 ≤ b) (k_b : b ≤ 2147483647) : mg_C l (D, E, true, B) mX4_isStation [rv (D, E, true, B) 4 0, iv b] qms6 (fun v g' => v = some 0 ∧ g' = qms6) := by
  refine mg_C.of (by decide) rfl (Nat.le_of_ble_eq_true rfl) (List.forall_mem_cons.mpr ⟨rfl, (List.forall_mem_cons.mpr ⟨rfl, (fun _ h => nomatch h)⟩)⟩) (fun K => ?_)
  refine g_aload_n (pc := 0) dX4_isStation_0 rfl ?_
  refine fg_X4_isStation_55 (pc := 1) dX4_isStation_1 ?_
  refine g_top (b := 1) (by decide +kernel) ?_
  refine g_if_eq (pc := 4) 22 dX4_isStation_4 (by decide) (by decide) (fun h => absurd h (by decide)) (fun _ => ?_)
  refine g_aload_n (pc := 7) dX4_isStation_7 rfl ?_
  refine fg_X4_isStation_10 (pc := 8) dX4_isStation_8 ?_
  refine g_iload_n (pc := 11) dX4_isStation_11 rfl ?_
  refine g_callVi (pc := 12) (Y' := mX0_has) (As := [iv b]) (st := []) (k := 0) (i := 0) (qa171 K.2.1 b h_b k_b) gX4_isStation_X0_has rfl (show 0 < 1 by omega) rfl rfl (na := 1) rfl (by decide +kernel) (by decide) (by decide) (Nat.le_of_ble_eq_true rfl) dX4_isStation_12 (fun r1 g1 hp => ?_)
  obtain ⟨h1, rfl⟩ := hp
  cases h1
  refine g_if_eq (pc := 15) 22 dX4_isStation_15 (by decide) (by decide) (fun _ => ?_) (fun h => absurd (by decide) h)
  refine g_iconst (pc := 22) (v := 0) dX4_isStation_22 (by decide +kernel) ?_
  exact g_iret (pc := 23) dX4_isStation_23 ⟨mg_narZ (by decide), Or.inr rfl⟩ ⟨rfl, rfl⟩
/-- X4_cut(r4.0, 0, b[2,2147483647]) at qms6 -/
theorem qa173 (l : Launch) {D : va_G} {E : mg_E} {B : Nat} (b : Nat) (h_b : 2 ≤ b) (k_b : b ≤ 2147483647) : mg_C l (D, E, true, B) mX4_cut [rv (D, E, true, B) 4 0, iv 0, iv b] qms6 (fun v g' => v = some 4294967295 ∧ g' = qms6) := by
  refine mg_C.of (by decide) rfl (Nat.le_of_ble_eq_true rfl) (List.forall_mem_cons.mpr ⟨rfl, (List.forall_mem_cons.mpr ⟨rfl, (List.forall_mem_cons.mpr ⟨rfl, (fun _ h => nomatch h)⟩)⟩)⟩) (fun K => ?_)
  refine g_aload_n (pc := 0) dX4_cut_0 rfl ?_
  refine g_iload_n (pc := 1) dX4_cut_1 rfl ?_
  refine g_callVi (pc := 2) (Y' := mX4_isStation) (As := [iv 0]) (st := []) (k := 4) (i := 0) (qa29 K.2.1) gX4_cut_X4_isStation rfl (show 0 < 1 by omega) rfl rfl (na := 1) rfl (by decide +kernel) (by decide) (by decide) (Nat.le_of_ble_eq_true rfl) dX4_cut_2 (fun r1 g1 hp => ?_)
  obtain ⟨h1, rfl⟩ := hp
  cases h1
  refine g_if_eq (pc := 5) 28 dX4_cut_5 (by decide) (by decide) (fun h => absurd h (by decide)) (fun _ => ?_)
  refine g_aload_n (pc := 8) dX4_cut_8 rfl ?_
  refine g_iload_n (pc := 9) dX4_cut_9 rfl ?_
  refine g_callVi (pc := 10) (Y' := mX4_isStation) (As := [iv b]) (st := []) (k := 4) (i := 0) (qa172 K.2.1 b h_b k_b) gX4_cut_X4_isStation rfl (show 0 < 1 by omega) rfl rfl (na := 1) rfl (by decide +kernel) (by decide) (by decide) (Nat.le_of_ble_eq_true rfl) dX4_cut_10 (fun r1 g1 hp => ?_)
  obtain ⟨h1, rfl⟩ := hp
  cases h1
  refine g_if_eq (pc := 13) 28 dX4_cut_13 (by decide) (by decide) (fun _ => ?_) (fun h => absurd (by decide) h)
  refine g_iconst (pc := 28) (v := 4294967295) dX4_cut_28 (by decide +kernel) ?_
  exact g_iret (pc := 29) dX4_cut_29 ⟨mg_narI _, Or.inl rfl⟩ ⟨rfl, rfl⟩
/-- X5_isStation(r5.0, b[2,2147483647]) at qms6 -/
theorem qa174 (l : Launch) {D : va_G} {E : mg_E} {B : Nat} (b : Nat) (h_b : 2 ≤ b) (k_b : b ≤ 2147483647) : mg_C l (D, E, true, B) mX5_isStation [rv (D, E, true, B) 5 0, iv b] qms6 (fun v g' => v = some 0 ∧ g' = qms6) := by
  refine mg_C.of (by decide) rfl (Nat.le_of_ble_eq_true rfl) (List.forall_mem_cons.mpr ⟨rfl, (List.forall_mem_cons.mpr ⟨rfl, (fun _ h => nomatch h)⟩)⟩) (fun K => ?_)
  refine g_iload_n (pc := 0) dX5_isStation_0 rfl ?_
  refine g_sif_lt (pc := 1) 16 dX5_isStation_1 (by decide) (by omega) (fun h => absurd h (by have q := mg_sgs (a := b) (by omega); omega)) (fun _ => ?_)
  refine g_iload_n (pc := 4) dX5_isStation_4 rfl ?_
  refine g_aload_n (pc := 5) dX5_isStation_5 rfl ?_
  refine fg_X5_isStation_101 (pc := 6) (by rfl) dX5_isStation_6 ?_
  refine g_top (b := 2) (by decide +kernel) ?_
  refine g_icmp_ge (pc := 9) 16 dX5_isStation_9 (by decide) (by omega) (by decide) (fun _ => ?_) (fun h => absurd (by omega) h)
  refine g_iconst (pc := 16) (v := 0) dX5_isStation_16 (by decide +kernel) ?_
  exact g_iret (pc := 17) dX5_isStation_17 ⟨mg_narZ (by decide), Or.inr rfl⟩ ⟨rfl, rfl⟩
/-- X5_cut(r5.0, 0, b[2,2147483647]) at qms6 -/
theorem qa175 (l : Launch) {D : va_G} {E : mg_E} {B : Nat} (b : Nat) (h_b : 2 ≤ b) (k_b : b ≤ 2147483647) : mg_C l (D, E, true, B) mX5_cut [rv (D, E, true, B) 5 0, iv 0, iv b] qms6 (fun v g' => v = some 4294967295 ∧ g' = qms6) := by
  refine mg_C.of (by decide) rfl (Nat.le_of_ble_eq_true rfl) (List.forall_mem_cons.mpr ⟨rfl, (List.forall_mem_cons.mpr ⟨rfl, (List.forall_mem_cons.mpr ⟨rfl, (fun _ h => nomatch h)⟩)⟩)⟩) (fun K => ?_)
  refine g_aload_n (pc := 0) dX5_cut_0 rfl ?_
  refine fg_X5_cut_105 (pc := 1) (by rfl) dX5_cut_1 ?_
  refine g_top (b := 1) (by decide +kernel) ?_
  refine g_if_eq (pc := 4) 37 dX5_cut_4 (by decide) (by decide) (fun h => absurd h (by decide)) (fun _ => ?_)
  refine g_aload_n (pc := 7) dX5_cut_7 rfl ?_
  refine g_iload_n (pc := 8) dX5_cut_8 rfl ?_
  refine g_callVi (pc := 9) (Y' := mX5_isStation) (As := [iv 0]) (st := []) (k := 5) (i := 0) (qa32 K.2.1) gX5_cut_X5_isStation rfl (show 0 < 1 by omega) rfl rfl (na := 1) rfl (by decide +kernel) (by decide) (by decide) (Nat.le_of_ble_eq_true rfl) dX5_cut_9 (fun r1 g1 hp => ?_)
  obtain ⟨h1, rfl⟩ := hp
  cases h1
  refine g_if_eq (pc := 12) 37 dX5_cut_12 (by decide) (by decide) (fun h => absurd h (by decide)) (fun _ => ?_)
  refine g_aload_n (pc := 15) dX5_cut_15 rfl ?_
  refine g_iload_n (pc := 16) dX5_cut_16 rfl ?_
  refine g_callVi (pc := 17) (Y' := mX5_isStation) (As := [iv b]) (st := []) (k := 5) (i := 0) (qa174 K.2.1 b h_b k_b) gX5_cut_X5_isStation rfl (show 0 < 1 by omega) rfl rfl (na := 1) rfl (by decide +kernel) (by decide) (by decide) (Nat.le_of_ble_eq_true rfl) dX5_cut_17 (fun r1 g1 hp => ?_)
  obtain ⟨h1, rfl⟩ := hp
  cases h1
  refine g_if_eq (pc := 20) 37 dX5_cut_20 (by decide) (by decide) (fun _ => ?_) (fun h => absurd (by decide) h)
  refine g_iconst (pc := 37) (v := 4294967295) dX5_cut_37 (by decide +kernel) ?_
  exact g_iret (pc := 38) dX5_cut_38 ⟨mg_narI _, Or.inl rfl⟩ ⟨rfl, rfl⟩
/-- X4_contains(2, 0) at qms6 -/
theorem qa176 (l : Launch) {D : va_G} {E : mg_E} {B : Nat} : mg_C l (D, E, true, B) mX4_contains [iv 2, iv 0] qms6 (fun v g' => v = some 0 ∧ g' = qms6) := by
  refine mg_C.of (by decide) rfl (Nat.le_of_ble_eq_true rfl) (List.forall_mem_cons.mpr ⟨rfl, (List.forall_mem_cons.mpr ⟨rfl, (fun _ h => nomatch h)⟩)⟩) (fun K => ?_)
  refine g_iload_n (pc := 0) dX4_contains_0 rfl ?_
  refine g_iconst (pc := 1) (v := 1) dX4_contains_1 (by decide +kernel) ?_
  refine g_iload_n (pc := 2) dX4_contains_2 rfl ?_
  refine g_ishl (pc := 3) (by decide) dX4_contains_3 ?_
  refine g_top (b := 1) (by decide +kernel) ?_
  refine g_iand (pc := 4) dX4_contains_4 ?_
  refine g_top (b := 0) (by decide +kernel) ?_
  refine g_if_eq (pc := 5) 12 dX4_contains_5 (by decide) (by decide) (fun _ => ?_) (fun h => absurd (by decide) h)
  refine g_iconst (pc := 12) (v := 0) dX4_contains_12 (by decide +kernel) ?_
  exact g_iret (pc := 13) dX4_contains_13 ⟨mg_narZ (by decide), Or.inr rfl⟩ ⟨rfl, rfl⟩
/-- X0_linked(r0.0, 0, 0) at qms6 -/
theorem qa177 (l : Launch) {D : va_G} {E : mg_E} {B : Nat} : mg_C l (D, E, true, B) mX0_linked [rv (D, E, true, B) 0 0, iv 0, iv 0] qms6 (fun v g' => v = some 0 ∧ g' = qms6) := by
  refine mg_C.of (by decide) rfl (Nat.le_of_ble_eq_true rfl) (List.forall_mem_cons.mpr ⟨rfl, (List.forall_mem_cons.mpr ⟨rfl, (List.forall_mem_cons.mpr ⟨rfl, (fun _ h => nomatch h)⟩)⟩)⟩) (fun K => ?_)
  refine g_aload_n (pc := 0) dX0_linked_0 rfl ?_
  refine fg_X0_linked_9 (pc := 1) dX0_linked_1 ?_
  refine g_iload_n (pc := 4) dX0_linked_4 rfl ?_
  refine g_iaload (pc := 5) (k := 10) (i := 0) (n := 24) (show 0 < 1 by omega) rfl (by decide) (by decide) dX0_linked_5 ?_
  refine g_top (b := 2) (by decide +kernel) ?_
  refine g_iload_n (pc := 6) dX0_linked_6 rfl ?_
  refine g_callNi (pc := 7) (Y' := mX4_contains) (As := [iv 2, iv 0]) (st := []) (qa176 K.2.1) gX0_linked_X4_contains_n28 rfl (fun _ h => h.2.2.1) (by decide +kernel) (by decide +kernel) (na := 2) rfl (by decide +kernel) (by decide) (by decide) (Nat.le_of_ble_eq_true rfl) dX0_linked_7 (fun r1 g1 hp => ?_)
  obtain ⟨h1, rfl⟩ := hp
  cases h1
  exact g_iret (pc := 10) dX0_linked_10 ⟨mg_narZ (by decide), Or.inr rfl⟩ ⟨rfl, rfl⟩
/-- X4_cut(r4.0, 0, 0) at qms6 -/
theorem qa178 (l : Launch) {D : va_G} {E : mg_E} {B : Nat} : mg_C l (D, E, true, B) mX4_cut [rv (D, E, true, B) 4 0, iv 0, iv 0] qms6 (fun v g' => v = some 4294967295 ∧ g' = qms6) := by
  refine mg_C.of (by decide) rfl (Nat.le_of_ble_eq_true rfl) (List.forall_mem_cons.mpr ⟨rfl, (List.forall_mem_cons.mpr ⟨rfl, (List.forall_mem_cons.mpr ⟨rfl, (fun _ h => nomatch h)⟩)⟩)⟩) (fun K => ?_)
  refine g_aload_n (pc := 0) dX4_cut_0 rfl ?_
  refine g_iload_n (pc := 1) dX4_cut_1 rfl ?_
  refine g_callVi (pc := 2) (Y' := mX4_isStation) (As := [iv 0]) (st := []) (k := 4) (i := 0) (qa29 K.2.1) gX4_cut_X4_isStation rfl (show 0 < 1 by omega) rfl rfl (na := 1) rfl (by decide +kernel) (by decide) (by decide) (Nat.le_of_ble_eq_true rfl) dX4_cut_2 (fun r1 g1 hp => ?_)
  obtain ⟨h1, rfl⟩ := hp
  cases h1
  refine g_if_eq (pc := 5) 28 dX4_cut_5 (by decide) (by decide) (fun h => absurd h (by decide)) (fun _ => ?_)
  refine g_aload_n (pc := 8) dX4_cut_8 rfl ?_
  refine g_iload_n (pc := 9) dX4_cut_9 rfl ?_
  refine g_callVi (pc := 10) (Y' := mX4_isStation) (As := [iv 0]) (st := []) (k := 4) (i := 0) (qa29 K.2.1) gX4_cut_X4_isStation rfl (show 0 < 1 by omega) rfl rfl (na := 1) rfl (by decide +kernel) (by decide) (by decide) (Nat.le_of_ble_eq_true rfl) dX4_cut_10 (fun r1 g1 hp => ?_)
  obtain ⟨h1, rfl⟩ := hp
  cases h1
  refine g_if_eq (pc := 13) 28 dX4_cut_13 (by decide) (by decide) (fun h => absurd h (by decide)) (fun _ => ?_)
  refine g_aload_n (pc := 16) dX4_cut_16 rfl ?_
  refine fg_X4_cut_10 (pc := 17) dX4_cut_17 ?_
  refine g_iload_n (pc := 20) dX4_cut_20 rfl ?_
  refine g_iload_n (pc := 21) dX4_cut_21 rfl ?_
  refine g_callVi (pc := 22) (Y' := mX0_linked) (As := [iv 0, iv 0]) (st := []) (k := 0) (i := 0) (qa177 K.2.1) gX4_cut_X0_linked rfl (show 0 < 1 by omega) rfl rfl (na := 2) rfl (by decide +kernel) (by decide) (by decide) (Nat.le_of_ble_eq_true rfl) dX4_cut_22 (fun r1 g1 hp => ?_)
  obtain ⟨h1, rfl⟩ := hp
  cases h1
  refine g_if_ne (pc := 25) 30 dX4_cut_25 (by decide) (by decide) (fun h => absurd (by decide) h) (fun _ => ?_)
  refine g_iconst (pc := 28) (v := 4294967295) dX4_cut_28 (by decide +kernel) ?_
  exact g_iret (pc := 29) dX4_cut_29 ⟨mg_narI _, Or.inl rfl⟩ ⟨rfl, rfl⟩
/-- X5_cut(r5.0, 0, 0) at qms6 -/
theorem qa179 (l : Launch) {D : va_G} {E : mg_E} {B : Nat} : mg_C l (D, E, true, B) mX5_cut [rv (D, E, true, B) 5 0, iv 0, iv 0] qms6 (fun v g' => v = some 4294967295 ∧ g' = qms6) := by
  refine mg_C.of (by decide) rfl (Nat.le_of_ble_eq_true rfl) (List.forall_mem_cons.mpr ⟨rfl, (List.forall_mem_cons.mpr ⟨rfl, (List.forall_mem_cons.mpr ⟨rfl, (fun _ h => nomatch h)⟩)⟩)⟩) (fun K => ?_)
  refine g_aload_n (pc := 0) dX5_cut_0 rfl ?_
  refine fg_X5_cut_105 (pc := 1) (by rfl) dX5_cut_1 ?_
  refine g_top (b := 1) (by decide +kernel) ?_
  refine g_if_eq (pc := 4) 37 dX5_cut_4 (by decide) (by decide) (fun h => absurd h (by decide)) (fun _ => ?_)
  refine g_aload_n (pc := 7) dX5_cut_7 rfl ?_
  refine g_iload_n (pc := 8) dX5_cut_8 rfl ?_
  refine g_callVi (pc := 9) (Y' := mX5_isStation) (As := [iv 0]) (st := []) (k := 5) (i := 0) (qa32 K.2.1) gX5_cut_X5_isStation rfl (show 0 < 1 by omega) rfl rfl (na := 1) rfl (by decide +kernel) (by decide) (by decide) (Nat.le_of_ble_eq_true rfl) dX5_cut_9 (fun r1 g1 hp => ?_)
  obtain ⟨h1, rfl⟩ := hp
  cases h1
  refine g_if_eq (pc := 12) 37 dX5_cut_12 (by decide) (by decide) (fun h => absurd h (by decide)) (fun _ => ?_)
  refine g_aload_n (pc := 15) dX5_cut_15 rfl ?_
  refine g_iload_n (pc := 16) dX5_cut_16 rfl ?_
  refine g_callVi (pc := 17) (Y' := mX5_isStation) (As := [iv 0]) (st := []) (k := 5) (i := 0) (qa32 K.2.1) gX5_cut_X5_isStation rfl (show 0 < 1 by omega) rfl rfl (na := 1) rfl (by decide +kernel) (by decide) (by decide) (Nat.le_of_ble_eq_true rfl) dX5_cut_17 (fun r1 g1 hp => ?_)
  obtain ⟨h1, rfl⟩ := hp
  cases h1
  refine g_if_eq (pc := 20) 37 dX5_cut_20 (by decide) (by decide) (fun h => absurd h (by decide)) (fun _ => ?_)
  refine g_aload_n (pc := 23) dX5_cut_23 rfl ?_
  refine fg_X5_cut_7 (pc := 24) (by rfl) dX5_cut_24 ?_
  refine g_bipush (pc := 27) (v := 24) dX5_cut_27 (by decide +kernel) ?_
  refine g_iload_n (pc := 29) dX5_cut_29 rfl ?_
  refine g_imul (pc := 30) dX5_cut_30 ?_
  refine g_top (b := 0) (by decide +kernel) ?_
  refine g_iload_n (pc := 31) dX5_cut_31 rfl ?_
  refine g_iadd (pc := 32) dX5_cut_32 ?_
  refine g_top (b := 0) (by decide +kernel) ?_
  refine g_baload (pc := 33) (k := 35) (i := 0) (n := 576) (show 0 < 1 by omega) rfl (by decide) (by decide) dX5_cut_33 ?_
  refine g_top (b := 0) (by decide +kernel) ?_
  refine g_if_ne (pc := 34) 39 dX5_cut_34 (by decide) (by decide) (fun h => absurd (by decide) h) (fun _ => ?_)
  refine g_iconst (pc := 37) (v := 4294967295) dX5_cut_37 (by decide +kernel) ?_
  exact g_iret (pc := 38) dX5_cut_38 ⟨mg_narI _, Or.inl rfl⟩ ⟨rfl, rfl⟩
/-- X4_contains(2, 1) at qms6 -/
theorem qa180 (l : Launch) {D : va_G} {E : mg_E} {B : Nat} : mg_C l (D, E, true, B) mX4_contains [iv 2, iv 1] qms6 (fun v g' => v = some 1 ∧ g' = qms6) := by
  refine mg_C.of (by decide) rfl (Nat.le_of_ble_eq_true rfl) (List.forall_mem_cons.mpr ⟨rfl, (List.forall_mem_cons.mpr ⟨rfl, (fun _ h => nomatch h)⟩)⟩) (fun K => ?_)
  refine g_iload_n (pc := 0) dX4_contains_0 rfl ?_
  refine g_iconst (pc := 1) (v := 1) dX4_contains_1 (by decide +kernel) ?_
  refine g_iload_n (pc := 2) dX4_contains_2 rfl ?_
  refine g_ishl (pc := 3) (by decide) dX4_contains_3 ?_
  refine g_top (b := 2) (by decide +kernel) ?_
  refine g_iand (pc := 4) dX4_contains_4 ?_
  refine g_top (b := 2) (by decide +kernel) ?_
  refine g_if_eq (pc := 5) 12 dX4_contains_5 (by decide) (by decide) (fun h => absurd h (by decide)) (fun _ => ?_)
  refine g_iconst (pc := 8) (v := 1) dX4_contains_8 (by decide +kernel) ?_
  refine g_goto (pc := 9) 13 dX4_contains_9 (by decide) ?_
  exact g_iret (pc := 13) dX4_contains_13 ⟨mg_narZ (by decide), Or.inr rfl⟩ ⟨rfl, rfl⟩
/-- X0_linked(r0.0, 0, 1) at qms6 -/
theorem qa181 (l : Launch) {D : va_G} {E : mg_E} {B : Nat} : mg_C l (D, E, true, B) mX0_linked [rv (D, E, true, B) 0 0, iv 0, iv 1] qms6 (fun v g' => v = some 1 ∧ g' = qms6) := by
  refine mg_C.of (by decide) rfl (Nat.le_of_ble_eq_true rfl) (List.forall_mem_cons.mpr ⟨rfl, (List.forall_mem_cons.mpr ⟨rfl, (List.forall_mem_cons.mpr ⟨rfl, (fun _ h => nomatch h)⟩)⟩)⟩) (fun K => ?_)
  refine g_aload_n (pc := 0) dX0_linked_0 rfl ?_
  refine fg_X0_linked_9 (pc := 1) dX0_linked_1 ?_
  refine g_iload_n (pc := 4) dX0_linked_4 rfl ?_
  refine g_iaload (pc := 5) (k := 10) (i := 0) (n := 24) (show 0 < 1 by omega) rfl (by decide) (by decide) dX0_linked_5 ?_
  refine g_top (b := 2) (by decide +kernel) ?_
  refine g_iload_n (pc := 6) dX0_linked_6 rfl ?_
  refine g_callNi (pc := 7) (Y' := mX4_contains) (As := [iv 2, iv 1]) (st := []) (qa180 K.2.1) gX0_linked_X4_contains_n28 rfl (fun _ h => h.2.2.1) (by decide +kernel) (by decide +kernel) (na := 2) rfl (by decide +kernel) (by decide) (by decide) (Nat.le_of_ble_eq_true rfl) dX0_linked_7 (fun r1 g1 hp => ?_)
  obtain ⟨h1, rfl⟩ := hp
  cases h1
  exact g_iret (pc := 10) dX0_linked_10 ⟨mg_narZ (by decide), Or.inr rfl⟩ ⟨rfl, rfl⟩
/-- X1_hasBetween(r1.0, 0, 1) at qms6 -/
theorem qa182 (l : Launch) {D : va_G} {E : mg_E} {B : Nat} : mg_C l (D, E, true, B) mX1_hasBetween [rv (D, E, true, B) 1 0, iv 0, iv 1] qms6 (fun v g' => v = some 0 ∧ g' = qms6) := by
  refine mg_C.of (by decide) rfl (Nat.le_of_ble_eq_true rfl) (List.forall_mem_cons.mpr ⟨rfl, (List.forall_mem_cons.mpr ⟨rfl, (List.forall_mem_cons.mpr ⟨rfl, (fun _ h => nomatch h)⟩)⟩)⟩) (fun K => ?_)
  refine g_aload_n (pc := 0) dX1_hasBetween_0 rfl ?_
  refine g_iload_n (pc := 1) dX1_hasBetween_1 rfl ?_
  refine g_iload_n (pc := 2) dX1_hasBetween_2 rfl ?_
  refine g_callVi (pc := 3) (Y' := mX1_firstBetween) (As := [iv 0, iv 1]) (st := []) (k := 1) (i := 0) (qa122 K.2.1) gX1_hasBetween_X1_firstBetween rfl (show 0 < 2 by omega) rfl rfl (na := 2) rfl (by decide +kernel) (by decide) (by decide) (Nat.le_of_ble_eq_true rfl) dX1_hasBetween_3 (fun r1 g1 hp => ?_)
  obtain ⟨h1, rfl⟩ := hp
  cases h1
  refine g_bipush (pc := 6) (v := 4294967294) dX1_hasBetween_6 (by decide +kernel) ?_
  refine g_icmp_ne (pc := 8) 22 dX1_hasBetween_8 (by decide) (by decide) (by decide) (fun h => absurd (by decide) h) (fun _ => ?_)
  refine g_aload_n (pc := 11) dX1_hasBetween_11 rfl ?_
  refine g_iload_n (pc := 12) dX1_hasBetween_12 rfl ?_
  refine g_iload_n (pc := 13) dX1_hasBetween_13 rfl ?_
  refine g_callVi (pc := 14) (Y' := mX1_firstBetween) (As := [iv 1, iv 0]) (st := []) (k := 1) (i := 0) (qa130 K.2.1) gX1_hasBetween_X1_firstBetween rfl (show 0 < 2 by omega) rfl rfl (na := 2) rfl (by decide +kernel) (by decide) (by decide) (Nat.le_of_ble_eq_true rfl) dX1_hasBetween_14 (fun r1 g1 hp => ?_)
  obtain ⟨h1, rfl⟩ := hp
  cases h1
  refine g_bipush (pc := 17) (v := 4294967294) dX1_hasBetween_17 (by decide +kernel) ?_
  refine g_icmp_eq (pc := 19) 26 dX1_hasBetween_19 (by decide) (by decide) (by decide) (fun _ => ?_) (fun h => absurd (by decide) h)
  refine g_iconst (pc := 26) (v := 0) dX1_hasBetween_26 (by decide +kernel) ?_
  exact g_iret (pc := 27) dX1_hasBetween_27 ⟨mg_narZ (by decide), Or.inr rfl⟩ ⟨rfl, rfl⟩
/-- X1_firstBetween(r1.1, 0, 1) at qms6 -/
theorem qa183 (l : Launch) {D : va_G} {E : mg_E} {B : Nat} : mg_C l (D, E, true, B) mX1_firstBetween [rv (D, E, true, B) 1 1, iv 0, iv 1] qms6 (fun v g' => v = some 4294967294 ∧ g' = qms6) := by
  refine mg_C.of (by decide) rfl (Nat.le_of_ble_eq_true rfl) (List.forall_mem_cons.mpr ⟨rfl, (List.forall_mem_cons.mpr ⟨rfl, (List.forall_mem_cons.mpr ⟨rfl, (fun _ h => nomatch h)⟩)⟩)⟩) (fun K => ?_)
  refine g_iconst (pc := 0) (v := 0) dX1_firstBetween_0 (by decide +kernel) ?_
  refine g_istore_n (pc := 1) (ls' := [rv (D, E, true, B) 1 1, iv 0, iv 1, iv 0]) dX1_firstBetween_1 (Nat.le_of_ble_eq_true rfl) (Nat.le_of_ble_eq_true rfl) rfl ?_
  refine g_iload_n (pc := 2) dX1_firstBetween_2 rfl ?_
  refine g_aload_n (pc := 3) dX1_firstBetween_3 rfl ?_
  refine fg_X1_firstBetween_27 (pc := 4) (show 1 < 2 by omega) dX1_firstBetween_4 ?_
  refine g_top (b := 0) (by decide +kernel) ?_
  refine g_icmp_ge (pc := 7) 38 dX1_firstBetween_7 (by decide) (by decide) (by decide) (fun _ => ?_) (fun h => absurd (by decide) h)
  refine g_bipush (pc := 38) (v := 4294967294) dX1_firstBetween_38 (by decide +kernel) ?_
  exact g_iret (pc := 40) dX1_firstBetween_40 ⟨mg_narI _, Or.inl rfl⟩ ⟨rfl, rfl⟩
/-- X1_firstBetween(r1.1, 1, 0) at qms6 -/
theorem qa184 (l : Launch) {D : va_G} {E : mg_E} {B : Nat} : mg_C l (D, E, true, B) mX1_firstBetween [rv (D, E, true, B) 1 1, iv 1, iv 0] qms6 (fun v g' => v = some 4294967294 ∧ g' = qms6) := by
  refine mg_C.of (by decide) rfl (Nat.le_of_ble_eq_true rfl) (List.forall_mem_cons.mpr ⟨rfl, (List.forall_mem_cons.mpr ⟨rfl, (List.forall_mem_cons.mpr ⟨rfl, (fun _ h => nomatch h)⟩)⟩)⟩) (fun K => ?_)
  refine g_iconst (pc := 0) (v := 0) dX1_firstBetween_0 (by decide +kernel) ?_
  refine g_istore_n (pc := 1) (ls' := [rv (D, E, true, B) 1 1, iv 1, iv 0, iv 0]) dX1_firstBetween_1 (Nat.le_of_ble_eq_true rfl) (Nat.le_of_ble_eq_true rfl) rfl ?_
  refine g_iload_n (pc := 2) dX1_firstBetween_2 rfl ?_
  refine g_aload_n (pc := 3) dX1_firstBetween_3 rfl ?_
  refine fg_X1_firstBetween_27 (pc := 4) (show 1 < 2 by omega) dX1_firstBetween_4 ?_
  refine g_top (b := 0) (by decide +kernel) ?_
  refine g_icmp_ge (pc := 7) 38 dX1_firstBetween_7 (by decide) (by decide) (by decide) (fun _ => ?_) (fun h => absurd (by decide) h)
  refine g_bipush (pc := 38) (v := 4294967294) dX1_firstBetween_38 (by decide +kernel) ?_
  exact g_iret (pc := 40) dX1_firstBetween_40 ⟨mg_narI _, Or.inl rfl⟩ ⟨rfl, rfl⟩
/-- X1_hasBetween(r1.1, 0, 1) at qms6 -/
theorem qa185 (l : Launch) {D : va_G} {E : mg_E} {B : Nat} : mg_C l (D, E, true, B) mX1_hasBetween [rv (D, E, true, B) 1 1, iv 0, iv 1] qms6 (fun v g' => v = some 0 ∧ g' = qms6) := by
  refine mg_C.of (by decide) rfl (Nat.le_of_ble_eq_true rfl) (List.forall_mem_cons.mpr ⟨rfl, (List.forall_mem_cons.mpr ⟨rfl, (List.forall_mem_cons.mpr ⟨rfl, (fun _ h => nomatch h)⟩)⟩)⟩) (fun K => ?_)
  refine g_aload_n (pc := 0) dX1_hasBetween_0 rfl ?_
  refine g_iload_n (pc := 1) dX1_hasBetween_1 rfl ?_
  refine g_iload_n (pc := 2) dX1_hasBetween_2 rfl ?_
  refine g_callVi (pc := 3) (Y' := mX1_firstBetween) (As := [iv 0, iv 1]) (st := []) (k := 1) (i := 1) (qa183 K.2.1) gX1_hasBetween_X1_firstBetween rfl (show 1 < 2 by omega) rfl rfl (na := 2) rfl (by decide +kernel) (by decide) (by decide) (Nat.le_of_ble_eq_true rfl) dX1_hasBetween_3 (fun r1 g1 hp => ?_)
  obtain ⟨h1, rfl⟩ := hp
  cases h1
  refine g_bipush (pc := 6) (v := 4294967294) dX1_hasBetween_6 (by decide +kernel) ?_
  refine g_icmp_ne (pc := 8) 22 dX1_hasBetween_8 (by decide) (by decide) (by decide) (fun h => absurd (by decide) h) (fun _ => ?_)
  refine g_aload_n (pc := 11) dX1_hasBetween_11 rfl ?_
  refine g_iload_n (pc := 12) dX1_hasBetween_12 rfl ?_
  refine g_iload_n (pc := 13) dX1_hasBetween_13 rfl ?_
  refine g_callVi (pc := 14) (Y' := mX1_firstBetween) (As := [iv 1, iv 0]) (st := []) (k := 1) (i := 1) (qa184 K.2.1) gX1_hasBetween_X1_firstBetween rfl (show 1 < 2 by omega) rfl rfl (na := 2) rfl (by decide +kernel) (by decide) (by decide) (Nat.le_of_ble_eq_true rfl) dX1_hasBetween_14 (fun r1 g1 hp => ?_)
  obtain ⟨h1, rfl⟩ := hp
  cases h1
  refine g_bipush (pc := 17) (v := 4294967294) dX1_hasBetween_17 (by decide +kernel) ?_
  refine g_icmp_eq (pc := 19) 26 dX1_hasBetween_19 (by decide) (by decide) (by decide) (fun _ => ?_) (fun h => absurd (by decide) h)
  refine g_iconst (pc := 26) (v := 0) dX1_hasBetween_26 (by decide +kernel) ?_
  exact g_iret (pc := 27) dX1_hasBetween_27 ⟨mg_narZ (by decide), Or.inr rfl⟩ ⟨rfl, rfl⟩
/-- X2_placeOf(r2.0, 1) at qms6 -/
theorem qa186 (l : Launch) {D : va_G} {E : mg_E} {B : Nat} : mg_C l (D, E, true, B) mX2_placeOf [rv (D, E, true, B) 2 0, iv 1] qms6 (fun v g' => v = some 4294967294 ∧ g' = qms6) := by
  refine mg_C.of (by decide) rfl (Nat.le_of_ble_eq_true rfl) (List.forall_mem_cons.mpr ⟨rfl, (List.forall_mem_cons.mpr ⟨rfl, (fun _ h => nomatch h)⟩)⟩) (fun K => ?_)
  refine g_iconst (pc := 0) (v := 0) dX2_placeOf_0 (by decide +kernel) ?_
  refine g_istore_n (pc := 1) (ls' := [rv (D, E, true, B) 2 0, iv 1, iv 0]) dX2_placeOf_1 (Nat.le_of_ble_eq_true rfl) (Nat.le_of_ble_eq_true rfl) rfl ?_
  refine g_iload_n (pc := 2) dX2_placeOf_2 rfl ?_
  refine g_aload_n (pc := 3) dX2_placeOf_3 rfl ?_
  refine fg_X2_placeOf_18 (pc := 4) (show 0 < 24 by omega) dX2_placeOf_4 ?_
  refine g_top (b := 0) (by decide +kernel) ?_
  refine g_icmp_ge (pc := 7) 28 dX2_placeOf_7 (by decide) (by decide) (by decide) (fun _ => ?_) (fun h => absurd (by decide) h)
  refine g_bipush (pc := 28) (v := 4294967294) dX2_placeOf_28 (by decide +kernel) ?_
  exact g_iret (pc := 30) dX2_placeOf_30 ⟨mg_narI _, Or.inl rfl⟩ ⟨rfl, rfl⟩
/-- X2_placeOf(r2.1, 0) at qms6 -/
theorem qa187 (l : Launch) {D : va_G} {E : mg_E} {B : Nat} : mg_C l (D, E, true, B) mX2_placeOf [rv (D, E, true, B) 2 1, iv 0] qms6 (fun v g' => v = some 4294967294 ∧ g' = qms6) := by
  refine mg_C.of (by decide) rfl (Nat.le_of_ble_eq_true rfl) (List.forall_mem_cons.mpr ⟨rfl, (List.forall_mem_cons.mpr ⟨rfl, (fun _ h => nomatch h)⟩)⟩) (fun K => ?_)
  refine g_iconst (pc := 0) (v := 0) dX2_placeOf_0 (by decide +kernel) ?_
  refine g_istore_n (pc := 1) (ls' := [rv (D, E, true, B) 2 1, iv 0, iv 0]) dX2_placeOf_1 (Nat.le_of_ble_eq_true rfl) (Nat.le_of_ble_eq_true rfl) rfl ?_
  refine g_iload_n (pc := 2) dX2_placeOf_2 rfl ?_
  refine g_aload_n (pc := 3) dX2_placeOf_3 rfl ?_
  refine fg_X2_placeOf_18 (pc := 4) (show 1 < 24 by omega) dX2_placeOf_4 ?_
  refine g_top (b := 0) (by decide +kernel) ?_
  refine g_icmp_ge (pc := 7) 28 dX2_placeOf_7 (by decide) (by decide) (by decide) (fun _ => ?_) (fun h => absurd (by decide) h)
  refine g_bipush (pc := 28) (v := 4294967294) dX2_placeOf_28 (by decide +kernel) ?_
  exact g_iret (pc := 30) dX2_placeOf_30 ⟨mg_narI _, Or.inl rfl⟩ ⟨rfl, rfl⟩
def qas47 : mg_F := mg_up (mg_up (mg_up (qms6) 10 0 0 0) 10 0 1 0) 0 0 2 0
/-- X0_untie(r0.0, 0, 1) at qms6 -/
theorem qa188 (l : Launch) {D : va_G} {E : mg_E} {B : Nat} : mg_C l (D, E, true, B) mX0_untie [rv (D, E, true, B) 0 0, iv 0, iv 1] qms6 (fun v g' => v = none ∧ g' = qas47) := by
  refine mg_C.of (by decide) rfl (Nat.le_of_ble_eq_true rfl) (List.forall_mem_cons.mpr ⟨rfl, (List.forall_mem_cons.mpr ⟨rfl, (List.forall_mem_cons.mpr ⟨rfl, (fun _ h => nomatch h)⟩)⟩)⟩) (fun K => ?_)
  refine g_aload_n (pc := 0) dX0_untie_0 rfl ?_
  refine fg_X0_untie_9 (pc := 1) dX0_untie_1 ?_
  refine g_iload_n (pc := 4) dX0_untie_4 rfl ?_
  refine g_dup2 (pc := 5) dX0_untie_5 rfl rfl ?_
  refine g_iaload (pc := 6) (k := 10) (i := 0) (n := 24) (show 0 < 1 by omega) rfl (by decide) (by decide) dX0_untie_6 ?_
  refine g_top (b := 2) (by decide +kernel) ?_
  refine g_iconst (pc := 7) (v := 1) dX0_untie_7 (by decide +kernel) ?_
  refine g_iload_n (pc := 8) dX0_untie_8 rfl ?_
  refine g_ishl (pc := 9) (by decide) dX0_untie_9 ?_
  refine g_top (b := 2) (by decide +kernel) ?_
  refine g_iconst (pc := 10) (v := 4294967295) dX0_untie_10 (by decide +kernel) ?_
  refine g_ixor (pc := 11) dX0_untie_11 ?_
  refine g_top (b := 4294967293) (by decide +kernel) ?_
  refine g_iand (pc := 12) dX0_untie_12 ?_
  refine g_top (b := 0) (by decide +kernel) ?_
  refine g_iastore (pc := 13) (k := 10) (i := 0) (n := 24) (show 0 < 1 by omega) (fun _ => rfl) (by decide) (by decide) dX0_untie_13 ?_
  refine g_aload_n (pc := 14) dX0_untie_14 rfl ?_
  refine fg_X0_untie_9 (pc := 15) dX0_untie_15 ?_
  refine g_iload_n (pc := 18) dX0_untie_18 rfl ?_
  refine g_dup2 (pc := 19) dX0_untie_19 rfl rfl ?_
  refine g_iaload (pc := 20) (k := 10) (i := 0) (n := 24) (show 0 < 1 by omega) rfl (by decide) (by decide) dX0_untie_20 ?_
  refine g_top (b := 1) (by decide +kernel) ?_
  refine g_iconst (pc := 21) (v := 1) dX0_untie_21 (by decide +kernel) ?_
  refine g_iload_n (pc := 22) dX0_untie_22 rfl ?_
  refine g_ishl (pc := 23) (by decide) dX0_untie_23 ?_
  refine g_top (b := 1) (by decide +kernel) ?_
  refine g_iconst (pc := 24) (v := 4294967295) dX0_untie_24 (by decide +kernel) ?_
  refine g_ixor (pc := 25) dX0_untie_25 ?_
  refine g_top (b := 4294967294) (by decide +kernel) ?_
  refine g_iand (pc := 26) dX0_untie_26 ?_
  refine g_top (b := 0) (by decide +kernel) ?_
  refine g_iastore (pc := 27) (k := 10) (i := 0) (n := 24) (show 0 < 1 by omega) (fun _ => rfl) (by decide) (by decide) dX0_untie_27 ?_
  refine g_aload_n (pc := 28) dX0_untie_28 rfl ?_
  refine g_dup (pc := 29) dX0_untie_29 rfl ?_
  refine fg_X0_untie_25 (pc := 30) dX0_untie_30 ?_
  refine g_top (b := 1) (by decide +kernel) ?_
  refine g_iconst (pc := 33) (v := 1) dX0_untie_33 (by decide +kernel) ?_
  refine g_isub (pc := 34) (by decide) dX0_untie_34 ?_
  refine g_top (b := 0) (by decide +kernel) ?_
  refine fp_X0_untie_25 (pc := 35) dX0_untie_35 ?_
  exact g_ret (pc := 38) dX0_untie_38 trivial ⟨rfl, rfl⟩
/-- X3_forget(r3.0, 1) at qas47 -/
theorem qa189 (l : Launch) {D : va_G} {E : mg_E} {B : Nat} : mg_C l (D, E, true, B) mX3_forget [rv (D, E, true, B) 3 0, iv 1] qas47 (fun v g' => v = none ∧ g' = qas47) := by
  refine mg_C.of (by decide) rfl (Nat.le_of_ble_eq_true rfl) (List.forall_mem_cons.mpr ⟨rfl, (List.forall_mem_cons.mpr ⟨rfl, (fun _ h => nomatch h)⟩)⟩) (fun K => ?_)
  refine g_aload_n (pc := 0) dX3_forget_0 rfl ?_
  refine fg_X3_forget_25 (pc := 1) (show 0 < 24 by omega) dX3_forget_1 ?_
  refine g_top (b := 0) (by decide +kernel) ?_
  refine g_iload_n (pc := 4) dX3_forget_4 rfl ?_
  refine g_icmp_ne (pc := 5) 14 dX3_forget_5 (by decide) (by decide) (by decide) (fun _ => ?_) (fun h => absurd h (by decide))
  exact g_ret (pc := 14) dX3_forget_14 trivial ⟨rfl, rfl⟩
def qas48 : mg_F := mg_up (qas47) 3 1 2 4294967294
/-- X3_forget(r3.1, 0) at qas47 -/
theorem qa190 (l : Launch) {D : va_G} {E : mg_E} {B : Nat} : mg_C l (D, E, true, B) mX3_forget [rv (D, E, true, B) 3 1, iv 0] qas47 (fun v g' => v = none ∧ g' = qas48) := by
  refine mg_C.of (by decide) rfl (Nat.le_of_ble_eq_true rfl) (List.forall_mem_cons.mpr ⟨rfl, (List.forall_mem_cons.mpr ⟨rfl, (fun _ h => nomatch h)⟩)⟩) (fun K => ?_)
  refine g_aload_n (pc := 0) dX3_forget_0 rfl ?_
  refine fg_X3_forget_25 (pc := 1) (show 1 < 24 by omega) dX3_forget_1 ?_
  refine g_top (b := 0) (by decide +kernel) ?_
  refine g_iload_n (pc := 4) dX3_forget_4 rfl ?_
  refine g_icmp_ne (pc := 5) 14 dX3_forget_5 (by decide) (by decide) (by decide) (fun h => absurd (by decide) h) (fun _ => ?_)
  refine g_aload_n (pc := 8) dX3_forget_8 rfl ?_
  refine g_bipush (pc := 9) (v := 4294967294) dX3_forget_9 (by decide +kernel) ?_
  refine fp_X3_forget_25 (pc := 11) (show 1 < 24 by omega) dX3_forget_11 ?_
  exact g_ret (pc := 14) dX3_forget_14 trivial ⟨rfl, rfl⟩
/-- X4_cut(r4.0, 0, 1) at qms6 -/
theorem qa191 (l : Launch) {D : va_G} {E : mg_E} {B : Nat} : mg_C l (D, E, true, B) mX4_cut [rv (D, E, true, B) 4 0, iv 0, iv 1] qms6 (fun v g' => v = some 0 ∧ g' = qas48) := by
  refine mg_C.of (by decide) rfl (Nat.le_of_ble_eq_true rfl) (List.forall_mem_cons.mpr ⟨rfl, (List.forall_mem_cons.mpr ⟨rfl, (List.forall_mem_cons.mpr ⟨rfl, (fun _ h => nomatch h)⟩)⟩)⟩) (fun K => ?_)
  refine g_aload_n (pc := 0) dX4_cut_0 rfl ?_
  refine g_iload_n (pc := 1) dX4_cut_1 rfl ?_
  refine g_callVi (pc := 2) (Y' := mX4_isStation) (As := [iv 0]) (st := []) (k := 4) (i := 0) (qa29 K.2.1) gX4_cut_X4_isStation rfl (show 0 < 1 by omega) rfl rfl (na := 1) rfl (by decide +kernel) (by decide) (by decide) (Nat.le_of_ble_eq_true rfl) dX4_cut_2 (fun r1 g1 hp => ?_)
  obtain ⟨h1, rfl⟩ := hp
  cases h1
  refine g_if_eq (pc := 5) 28 dX4_cut_5 (by decide) (by decide) (fun h => absurd h (by decide)) (fun _ => ?_)
  refine g_aload_n (pc := 8) dX4_cut_8 rfl ?_
  refine g_iload_n (pc := 9) dX4_cut_9 rfl ?_
  refine g_callVi (pc := 10) (Y' := mX4_isStation) (As := [iv 1]) (st := []) (k := 4) (i := 0) (qa50 K.2.1) gX4_cut_X4_isStation rfl (show 0 < 1 by omega) rfl rfl (na := 1) rfl (by decide +kernel) (by decide) (by decide) (Nat.le_of_ble_eq_true rfl) dX4_cut_10 (fun r1 g1 hp => ?_)
  obtain ⟨h1, rfl⟩ := hp
  cases h1
  refine g_if_eq (pc := 13) 28 dX4_cut_13 (by decide) (by decide) (fun h => absurd h (by decide)) (fun _ => ?_)
  refine g_aload_n (pc := 16) dX4_cut_16 rfl ?_
  refine fg_X4_cut_10 (pc := 17) dX4_cut_17 ?_
  refine g_iload_n (pc := 20) dX4_cut_20 rfl ?_
  refine g_iload_n (pc := 21) dX4_cut_21 rfl ?_
  refine g_callVi (pc := 22) (Y' := mX0_linked) (As := [iv 0, iv 1]) (st := []) (k := 0) (i := 0) (qa181 K.2.1) gX4_cut_X0_linked rfl (show 0 < 1 by omega) rfl rfl (na := 2) rfl (by decide +kernel) (by decide) (by decide) (Nat.le_of_ble_eq_true rfl) dX4_cut_22 (fun r1 g1 hp => ?_)
  obtain ⟨h1, rfl⟩ := hp
  cases h1
  refine g_if_ne (pc := 25) 30 dX4_cut_25 (by decide) (by decide) (fun _ => ?_) (fun h => absurd h (by decide))
  refine g_aload_n (pc := 30) dX4_cut_30 rfl ?_
  refine fg_X4_cut_27 (pc := 31) dX4_cut_31 ?_
  refine g_iload_n (pc := 34) dX4_cut_34 rfl ?_
  refine g_iload_n (pc := 35) dX4_cut_35 rfl ?_
  refine g_callVi (pc := 36) (Y' := mX1_hasBetween) (As := [iv 0, iv 1]) (st := []) (k := 1) (i := 0) (qa182 K.2.1) gX4_cut_X1_hasBetween rfl (show 0 < 2 by omega) rfl rfl (na := 2) rfl (by decide +kernel) (by decide) (by decide) (Nat.le_of_ble_eq_true rfl) dX4_cut_36 (fun r1 g1 hp => ?_)
  obtain ⟨h1, rfl⟩ := hp
  cases h1
  refine g_if_ne (pc := 39) 54 dX4_cut_39 (by decide) (by decide) (fun h => absurd (by decide) h) (fun _ => ?_)
  refine g_aload_n (pc := 42) dX4_cut_42 rfl ?_
  refine fg_X4_cut_31 (pc := 43) dX4_cut_43 ?_
  refine g_iload_n (pc := 46) dX4_cut_46 rfl ?_
  refine g_iload_n (pc := 47) dX4_cut_47 rfl ?_
  refine g_callVi (pc := 48) (Y' := mX1_hasBetween) (As := [iv 0, iv 1]) (st := []) (k := 1) (i := 1) (qa185 K.2.1) gX4_cut_X1_hasBetween rfl (show 1 < 2 by omega) rfl rfl (na := 2) rfl (by decide +kernel) (by decide) (by decide) (Nat.le_of_ble_eq_true rfl) dX4_cut_48 (fun r1 g1 hp => ?_)
  obtain ⟨h1, rfl⟩ := hp
  cases h1
  refine g_if_eq (pc := 51) 57 dX4_cut_51 (by decide) (by decide) (fun _ => ?_) (fun h => absurd (by decide) h)
  refine g_aload_n (pc := 57) dX4_cut_57 rfl ?_
  refine fg_X4_cut_18 (pc := 58) dX4_cut_58 ?_
  refine g_iload_n (pc := 61) dX4_cut_61 rfl ?_
  refine g_aastation (pc := 62) (a := 0) (by decide) dX4_cut_62 ?_
  refine fg_X4_cut_118 (pc := 63) (show 0 < 24 by omega) dX4_cut_63 ?_
  refine g_iload_n (pc := 66) dX4_cut_66 rfl ?_
  refine g_callVi (pc := 67) (Y' := mX2_placeOf) (As := [iv 1]) (st := []) (k := 2) (i := 0) (qa186 K.2.1) gX4_cut_X2_placeOf rfl (show 0 < 24 by omega) rfl rfl (na := 1) rfl (by decide +kernel) (by decide) (by decide) (Nat.le_of_ble_eq_true rfl) dX4_cut_67 (fun r1 g1 hp => ?_)
  obtain ⟨h1, rfl⟩ := hp
  cases h1
  refine g_bipush (pc := 70) (v := 4294967294) dX4_cut_70 (by decide +kernel) ?_
  refine g_icmp_ne (pc := 72) 93 dX4_cut_72 (by decide) (by decide) (by decide) (fun h => absurd (by decide) h) (fun _ => ?_)
  refine g_aload_n (pc := 75) dX4_cut_75 rfl ?_
  refine fg_X4_cut_18 (pc := 76) dX4_cut_76 ?_
  refine g_iload_n (pc := 79) dX4_cut_79 rfl ?_
  refine g_aastation (pc := 80) (a := 1) (by decide) dX4_cut_80 ?_
  refine fg_X4_cut_118 (pc := 81) (show 1 < 24 by omega) dX4_cut_81 ?_
  refine g_iload_n (pc := 84) dX4_cut_84 rfl ?_
  refine g_callVi (pc := 85) (Y' := mX2_placeOf) (As := [iv 0]) (st := []) (k := 2) (i := 1) (qa187 K.2.1) gX4_cut_X2_placeOf rfl (show 1 < 24 by omega) rfl rfl (na := 1) rfl (by decide +kernel) (by decide) (by decide) (Nat.le_of_ble_eq_true rfl) dX4_cut_85 (fun r1 g1 hp => ?_)
  obtain ⟨h1, rfl⟩ := hp
  cases h1
  refine g_bipush (pc := 88) (v := 4294967294) dX4_cut_88 (by decide +kernel) ?_
  refine g_icmp_eq (pc := 90) 96 dX4_cut_90 (by decide) (by decide) (by decide) (fun _ => ?_) (fun h => absurd (by decide) h)
  refine g_aload_n (pc := 96) dX4_cut_96 rfl ?_
  refine fg_X4_cut_10 (pc := 97) dX4_cut_97 ?_
  refine g_iload_n (pc := 100) dX4_cut_100 rfl ?_
  refine g_iload_n (pc := 101) dX4_cut_101 rfl ?_
  refine g_callVv (pc := 102) (Y' := mX0_untie) (As := [iv 0, iv 1]) (st := []) (k := 0) (i := 0) (qa188 K.2.1) gX4_cut_X0_untie rfl (show 0 < 1 by omega) rfl rfl (na := 2) rfl (by decide +kernel) (by decide) (by decide) (Nat.le_of_ble_eq_true rfl) dX4_cut_102 (fun g1 hp => ?_)
  obtain ⟨-, rfl⟩ := hp
  refine g_aload_n (pc := 105) dX4_cut_105 rfl ?_
  refine fg_X4_cut_18 (pc := 106) dX4_cut_106 ?_
  refine g_iload_n (pc := 109) dX4_cut_109 rfl ?_
  refine g_aastation (pc := 110) (a := 0) (by decide) dX4_cut_110 ?_
  refine g_iload_n (pc := 111) dX4_cut_111 rfl ?_
  refine g_callVv (pc := 112) (Y' := mX3_forget) (As := [iv 1]) (st := []) (k := 3) (i := 0) (qa189 K.2.1) gX4_cut_X3_forget rfl (show 0 < 24 by omega) rfl rfl (na := 1) rfl (by decide +kernel) (by decide) (by decide) (Nat.le_of_ble_eq_true rfl) dX4_cut_112 (fun g1 hp => ?_)
  obtain ⟨-, rfl⟩ := hp
  refine g_aload_n (pc := 115) dX4_cut_115 rfl ?_
  refine fg_X4_cut_18 (pc := 116) dX4_cut_116 ?_
  refine g_iload_n (pc := 119) dX4_cut_119 rfl ?_
  refine g_aastation (pc := 120) (a := 1) (by decide) dX4_cut_120 ?_
  refine g_iload_n (pc := 121) dX4_cut_121 rfl ?_
  refine g_callVv (pc := 122) (Y' := mX3_forget) (As := [iv 0]) (st := []) (k := 3) (i := 1) (qa190 K.2.1) gX4_cut_X3_forget rfl (show 1 < 24 by omega) rfl rfl (na := 1) rfl (by decide +kernel) (by decide) (by decide) (Nat.le_of_ble_eq_true rfl) dX4_cut_122 (fun g1 hp => ?_)
  obtain ⟨-, rfl⟩ := hp
  refine g_iconst (pc := 125) (v := 0) dX4_cut_125 (by decide +kernel) ?_
  exact g_iret (pc := 126) dX4_cut_126 ⟨mg_narI _, Or.inl rfl⟩ ⟨rfl, rfl⟩
/-- X5_isStation(r5.0, 0) at qas48 -/
theorem qa192 (l : Launch) {D : va_G} {E : mg_E} {B : Nat} : mg_C l (D, E, true, B) mX5_isStation [rv (D, E, true, B) 5 0, iv 0] qas48 (fun v g' => v = some 1 ∧ g' = qas48) := by
  refine mg_C.of (by decide) rfl (Nat.le_of_ble_eq_true rfl) (List.forall_mem_cons.mpr ⟨rfl, (List.forall_mem_cons.mpr ⟨rfl, (fun _ h => nomatch h)⟩)⟩) (fun K => ?_)
  refine g_iload_n (pc := 0) dX5_isStation_0 rfl ?_
  refine g_sif_lt (pc := 1) 16 dX5_isStation_1 (by decide) (by decide) (fun h => absurd h (by decide)) (fun _ => ?_)
  refine g_iload_n (pc := 4) dX5_isStation_4 rfl ?_
  refine g_aload_n (pc := 5) dX5_isStation_5 rfl ?_
  refine fg_X5_isStation_101 (pc := 6) (by rfl) dX5_isStation_6 ?_
  refine g_top (b := 2) (by decide +kernel) ?_
  refine g_icmp_ge (pc := 9) 16 dX5_isStation_9 (by decide) (by decide) (by decide) (fun h => absurd h (by decide)) (fun _ => ?_)
  refine g_iconst (pc := 12) (v := 1) dX5_isStation_12 (by decide +kernel) ?_
  refine g_goto (pc := 13) 17 dX5_isStation_13 (by decide) ?_
  exact g_iret (pc := 17) dX5_isStation_17 ⟨mg_narZ (by decide), Or.inr rfl⟩ ⟨rfl, rfl⟩
/-- X5_isStation(r5.0, 1) at qas48 -/
theorem qa193 (l : Launch) {D : va_G} {E : mg_E} {B : Nat} : mg_C l (D, E, true, B) mX5_isStation [rv (D, E, true, B) 5 0, iv 1] qas48 (fun v g' => v = some 1 ∧ g' = qas48) := by
  refine mg_C.of (by decide) rfl (Nat.le_of_ble_eq_true rfl) (List.forall_mem_cons.mpr ⟨rfl, (List.forall_mem_cons.mpr ⟨rfl, (fun _ h => nomatch h)⟩)⟩) (fun K => ?_)
  refine g_iload_n (pc := 0) dX5_isStation_0 rfl ?_
  refine g_sif_lt (pc := 1) 16 dX5_isStation_1 (by decide) (by decide) (fun h => absurd h (by decide)) (fun _ => ?_)
  refine g_iload_n (pc := 4) dX5_isStation_4 rfl ?_
  refine g_aload_n (pc := 5) dX5_isStation_5 rfl ?_
  refine fg_X5_isStation_101 (pc := 6) (by rfl) dX5_isStation_6 ?_
  refine g_top (b := 2) (by decide +kernel) ?_
  refine g_icmp_ge (pc := 9) 16 dX5_isStation_9 (by decide) (by decide) (by decide) (fun h => absurd h (by decide)) (fun _ => ?_)
  refine g_iconst (pc := 12) (v := 1) dX5_isStation_12 (by decide +kernel) ?_
  refine g_goto (pc := 13) 17 dX5_isStation_13 (by decide) ?_
  exact g_iret (pc := 17) dX5_isStation_17 ⟨mg_narZ (by decide), Or.inr rfl⟩ ⟨rfl, rfl⟩
/-- X5_firstLetter(r5.0, 1) at qas48 -/
theorem qa194 (l : Launch) {D : va_G} {E : mg_E} {B : Nat} : mg_C l (D, E, true, B) mX5_firstLetter [rv (D, E, true, B) 5 0, iv 1] qas48 (fun v g' => v = some 4294967295 ∧ g' = qas48) := by
  refine mg_C.of (by decide) rfl (Nat.le_of_ble_eq_true rfl) (List.forall_mem_cons.mpr ⟨rfl, (List.forall_mem_cons.mpr ⟨rfl, (fun _ h => nomatch h)⟩)⟩) (fun K => ?_)
  refine g_iconst (pc := 0) (v := 4294967295) dX5_firstLetter_0 (by decide +kernel) ?_
  refine g_istore_n (pc := 1) (ls' := [rv (D, E, true, B) 5 0, iv 1, iv 4294967295]) dX5_firstLetter_1 (Nat.le_of_ble_eq_true rfl) (Nat.le_of_ble_eq_true rfl) rfl ?_
  refine g_aload_n (pc := 2) dX5_firstLetter_2 rfl ?_
  refine fg_X5_firstLetter_133 (pc := 3) (by rfl) dX5_firstLetter_3 ?_
  refine g_top (b := 0) (by decide +kernel) ?_
  refine g_iconst (pc := 6) (v := 1) dX5_firstLetter_6 (by decide +kernel) ?_
  refine g_isubw (pc := 7) (c := 4294967295) (by decide +kernel) dX5_firstLetter_7 ?_
  refine g_istore_n (pc := 8) (ls' := [rv (D, E, true, B) 5 0, iv 1, iv 4294967295, iv 4294967295]) dX5_firstLetter_8 (Nat.le_of_ble_eq_true rfl) (Nat.le_of_ble_eq_true rfl) rfl ?_
  refine g_iload_n (pc := 9) dX5_firstLetter_9 rfl ?_
  refine g_sif_lt (pc := 10) 35 dX5_firstLetter_10 (by decide) (by decide) (fun _ => ?_) (fun h => absurd (by decide) h)
  refine g_iload_n (pc := 35) dX5_firstLetter_35 rfl ?_
  exact g_iret (pc := 36) dX5_firstLetter_36 ⟨mg_narI _, Or.inl rfl⟩ ⟨rfl, rfl⟩
/-- X5_firstLetter(r5.0, 24) at qas48 -/
theorem qa195 (l : Launch) {D : va_G} {E : mg_E} {B : Nat} : mg_C l (D, E, true, B) mX5_firstLetter [rv (D, E, true, B) 5 0, iv 24] qas48 (fun v g' => v = some 4294967295 ∧ g' = qas48) := by
  refine mg_C.of (by decide) rfl (Nat.le_of_ble_eq_true rfl) (List.forall_mem_cons.mpr ⟨rfl, (List.forall_mem_cons.mpr ⟨rfl, (fun _ h => nomatch h)⟩)⟩) (fun K => ?_)
  refine g_iconst (pc := 0) (v := 4294967295) dX5_firstLetter_0 (by decide +kernel) ?_
  refine g_istore_n (pc := 1) (ls' := [rv (D, E, true, B) 5 0, iv 24, iv 4294967295]) dX5_firstLetter_1 (Nat.le_of_ble_eq_true rfl) (Nat.le_of_ble_eq_true rfl) rfl ?_
  refine g_aload_n (pc := 2) dX5_firstLetter_2 rfl ?_
  refine fg_X5_firstLetter_133 (pc := 3) (by rfl) dX5_firstLetter_3 ?_
  refine g_top (b := 0) (by decide +kernel) ?_
  refine g_iconst (pc := 6) (v := 1) dX5_firstLetter_6 (by decide +kernel) ?_
  refine g_isubw (pc := 7) (c := 4294967295) (by decide +kernel) dX5_firstLetter_7 ?_
  refine g_istore_n (pc := 8) (ls' := [rv (D, E, true, B) 5 0, iv 24, iv 4294967295, iv 4294967295]) dX5_firstLetter_8 (Nat.le_of_ble_eq_true rfl) (Nat.le_of_ble_eq_true rfl) rfl ?_
  refine g_iload_n (pc := 9) dX5_firstLetter_9 rfl ?_
  refine g_sif_lt (pc := 10) 35 dX5_firstLetter_10 (by decide) (by decide) (fun _ => ?_) (fun h => absurd (by decide) h)
  refine g_iload_n (pc := 35) dX5_firstLetter_35 rfl ?_
  exact g_iret (pc := 36) dX5_firstLetter_36 ⟨mg_narI _, Or.inl rfl⟩ ⟨rfl, rfl⟩
/-- X5_placeOf(r5.0, 0, 1) at qas48 -/
theorem qa196 (l : Launch) {D : va_G} {E : mg_E} {B : Nat} : mg_C l (D, E, true, B) mX5_placeOf [rv (D, E, true, B) 5 0, iv 0, iv 1] qas48 (fun v g' => v = some 4294967295 ∧ g' = qas48) := by
  refine mg_C.of (by decide) rfl (Nat.le_of_ble_eq_true rfl) (List.forall_mem_cons.mpr ⟨rfl, (List.forall_mem_cons.mpr ⟨rfl, (List.forall_mem_cons.mpr ⟨rfl, (fun _ h => nomatch h)⟩)⟩)⟩) (fun K => ?_)
  refine g_iconst (pc := 0) (v := 4294967295) dX5_placeOf_0 (by decide +kernel) ?_
  refine g_istore_n (pc := 1) (ls' := [rv (D, E, true, B) 5 0, iv 0, iv 1, iv 4294967295]) dX5_placeOf_1 (Nat.le_of_ble_eq_true rfl) (Nat.le_of_ble_eq_true rfl) rfl ?_
  refine g_iconst (pc := 2) (v := 0) dX5_placeOf_2 (by decide +kernel) ?_
  refine g_istore (pc := 3) (ls' := [rv (D, E, true, B) 5 0, iv 0, iv 1, iv 4294967295, iv 0]) dX5_placeOf_3 (Nat.le_of_ble_eq_true rfl) (Nat.le_of_ble_eq_true rfl) rfl ?_
  refine g_iload (pc := 5) dX5_placeOf_5 rfl ?_
  refine g_aload_n (pc := 7) dX5_placeOf_7 rfl ?_
  refine fg_X5_placeOf_41 (pc := 8) (by rfl) dX5_placeOf_8 ?_
  refine g_iload_n (pc := 11) dX5_placeOf_11 rfl ?_
  refine g_iaload (pc := 12) (k := 46) (i := 0) (n := 24) (show 0 < 1 by omega) rfl (by decide) (by decide) dX5_placeOf_12 ?_
  refine g_top (b := 0) (by decide +kernel) ?_
  refine g_icmp_ge (pc := 13) 45 dX5_placeOf_13 (by decide) (by decide) (by decide) (fun _ => ?_) (fun h => absurd (by decide) h)
  refine g_iload_n (pc := 45) dX5_placeOf_45 rfl ?_
  exact g_iret (pc := 46) dX5_placeOf_46 ⟨mg_narI _, Or.inl rfl⟩ ⟨rfl, rfl⟩
/-- X5_placeOf(r5.0, 1, 0) at qas48 -/
theorem qa197 (l : Launch) {D : va_G} {E : mg_E} {B : Nat} : mg_C l (D, E, true, B) mX5_placeOf [rv (D, E, true, B) 5 0, iv 1, iv 0] qas48 (fun v g' => v = some 4294967295 ∧ g' = qas48) := by
  refine mg_C.of (by decide) rfl (Nat.le_of_ble_eq_true rfl) (List.forall_mem_cons.mpr ⟨rfl, (List.forall_mem_cons.mpr ⟨rfl, (List.forall_mem_cons.mpr ⟨rfl, (fun _ h => nomatch h)⟩)⟩)⟩) (fun K => ?_)
  refine g_iconst (pc := 0) (v := 4294967295) dX5_placeOf_0 (by decide +kernel) ?_
  refine g_istore_n (pc := 1) (ls' := [rv (D, E, true, B) 5 0, iv 1, iv 0, iv 4294967295]) dX5_placeOf_1 (Nat.le_of_ble_eq_true rfl) (Nat.le_of_ble_eq_true rfl) rfl ?_
  refine g_iconst (pc := 2) (v := 0) dX5_placeOf_2 (by decide +kernel) ?_
  refine g_istore (pc := 3) (ls' := [rv (D, E, true, B) 5 0, iv 1, iv 0, iv 4294967295, iv 0]) dX5_placeOf_3 (Nat.le_of_ble_eq_true rfl) (Nat.le_of_ble_eq_true rfl) rfl ?_
  refine g_iload (pc := 5) dX5_placeOf_5 rfl ?_
  refine g_aload_n (pc := 7) dX5_placeOf_7 rfl ?_
  refine fg_X5_placeOf_41 (pc := 8) (by rfl) dX5_placeOf_8 ?_
  refine g_iload_n (pc := 11) dX5_placeOf_11 rfl ?_
  refine g_iaload (pc := 12) (k := 46) (i := 0) (n := 24) (show 0 < 1 by omega) rfl (by decide) (by decide) dX5_placeOf_12 ?_
  refine g_top (b := 0) (by decide +kernel) ?_
  refine g_icmp_ge (pc := 13) 45 dX5_placeOf_13 (by decide) (by decide) (by decide) (fun _ => ?_) (fun h => absurd (by decide) h)
  refine g_iload_n (pc := 45) dX5_placeOf_45 rfl ?_
  exact g_iret (pc := 46) dX5_placeOf_46 ⟨mg_narI _, Or.inl rfl⟩ ⟨rfl, rfl⟩
def qas49 : mg_F := mg_up (mg_up (mg_up (qas48) 35 0 1 0) 35 0 24 0) 5 0 4 0
/-- X5_join2(r5.0, 0, 1, 0) at qas48 -/
theorem qa198 (l : Launch) {D : va_G} {E : mg_E} {B : Nat} : mg_C l (D, E, true, B) mX5_join2 [rv (D, E, true, B) 5 0, iv 0, iv 1, iv 0] qas48 (fun v g' => v = none ∧ g' = qas49) := by
  refine mg_C.of (by decide) rfl (Nat.le_of_ble_eq_true rfl) (List.forall_mem_cons.mpr ⟨rfl, (List.forall_mem_cons.mpr ⟨rfl, (List.forall_mem_cons.mpr ⟨rfl, (List.forall_mem_cons.mpr ⟨rfl, (fun _ h => nomatch h)⟩)⟩)⟩)⟩) (fun K => ?_)
  refine g_aload_n (pc := 0) dX5_join2_0 rfl ?_
  refine fg_X5_join2_7 (pc := 1) (by rfl) dX5_join2_1 ?_
  refine g_bipush (pc := 4) (v := 24) dX5_join2_4 (by decide +kernel) ?_
  refine g_iload_n (pc := 6) dX5_join2_6 rfl ?_
  refine g_imul (pc := 7) dX5_join2_7 ?_
  refine g_top (b := 0) (by decide +kernel) ?_
  refine g_iload_n (pc := 8) dX5_join2_8 rfl ?_
  refine g_iadd (pc := 9) dX5_join2_9 ?_
  refine g_top (b := 1) (by decide +kernel) ?_
  refine g_iload_n (pc := 10) dX5_join2_10 rfl ?_
  refine g_bastore (pc := 11) (k := 35) (i := 0) (n := 576) (show 0 < 1 by omega) (fun _ => rfl) (by decide) (by decide) (by decide) dX5_join2_11 ?_
  refine g_aload_n (pc := 12) dX5_join2_12 rfl ?_
  refine fg_X5_join2_7 (pc := 13) (by rfl) dX5_join2_13 ?_
  refine g_bipush (pc := 16) (v := 24) dX5_join2_16 (by decide +kernel) ?_
  refine g_iload_n (pc := 18) dX5_join2_18 rfl ?_
  refine g_imul (pc := 19) dX5_join2_19 ?_
  refine g_top (b := 24) (by decide +kernel) ?_
  refine g_iload_n (pc := 20) dX5_join2_20 rfl ?_
  refine g_iadd (pc := 21) dX5_join2_21 ?_
  refine g_top (b := 24) (by decide +kernel) ?_
  refine g_iload_n (pc := 22) dX5_join2_22 rfl ?_
  refine g_bastore (pc := 23) (k := 35) (i := 0) (n := 576) (show 0 < 1 by omega) (fun _ => rfl) (by decide) (by decide) (by decide) dX5_join2_23 ?_
  refine g_aload_n (pc := 24) dX5_join2_24 rfl ?_
  refine g_dup (pc := 25) dX5_join2_25 rfl ?_
  refine fg_X5_join2_113 (pc := 26) (by rfl) dX5_join2_26 ?_
  refine g_top (b := 1) (by decide +kernel) ?_
  refine g_iload_n (pc := 29) dX5_join2_29 rfl ?_
  refine g_if_eq (pc := 30) 37 dX5_join2_30 (by decide) (by decide) (fun _ => ?_) (fun h => absurd (by decide) h)
  refine g_iconst (pc := 37) (v := 4294967295) dX5_join2_37 (by decide +kernel) ?_
  refine g_iadd (pc := 38) dX5_join2_38 ?_
  refine g_topw (b := 0) (by decide +kernel) ?_
  refine fp_X5_join2_113 (pc := 39) (by rfl) dX5_join2_39 ?_
  exact g_ret (pc := 42) dX5_join2_42 trivial ⟨rfl, rfl⟩
def qas50 : mg_F := mg_up (mg_up (qas49) 36 0 0 0) 36 0 1 4294967294
/-- X5_cut(r5.0, 0, 1) at qas48 -/
theorem qa199 (l : Launch) {D : va_G} {E : mg_E} {B : Nat} : mg_C l (D, E, true, B) mX5_cut [rv (D, E, true, B) 5 0, iv 0, iv 1] qas48 (fun v g' => v = some 0 ∧ g' = qas50) := by
  refine mg_C.of (by decide) rfl (Nat.le_of_ble_eq_true rfl) (List.forall_mem_cons.mpr ⟨rfl, (List.forall_mem_cons.mpr ⟨rfl, (List.forall_mem_cons.mpr ⟨rfl, (fun _ h => nomatch h)⟩)⟩)⟩) (fun K => ?_)
  refine g_aload_n (pc := 0) dX5_cut_0 rfl ?_
  refine fg_X5_cut_105 (pc := 1) (by rfl) dX5_cut_1 ?_
  refine g_top (b := 1) (by decide +kernel) ?_
  refine g_if_eq (pc := 4) 37 dX5_cut_4 (by decide) (by decide) (fun h => absurd h (by decide)) (fun _ => ?_)
  refine g_aload_n (pc := 7) dX5_cut_7 rfl ?_
  refine g_iload_n (pc := 8) dX5_cut_8 rfl ?_
  refine g_callVi (pc := 9) (Y' := mX5_isStation) (As := [iv 0]) (st := []) (k := 5) (i := 0) (qa192 K.2.1) gX5_cut_X5_isStation rfl (show 0 < 1 by omega) rfl rfl (na := 1) rfl (by decide +kernel) (by decide) (by decide) (Nat.le_of_ble_eq_true rfl) dX5_cut_9 (fun r1 g1 hp => ?_)
  obtain ⟨h1, rfl⟩ := hp
  cases h1
  refine g_if_eq (pc := 12) 37 dX5_cut_12 (by decide) (by decide) (fun h => absurd h (by decide)) (fun _ => ?_)
  refine g_aload_n (pc := 15) dX5_cut_15 rfl ?_
  refine g_iload_n (pc := 16) dX5_cut_16 rfl ?_
  refine g_callVi (pc := 17) (Y' := mX5_isStation) (As := [iv 1]) (st := []) (k := 5) (i := 0) (qa193 K.2.1) gX5_cut_X5_isStation rfl (show 0 < 1 by omega) rfl rfl (na := 1) rfl (by decide +kernel) (by decide) (by decide) (Nat.le_of_ble_eq_true rfl) dX5_cut_17 (fun r1 g1 hp => ?_)
  obtain ⟨h1, rfl⟩ := hp
  cases h1
  refine g_if_eq (pc := 20) 37 dX5_cut_20 (by decide) (by decide) (fun h => absurd h (by decide)) (fun _ => ?_)
  refine g_aload_n (pc := 23) dX5_cut_23 rfl ?_
  refine fg_X5_cut_7 (pc := 24) (by rfl) dX5_cut_24 ?_
  refine g_bipush (pc := 27) (v := 24) dX5_cut_27 (by decide +kernel) ?_
  refine g_iload_n (pc := 29) dX5_cut_29 rfl ?_
  refine g_imul (pc := 30) dX5_cut_30 ?_
  refine g_top (b := 0) (by decide +kernel) ?_
  refine g_iload_n (pc := 31) dX5_cut_31 rfl ?_
  refine g_iadd (pc := 32) dX5_cut_32 ?_
  refine g_top (b := 1) (by decide +kernel) ?_
  refine g_baload (pc := 33) (k := 35) (i := 0) (n := 576) (show 0 < 1 by omega) rfl (by decide) (by decide) dX5_cut_33 ?_
  refine g_top (b := 1) (by decide +kernel) ?_
  refine g_if_ne (pc := 34) 39 dX5_cut_34 (by decide) (by decide) (fun _ => ?_) (fun h => absurd h (by decide))
  refine g_bipush (pc := 39) (v := 24) dX5_cut_39 (by decide +kernel) ?_
  refine g_iload_n (pc := 41) dX5_cut_41 rfl ?_
  refine g_imul (pc := 42) dX5_cut_42 ?_
  refine g_top (b := 0) (by decide +kernel) ?_
  refine g_iload_n (pc := 43) dX5_cut_43 rfl ?_
  refine g_iadd (pc := 44) dX5_cut_44 ?_
  refine g_top (b := 1) (by decide +kernel) ?_
  refine g_istore_n (pc := 45) (ls' := [rv (D, E, true, B) 5 0, iv 0, iv 1, iv 1]) dX5_cut_45 (Nat.le_of_ble_eq_true rfl) (Nat.le_of_ble_eq_true rfl) rfl ?_
  refine g_bipush (pc := 46) (v := 24) dX5_cut_46 (by decide +kernel) ?_
  refine g_iload_n (pc := 48) dX5_cut_48 rfl ?_
  refine g_imul (pc := 49) dX5_cut_49 ?_
  refine g_top (b := 24) (by decide +kernel) ?_
  refine g_iload_n (pc := 50) dX5_cut_50 rfl ?_
  refine g_iadd (pc := 51) dX5_cut_51 ?_
  refine g_top (b := 24) (by decide +kernel) ?_
  refine g_istore (pc := 52) (ls' := [rv (D, E, true, B) 5 0, iv 0, iv 1, iv 1, iv 24]) dX5_cut_52 (Nat.le_of_ble_eq_true rfl) (Nat.le_of_ble_eq_true rfl) rfl ?_
  refine g_aload_n (pc := 54) dX5_cut_54 rfl ?_
  refine g_iload_n (pc := 55) dX5_cut_55 rfl ?_
  refine g_callVi (pc := 56) (Y' := mX5_firstLetter) (As := [iv 1]) (st := []) (k := 5) (i := 0) (qa194 K.2.1) gX5_cut_X5_firstLetter rfl (show 0 < 1 by omega) rfl rfl (na := 1) rfl (by decide +kernel) (by decide) (by decide) (Nat.le_of_ble_eq_true rfl) dX5_cut_56 (fun r1 g1 hp => ?_)
  obtain ⟨h1, rfl⟩ := hp
  cases h1
  refine g_sif_ge (pc := 59) 71 dX5_cut_59 (by decide) (by decide) (fun h => absurd h (by decide)) (fun _ => ?_)
  refine g_aload_n (pc := 62) dX5_cut_62 rfl ?_
  refine g_iload (pc := 63) dX5_cut_63 rfl ?_
  refine g_callVi (pc := 65) (Y' := mX5_firstLetter) (As := [iv 24]) (st := []) (k := 5) (i := 0) (qa195 K.2.1) gX5_cut_X5_firstLetter rfl (show 0 < 1 by omega) rfl rfl (na := 1) rfl (by decide +kernel) (by decide) (by decide) (Nat.le_of_ble_eq_true rfl) dX5_cut_65 (fun r1 g1 hp => ?_)
  obtain ⟨h1, rfl⟩ := hp
  cases h1
  refine g_sif_lt (pc := 68) 75 dX5_cut_68 (by decide) (by decide) (fun _ => ?_) (fun h => absurd (by decide) h)
  refine g_iconst (pc := 75) (v := 0) dX5_cut_75 (by decide +kernel) ?_
  refine g_istore (pc := 76) (ls' := [rv (D, E, true, B) 5 0, iv 0, iv 1, iv 1, iv 24, iv 0]) dX5_cut_76 (Nat.le_of_ble_eq_true rfl) (Nat.le_of_ble_eq_true rfl) rfl ?_
  refine g_iconst (pc := 78) (v := 0) dX5_cut_78 (by decide +kernel) ?_
  refine g_istore (pc := 79) (ls' := [rv (D, E, true, B) 5 0, iv 0, iv 1, iv 1, iv 24, iv 0, iv 0]) dX5_cut_79 (Nat.le_of_ble_eq_true rfl) (Nat.le_of_ble_eq_true rfl) rfl ?_
  refine g_iload (pc := 81) dX5_cut_81 rfl ?_
  refine g_aload_n (pc := 83) dX5_cut_83 rfl ?_
  refine fg_X5_cut_136 (pc := 84) (by rfl) dX5_cut_84 ?_
  refine g_top (b := 0) (by decide +kernel) ?_
  refine g_icmp_ge (pc := 87) 131 dX5_cut_87 (by decide) (by decide) (by decide) (fun _ => ?_) (fun h => absurd (by decide) h)
  refine g_iload (pc := 131) dX5_cut_131 rfl ?_
  refine g_if_eq (pc := 133) 139 dX5_cut_133 (by decide) (by decide) (fun _ => ?_) (fun h => absurd (by decide) h)
  refine g_aload_n (pc := 139) dX5_cut_139 rfl ?_
  refine g_iload_n (pc := 140) dX5_cut_140 rfl ?_
  refine g_iload_n (pc := 141) dX5_cut_141 rfl ?_
  refine g_callVi (pc := 142) (Y' := mX5_placeOf) (As := [iv 0, iv 1]) (st := []) (k := 5) (i := 0) (qa196 K.2.1) gX5_cut_X5_placeOf rfl (show 0 < 1 by omega) rfl rfl (na := 2) rfl (by decide +kernel) (by decide) (by decide) (Nat.le_of_ble_eq_true rfl) dX5_cut_142 (fun r1 g1 hp => ?_)
  obtain ⟨h1, rfl⟩ := hp
  cases h1
  refine g_sif_ge (pc := 145) 157 dX5_cut_145 (by decide) (by decide) (fun h => absurd h (by decide)) (fun _ => ?_)
  refine g_aload_n (pc := 148) dX5_cut_148 rfl ?_
  refine g_iload_n (pc := 149) dX5_cut_149 rfl ?_
  refine g_iload_n (pc := 150) dX5_cut_150 rfl ?_
  refine g_callVi (pc := 151) (Y' := mX5_placeOf) (As := [iv 1, iv 0]) (st := []) (k := 5) (i := 0) (qa197 K.2.1) gX5_cut_X5_placeOf rfl (show 0 < 1 by omega) rfl rfl (na := 2) rfl (by decide +kernel) (by decide) (by decide) (Nat.le_of_ble_eq_true rfl) dX5_cut_151 (fun r1 g1 hp => ?_)
  obtain ⟨h1, rfl⟩ := hp
  cases h1
  refine g_sif_lt (pc := 154) 160 dX5_cut_154 (by decide) (by decide) (fun _ => ?_) (fun h => absurd (by decide) h)
  refine g_aload_n (pc := 160) dX5_cut_160 rfl ?_
  refine g_iload_n (pc := 161) dX5_cut_161 rfl ?_
  refine g_iload_n (pc := 162) dX5_cut_162 rfl ?_
  refine g_iconst (pc := 163) (v := 0) dX5_cut_163 (by decide +kernel) ?_
  refine g_callVv (pc := 164) (Y' := mX5_join2) (As := [iv 0, iv 1, iv 0]) (st := []) (k := 5) (i := 0) (qa198 K.2.1) gX5_cut_X5_join2 rfl (show 0 < 1 by omega) rfl rfl (na := 3) rfl (by decide +kernel) (by decide) (by decide) (Nat.le_of_ble_eq_true rfl) dX5_cut_164 (fun g1 hp => ?_)
  obtain ⟨-, rfl⟩ := hp
  refine g_aload_n (pc := 167) dX5_cut_167 rfl ?_
  refine fg_X5_cut_13 (pc := 168) (by rfl) dX5_cut_168 ?_
  refine g_iload_n (pc := 171) dX5_cut_171 rfl ?_
  refine g_aload_n (pc := 172) dX5_cut_172 rfl ?_
  refine fg_X5_cut_13 (pc := 173) (by rfl) dX5_cut_173 ?_
  refine g_iload_n (pc := 176) dX5_cut_176 rfl ?_
  refine g_iaload (pc := 177) (k := 36) (i := 0) (n := 24) (show 0 < 1 by omega) rfl (by decide) (by decide) dX5_cut_177 ?_
  refine g_top (b := 0) (by decide +kernel) ?_
  refine g_iload_n (pc := 178) dX5_cut_178 rfl ?_
  refine g_icmp_ne (pc := 179) 187 dX5_cut_179 (by decide) (by decide) (by decide) (fun _ => ?_) (fun h => absurd h (by decide))
  refine g_aload_n (pc := 187) dX5_cut_187 rfl ?_
  refine fg_X5_cut_13 (pc := 188) (by rfl) dX5_cut_188 ?_
  refine g_iload_n (pc := 191) dX5_cut_191 rfl ?_
  refine g_iaload (pc := 192) (k := 36) (i := 0) (n := 24) (show 0 < 1 by omega) rfl (by decide) (by decide) dX5_cut_192 ?_
  refine g_top (b := 0) (by decide +kernel) ?_
  refine g_iastore (pc := 193) (k := 36) (i := 0) (n := 24) (show 0 < 1 by omega) (fun _ => rfl) (by decide) (by decide) dX5_cut_193 ?_
  refine g_aload_n (pc := 194) dX5_cut_194 rfl ?_
  refine fg_X5_cut_13 (pc := 195) (by rfl) dX5_cut_195 ?_
  refine g_iload_n (pc := 198) dX5_cut_198 rfl ?_
  refine g_aload_n (pc := 199) dX5_cut_199 rfl ?_
  refine fg_X5_cut_13 (pc := 200) (by rfl) dX5_cut_200 ?_
  refine g_iload_n (pc := 203) dX5_cut_203 rfl ?_
  refine g_iaload (pc := 204) (k := 36) (i := 0) (n := 24) (show 0 < 1 by omega) rfl (by decide) (by decide) dX5_cut_204 ?_
  refine g_top (b := 0) (by decide +kernel) ?_
  refine g_iload_n (pc := 205) dX5_cut_205 rfl ?_
  refine g_icmp_ne (pc := 206) 214 dX5_cut_206 (by decide) (by decide) (by decide) (fun h => absurd (by decide) h) (fun _ => ?_)
  refine g_bipush (pc := 209) (v := 4294967294) dX5_cut_209 (by decide +kernel) ?_
  refine g_goto (pc := 211) 220 dX5_cut_211 (by decide) ?_
  refine g_iastore (pc := 220) (k := 36) (i := 0) (n := 24) (show 0 < 1 by omega) (fun _ => rfl) (by decide) (by decide) dX5_cut_220 ?_
  refine g_iconst (pc := 221) (v := 0) dX5_cut_221 (by decide +kernel) ?_
  exact g_iret (pc := 222) dX5_cut_222 ⟨mg_narI _, Or.inl rfl⟩ ⟨rfl, rfl⟩
