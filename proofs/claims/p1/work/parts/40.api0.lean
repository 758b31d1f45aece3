/-- X4_canal(r4.0, a[2147483648,4294967295]) at qms6 -/
theorem qa1 (l : Launch) {D : va_G} {E : mg_E} {B : Nat} (a : Nat) (h_a : 2147483648 ≤ a) (k_a : a ≤ 4294967295) : mg_C l (D, E, true, B) mX4_canal [rv (D, E, true, B) 4 0, iv a] qms6 (fun v g' => v = some 4294967295 ∧ g' = qms6) := by
  refine mg_C.of (by decide) rfl (Nat.le_of_ble_eq_true rfl) (List.forall_mem_cons.mpr ⟨rfl, (List.forall_mem_cons.mpr ⟨rfl, (fun _ h => nomatch h)⟩)⟩) (fun K => ?_)
  refine g_iload_n (pc := 0) dX4_canal_0 rfl ?_
  refine g_iconst (pc := 1) (v := 2) dX4_canal_1 (by decide +kernel) ?_
  refine g_scmp_lt (pc := 2) 11 dX4_canal_2 (by decide) (by omega) (by decide) (fun _ => ?_) (fun h => absurd (by have q0 := mg_sgn h_a (by omega : a < 4294967296); have e1 : mg_sg 2 = 2 := (by decide); omega) h)
  refine g_iconst (pc := 11) (v := 4294967295) dX4_canal_11 (by decide +kernel) ?_
  exact g_iret (pc := 12) dX4_canal_12 ⟨mg_narI _, Or.inl rfl⟩ ⟨rfl, rfl⟩
/-- X5_canal(r5.0, a[2147483648,4294967295]) at qms6 -/
theorem qa2 (l : Launch) {D : va_G} {E : mg_E} {B : Nat} (a : Nat) (h_a : 2147483648 ≤ a) (k_a : a ≤ 4294967295) : mg_C l (D, E, true, B) mX5_canal [rv (D, E, true, B) 5 0, iv a] qms6 (fun v g' => v = some 4294967295 ∧ g' = qms6) := by
  refine mg_C.of (by decide) rfl (Nat.le_of_ble_eq_true rfl) (List.forall_mem_cons.mpr ⟨rfl, (List.forall_mem_cons.mpr ⟨rfl, (fun _ h => nomatch h)⟩)⟩) (fun K => ?_)
  refine g_iload_n (pc := 0) dX5_canal_0 rfl ?_
  refine g_iconst (pc := 1) (v := 2) dX5_canal_1 (by decide +kernel) ?_
  refine g_scmp_lt (pc := 2) 11 dX5_canal_2 (by decide) (by omega) (by decide) (fun _ => ?_) (fun h => absurd (by have q0 := mg_sgn h_a (by omega : a < 4294967296); have e1 : mg_sg 2 = 2 := (by decide); omega) h)
  refine g_iconst (pc := 11) (v := 4294967295) dX5_canal_11 (by decide +kernel) ?_
  exact g_iret (pc := 12) dX5_canal_12 ⟨mg_narI _, Or.inl rfl⟩ ⟨rfl, rfl⟩
/-- X4_canal(r4.0, a[0,1]) at qms6 -/
theorem qa3 (l : Launch) {D : va_G} {E : mg_E} {B : Nat} (a : Nat) (h_a : 0 ≤ a) (k_a : a ≤ 1) : mg_C l (D, E, true, B) mX4_canal [rv (D, E, true, B) 4 0, iv a] qms6 (fun v g' => v = some 4294967295 ∧ g' = qms6) := by
  refine mg_C.of (by decide) rfl (Nat.le_of_ble_eq_true rfl) (List.forall_mem_cons.mpr ⟨rfl, (List.forall_mem_cons.mpr ⟨rfl, (fun _ h => nomatch h)⟩)⟩) (fun K => ?_)
  refine g_iload_n (pc := 0) dX4_canal_0 rfl ?_
  refine g_iconst (pc := 1) (v := 2) dX4_canal_1 (by decide +kernel) ?_
  refine g_icmp_lt (pc := 2) 11 dX4_canal_2 (by decide) (by omega) (by decide) (fun _ => ?_) (fun h => absurd (by omega) h)
  refine g_iconst (pc := 11) (v := 4294967295) dX4_canal_11 (by decide +kernel) ?_
  exact g_iret (pc := 12) dX4_canal_12 ⟨mg_narI _, Or.inl rfl⟩ ⟨rfl, rfl⟩
/-- X5_canal(r5.0, a[0,1]) at qms6 -/
theorem qa4 (l : Launch) {D : va_G} {E : mg_E} {B : Nat} (a : Nat) (h_a : 0 ≤ a) (k_a : a ≤ 1) : mg_C l (D, E, true, B) mX5_canal [rv (D, E, true, B) 5 0, iv a] qms6 (fun v g' => v = some 4294967295 ∧ g' = qms6) := by
  refine mg_C.of (by decide) rfl (Nat.le_of_ble_eq_true rfl) (List.forall_mem_cons.mpr ⟨rfl, (List.forall_mem_cons.mpr ⟨rfl, (fun _ h => nomatch h)⟩)⟩) (fun K => ?_)
  refine g_iload_n (pc := 0) dX5_canal_0 rfl ?_
  refine g_iconst (pc := 1) (v := 2) dX5_canal_1 (by decide +kernel) ?_
  refine g_icmp_lt (pc := 2) 11 dX5_canal_2 (by decide) (by omega) (by decide) (fun _ => ?_) (fun h => absurd (by omega) h)
  refine g_iconst (pc := 11) (v := 4294967295) dX5_canal_11 (by decide +kernel) ?_
  exact g_iret (pc := 12) dX5_canal_12 ⟨mg_narI _, Or.inl rfl⟩ ⟨rfl, rfl⟩
def qas1 : mg_F := mg_up (qms6) 4 0 6 0
def qas2 : mg_F := mg_upr qas1 10 0 (mg_fl (qas1 10 0) 24 0)
def qas3 (a : Nat) : mg_F := mg_up (mg_up (qas2) 0 0 1 a) 0 0 2 0
/-- X0_clear(r0.0, a[2,24]) at qas1 -/
theorem qa5 (l : Launch) {D : va_G} {E : mg_E} {B : Nat} (a : Nat) (h_a : 2 ≤ a) (k_a : a ≤ 24) : mg_C l (D, E, true, B) mX0_clear [rv (D, E, true, B) 0 0, iv a] qas1 (fun v g' => v = none ∧ g' = (qas3 a)) := by
  refine mg_C.of (by decide) rfl (Nat.le_of_ble_eq_true rfl) (List.forall_mem_cons.mpr ⟨rfl, (List.forall_mem_cons.mpr ⟨rfl, (fun _ h => nomatch h)⟩)⟩) (fun K => ?_)
  refine g_aload_n (pc := 0) dX0_clear_0 rfl ?_
  refine fg_X0_clear_9 (pc := 1) dX0_clear_1 ?_
  refine g_iconst (pc := 4) (v := 0) dX0_clear_4 (by decide +kernel) ?_
  refine g_callSv (pc := 5) (Y' := mJ7_fill_53178) (As := [rv (D, E, true, B) 10 0, iv 0]) (st := []) (c_fill K.2.1 (k := 10) (i := 0) (n := 24) (v := 0) (show 0 < 1 by omega) (fun _ => rfl) (by decide)) gX0_clear_J7_fill_53178 rfl (na := 2) rfl (by decide +kernel) (by decide) (by decide) (Nat.le_of_ble_eq_true rfl) dX0_clear_5 (fun g1 hp => ?_)
  obtain ⟨-, rfl⟩ := hp
  refine g_aload_n (pc := 8) dX0_clear_8 rfl ?_
  refine g_iload_n (pc := 9) dX0_clear_9 rfl ?_
  refine fp_X0_clear_21 (pc := 10) dX0_clear_10 ?_
  refine g_aload_n (pc := 13) dX0_clear_13 rfl ?_
  refine g_iconst (pc := 14) (v := 0) dX0_clear_14 (by decide +kernel) ?_
  refine fp_X0_clear_25 (pc := 15) dX0_clear_15 ?_
  exact g_ret (pc := 18) dX0_clear_18 trivial ⟨rfl, rfl⟩
def qas4 (a : Nat) : mg_F := (qas3 a)
/-- X4_canal(r4.0, a[2,24]) at qms6 -/
theorem qa6 (l : Launch) {D : va_G} {E : mg_E} {B : Nat} (a : Nat) (h_a : 2 ≤ a) (k_a : a ≤ 24) : mg_C l (D, E, true, B) mX4_canal [rv (D, E, true, B) 4 0, iv a] qms6 (fun v g' => v = some 0 ∧ g' = (qas4 a)) := by
  refine mg_C.of (by decide) rfl (Nat.le_of_ble_eq_true rfl) (List.forall_mem_cons.mpr ⟨rfl, (List.forall_mem_cons.mpr ⟨rfl, (fun _ h => nomatch h)⟩)⟩) (fun K => ?_)
  refine g_iload_n (pc := 0) dX4_canal_0 rfl ?_
  refine g_iconst (pc := 1) (v := 2) dX4_canal_1 (by decide +kernel) ?_
  refine g_icmp_lt (pc := 2) 11 dX4_canal_2 (by decide) (by omega) (by decide) (fun h => absurd h (by omega)) (fun _ => ?_)
  refine g_iload_n (pc := 5) dX4_canal_5 rfl ?_
  refine g_bipush (pc := 6) (v := 24) dX4_canal_6 (by decide +kernel) ?_
  refine g_icmp_le (pc := 8) 13 dX4_canal_8 (by decide) (by omega) (by decide) (fun _ => ?_) (fun h => absurd (by omega) h)
  refine g_aload_n (pc := 13) dX4_canal_13 rfl ?_
  refine g_iconst (pc := 14) (v := 0) dX4_canal_14 (by decide +kernel) ?_
  refine fp_X4_canal_55 (pc := 15) (by decide) dX4_canal_15 ?_
  refine g_aload_n (pc := 18) dX4_canal_18 rfl ?_
  refine fg_X4_canal_10 (pc := 19) dX4_canal_19 ?_
  refine g_iload_n (pc := 22) dX4_canal_22 rfl ?_
  refine g_callVv (pc := 23) (Y' := mX0_clear) (As := [iv a]) (st := []) (k := 0) (i := 0) (qa5 K.2.1 a h_a k_a) gX4_canal_X0_clear rfl (show 0 < 1 by omega) rfl rfl (na := 1) rfl (by decide +kernel) (by decide) (by decide) (Nat.le_of_ble_eq_true rfl) dX4_canal_23 (fun g1 hp => ?_)
  obtain ⟨-, rfl⟩ := hp
  refine g_iconst (pc := 26) (v := 0) dX4_canal_26 (by decide +kernel) ?_
  exact g_iret (pc := 27) dX4_canal_27 ⟨mg_narI _, Or.inl rfl⟩ ⟨rfl, rfl⟩
def qas5 (a : Nat) : mg_F := mc_canal (qas4 a) a
/-- X4_canal(r4.0, a[25,2147483647]) at qms6 -/
theorem qa7 (l : Launch) {D : va_G} {E : mg_E} {B : Nat} (a : Nat) (h_a : 25 ≤ a) (k_a : a ≤ 2147483647) : mg_C l (D, E, true, B) mX4_canal [rv (D, E, true, B) 4 0, iv a] qms6 (fun v g' => v = some 4294967295 ∧ g' = qms6) := by
  refine mg_C.of (by decide) rfl (Nat.le_of_ble_eq_true rfl) (List.forall_mem_cons.mpr ⟨rfl, (List.forall_mem_cons.mpr ⟨rfl, (fun _ h => nomatch h)⟩)⟩) (fun K => ?_)
  refine g_iload_n (pc := 0) dX4_canal_0 rfl ?_
  refine g_iconst (pc := 1) (v := 2) dX4_canal_1 (by decide +kernel) ?_
  refine g_icmp_lt (pc := 2) 11 dX4_canal_2 (by decide) (by omega) (by decide) (fun h => absurd h (by omega)) (fun _ => ?_)
  refine g_iload_n (pc := 5) dX4_canal_5 rfl ?_
  refine g_bipush (pc := 6) (v := 24) dX4_canal_6 (by decide +kernel) ?_
  refine g_icmp_le (pc := 8) 13 dX4_canal_8 (by decide) (by omega) (by decide) (fun h => absurd h (by omega)) (fun _ => ?_)
  refine g_iconst (pc := 11) (v := 4294967295) dX4_canal_11 (by decide +kernel) ?_
  exact g_iret (pc := 12) dX4_canal_12 ⟨mg_narI _, Or.inl rfl⟩ ⟨rfl, rfl⟩
/-- X5_canal(r5.0, a[25,2147483647]) at qms6 -/
theorem qa8 (l : Launch) {D : va_G} {E : mg_E} {B : Nat} (a : Nat) (h_a : 25 ≤ a) (k_a : a ≤ 2147483647) : mg_C l (D, E, true, B) mX5_canal [rv (D, E, true, B) 5 0, iv a] qms6 (fun v g' => v = some 4294967295 ∧ g' = qms6) := by
  refine mg_C.of (by decide) rfl (Nat.le_of_ble_eq_true rfl) (List.forall_mem_cons.mpr ⟨rfl, (List.forall_mem_cons.mpr ⟨rfl, (fun _ h => nomatch h)⟩)⟩) (fun K => ?_)
  refine g_iload_n (pc := 0) dX5_canal_0 rfl ?_
  refine g_iconst (pc := 1) (v := 2) dX5_canal_1 (by decide +kernel) ?_
  refine g_icmp_lt (pc := 2) 11 dX5_canal_2 (by decide) (by omega) (by decide) (fun h => absurd h (by omega)) (fun _ => ?_)
  refine g_iload_n (pc := 5) dX5_canal_5 rfl ?_
  refine g_bipush (pc := 6) (v := 24) dX5_canal_6 (by decide +kernel) ?_
  refine g_icmp_le (pc := 8) 13 dX5_canal_8 (by decide) (by omega) (by decide) (fun h => absurd h (by omega)) (fun _ => ?_)
  refine g_iconst (pc := 11) (v := 4294967295) dX5_canal_11 (by decide +kernel) ?_
  exact g_iret (pc := 12) dX5_canal_12 ⟨mg_narI _, Or.inl rfl⟩ ⟨rfl, rfl⟩
/-- X4_link(r4.0, a[0,4294967295], b[0,4294967295]) at qms6 -/
theorem qa9 (l : Launch) {D : va_G} {E : mg_E} {B : Nat} (a : Nat) (h_a : 0 ≤ a) (k_a : a ≤ 4294967295) (b : Nat) (h_b : 0 ≤ b) (k_b : b ≤ 4294967295) : mg_C l (D, E, true, B) mX4_link [rv (D, E, true, B) 4 0, iv a, iv b] qms6 (fun v g' => v = some 4294967295 ∧ g' = qms6) := by
  refine mg_C.of (by decide) rfl (Nat.le_of_ble_eq_true rfl) (List.forall_mem_cons.mpr ⟨rfl, (List.forall_mem_cons.mpr ⟨rfl, (List.forall_mem_cons.mpr ⟨rfl, (fun _ h => nomatch h)⟩)⟩)⟩) (fun K => ?_)
  refine g_aload_n (pc := 0) dX4_link_0 rfl ?_
  refine fg_X4_link_55 (pc := 1) dX4_link_1 ?_
  refine g_top (b := 1) (by decide +kernel) ?_
  refine g_if_ne (pc := 4) 44 dX4_link_4 (by decide) (by decide) (fun _ => ?_) (fun h => absurd h (by decide))
  refine g_iconst (pc := 44) (v := 4294967295) dX4_link_44 (by decide +kernel) ?_
  exact g_iret (pc := 45) dX4_link_45 ⟨mg_narI _, Or.inl rfl⟩ ⟨rfl, rfl⟩
def qas6 : mg_F := mg_up (mg_up (mg_up (mg_up (mg_up (mg_up (mg_up (mg_up (mg_up (mg_up (qms6) 61 0 0 0) 61 0 1 1) 61 0 0 0) 61 0 0 0) 61 0 1 0) 61 0 1 0) 61 0 0 0) 61 0 0 0) 61 0 1 0) 61 0 1 0
/-- X5_part(r5.0) at qms6 -/
theorem qa10 (l : Launch) {D : va_G} {E : mg_E} {B : Nat} : mg_C l (D, E, true, B) mX5_part [rv (D, E, true, B) 5 0] qms6 (fun v g' => v = some 1 ∧ g' = qas6) := by
  refine mg_C.of (by decide) rfl (Nat.le_of_ble_eq_true rfl) (List.forall_mem_cons.mpr ⟨rfl, (fun _ h => nomatch h)⟩) (fun K => ?_)
  refine g_iconst (pc := 0) (v := 0) dX5_part_0 (by decide +kernel) ?_
  refine g_istore_n (pc := 1) (ls' := [rv (D, E, true, B) 5 0, iv 0]) dX5_part_1 (Nat.le_of_ble_eq_true rfl) (Nat.le_of_ble_eq_true rfl) rfl ?_
  refine g_iload_n (pc := 2) dX5_part_2 rfl ?_
  refine g_aload_n (pc := 3) dX5_part_3 rfl ?_
  refine fg_X5_part_101 (pc := 4) (by rfl) dX5_part_4 ?_
  refine g_top (b := 2) (by decide +kernel) ?_
  refine g_icmp_ge (pc := 7) 23 dX5_part_7 (by decide) (by decide) (by decide) (fun h => absurd h (by decide)) (fun _ => ?_)
  refine g_aload_n (pc := 10) dX5_part_10 rfl ?_
  refine fg_X5_part_80 (pc := 11) (by rfl) dX5_part_11 ?_
  refine g_iload_n (pc := 14) dX5_part_14 rfl ?_
  refine g_iload_n (pc := 15) dX5_part_15 rfl ?_
  refine g_iastore (pc := 16) (k := 61) (i := 0) (n := 24) (show 0 < 1 by omega) (fun _ => rfl) (by decide) (by decide) dX5_part_16 ?_
  refine g_iinc (pc := 17) (v := 1) (ls' := [rv (D, E, true, B) 5 0, iv 1]) dX5_part_17 (Nat.le_of_ble_eq_true rfl) rfl (by decide +kernel) rfl ?_
  refine g_goto (pc := 20) 2 dX5_part_20 (by decide) ?_
  refine g_iload_n (pc := 2) dX5_part_2 rfl ?_
  refine g_aload_n (pc := 3) dX5_part_3 rfl ?_
  refine fg_X5_part_101 (pc := 4) (by rfl) dX5_part_4 ?_
  refine g_top (b := 2) (by decide +kernel) ?_
  refine g_icmp_ge (pc := 7) 23 dX5_part_7 (by decide) (by decide) (by decide) (fun h => absurd h (by decide)) (fun _ => ?_)
  refine g_aload_n (pc := 10) dX5_part_10 rfl ?_
  refine fg_X5_part_80 (pc := 11) (by rfl) dX5_part_11 ?_
  refine g_iload_n (pc := 14) dX5_part_14 rfl ?_
  refine g_iload_n (pc := 15) dX5_part_15 rfl ?_
  refine g_iastore (pc := 16) (k := 61) (i := 0) (n := 24) (show 0 < 1 by omega) (fun _ => rfl) (by decide) (by decide) dX5_part_16 ?_
  refine g_iinc (pc := 17) (v := 2) (ls' := [rv (D, E, true, B) 5 0, iv 2]) dX5_part_17 (Nat.le_of_ble_eq_true rfl) rfl (by decide +kernel) rfl ?_
  refine g_goto (pc := 20) 2 dX5_part_20 (by decide) ?_
  refine g_iload_n (pc := 2) dX5_part_2 rfl ?_
  refine g_aload_n (pc := 3) dX5_part_3 rfl ?_
  refine fg_X5_part_101 (pc := 4) (by rfl) dX5_part_4 ?_
  refine g_top (b := 2) (by decide +kernel) ?_
  refine g_icmp_ge (pc := 7) 23 dX5_part_7 (by decide) (by decide) (by decide) (fun _ => ?_) (fun h => absurd (by decide) h)
  refine g_iconst (pc := 23) (v := 0) dX5_part_23 (by decide +kernel) ?_
  refine g_istore_n (pc := 24) (ls' := [rv (D, E, true, B) 5 0, iv 0]) dX5_part_24 (Nat.le_of_ble_eq_true rfl) (Nat.le_of_ble_eq_true rfl) rfl ?_
  refine g_iload_n (pc := 25) dX5_part_25 rfl ?_
  refine g_aload_n (pc := 26) dX5_part_26 rfl ?_
  refine fg_X5_part_101 (pc := 27) (by rfl) dX5_part_27 ?_
  refine g_top (b := 2) (by decide +kernel) ?_
  refine g_icmp_ge (pc := 30) 121 dX5_part_30 (by decide) (by decide) (by decide) (fun h => absurd h (by decide)) (fun _ => ?_)
  refine g_iconst (pc := 33) (v := 0) dX5_part_33 (by decide +kernel) ?_
  refine g_istore_n (pc := 34) (ls' := [rv (D, E, true, B) 5 0, iv 0, iv 0]) dX5_part_34 (Nat.le_of_ble_eq_true rfl) (Nat.le_of_ble_eq_true rfl) rfl ?_
  refine g_iload_n (pc := 35) dX5_part_35 rfl ?_
  refine g_aload_n (pc := 36) dX5_part_36 rfl ?_
  refine fg_X5_part_101 (pc := 37) (by rfl) dX5_part_37 ?_
  refine g_top (b := 2) (by decide +kernel) ?_
  refine g_icmp_ge (pc := 40) 115 dX5_part_40 (by decide) (by decide) (by decide) (fun h => absurd h (by decide)) (fun _ => ?_)
  refine g_iconst (pc := 43) (v := 0) dX5_part_43 (by decide +kernel) ?_
  refine g_istore_n (pc := 44) (ls' := [rv (D, E, true, B) 5 0, iv 0, iv 0, iv 0]) dX5_part_44 (Nat.le_of_ble_eq_true rfl) (Nat.le_of_ble_eq_true rfl) rfl ?_
  refine g_iload_n (pc := 45) dX5_part_45 rfl ?_
  refine g_aload_n (pc := 46) dX5_part_46 rfl ?_
  refine fg_X5_part_101 (pc := 47) (by rfl) dX5_part_47 ?_
  refine g_top (b := 2) (by decide +kernel) ?_
  refine g_icmp_ge (pc := 50) 109 dX5_part_50 (by decide) (by decide) (by decide) (fun h => absurd h (by decide)) (fun _ => ?_)
  refine g_aload_n (pc := 53) dX5_part_53 rfl ?_
  refine fg_X5_part_80 (pc := 54) (by rfl) dX5_part_54 ?_
  refine g_iload_n (pc := 57) dX5_part_57 rfl ?_
  refine g_aload_n (pc := 58) dX5_part_58 rfl ?_
  refine fg_X5_part_7 (pc := 59) (by rfl) dX5_part_59 ?_
  refine g_bipush (pc := 62) (v := 24) dX5_part_62 (by decide +kernel) ?_
  refine g_iload_n (pc := 64) dX5_part_64 rfl ?_
  refine g_imul (pc := 65) dX5_part_65 ?_
  refine g_top (b := 0) (by decide +kernel) ?_
  refine g_iload_n (pc := 66) dX5_part_66 rfl ?_
  refine g_iadd (pc := 67) dX5_part_67 ?_
  refine g_top (b := 0) (by decide +kernel) ?_
  refine g_baload (pc := 68) (k := 35) (i := 0) (n := 576) (show 0 < 1 by omega) rfl (by decide) (by decide) dX5_part_68 ?_
  refine g_top (b := 0) (by decide +kernel) ?_
  refine g_if_eq (pc := 69) 96 dX5_part_69 (by decide) (by decide) (fun _ => ?_) (fun h => absurd (by decide) h)
  refine g_aload_n (pc := 96) dX5_part_96 rfl ?_
  refine fg_X5_part_80 (pc := 97) (by rfl) dX5_part_97 ?_
  refine g_iload_n (pc := 100) dX5_part_100 rfl ?_
  refine g_iaload (pc := 101) (k := 61) (i := 0) (n := 24) (show 0 < 1 by omega) rfl (by decide) (by decide) dX5_part_101 ?_
  refine g_top (b := 0) (by decide +kernel) ?_
  refine g_iastore (pc := 102) (k := 61) (i := 0) (n := 24) (show 0 < 1 by omega) (fun _ => rfl) (by decide) (by decide) dX5_part_102 ?_
  refine g_iinc (pc := 103) (v := 1) (ls' := [rv (D, E, true, B) 5 0, iv 0, iv 0, iv 1]) dX5_part_103 (Nat.le_of_ble_eq_true rfl) rfl (by decide +kernel) rfl ?_
  refine g_goto (pc := 106) 45 dX5_part_106 (by decide) ?_
  refine g_iload_n (pc := 45) dX5_part_45 rfl ?_
  refine g_aload_n (pc := 46) dX5_part_46 rfl ?_
  refine fg_X5_part_101 (pc := 47) (by rfl) dX5_part_47 ?_
  refine g_top (b := 2) (by decide +kernel) ?_
  refine g_icmp_ge (pc := 50) 109 dX5_part_50 (by decide) (by decide) (by decide) (fun h => absurd h (by decide)) (fun _ => ?_)
  refine g_aload_n (pc := 53) dX5_part_53 rfl ?_
  refine fg_X5_part_80 (pc := 54) (by rfl) dX5_part_54 ?_
  refine g_iload_n (pc := 57) dX5_part_57 rfl ?_
  refine g_aload_n (pc := 58) dX5_part_58 rfl ?_
  refine fg_X5_part_7 (pc := 59) (by rfl) dX5_part_59 ?_
  refine g_bipush (pc := 62) (v := 24) dX5_part_62 (by decide +kernel) ?_
  refine g_iload_n (pc := 64) dX5_part_64 rfl ?_
  refine g_imul (pc := 65) dX5_part_65 ?_
  refine g_top (b := 0) (by decide +kernel) ?_
  refine g_iload_n (pc := 66) dX5_part_66 rfl ?_
  refine g_iadd (pc := 67) dX5_part_67 ?_
  refine g_top (b := 1) (by decide +kernel) ?_
  refine g_baload (pc := 68) (k := 35) (i := 0) (n := 576) (show 0 < 1 by omega) rfl (by decide) (by decide) dX5_part_68 ?_
  refine g_top (b := 1) (by decide +kernel) ?_
  refine g_if_eq (pc := 69) 96 dX5_part_69 (by decide) (by decide) (fun h => absurd h (by decide)) (fun _ => ?_)
  refine g_aload_n (pc := 72) dX5_part_72 rfl ?_
  refine fg_X5_part_80 (pc := 73) (by rfl) dX5_part_73 ?_
  refine g_iload_n (pc := 76) dX5_part_76 rfl ?_
  refine g_iaload (pc := 77) (k := 61) (i := 0) (n := 24) (show 0 < 1 by omega) rfl (by decide) (by decide) dX5_part_77 ?_
  refine g_top (b := 1) (by decide +kernel) ?_
  refine g_aload_n (pc := 78) dX5_part_78 rfl ?_
  refine fg_X5_part_80 (pc := 79) (by rfl) dX5_part_79 ?_
  refine g_iload_n (pc := 82) dX5_part_82 rfl ?_
  refine g_iaload (pc := 83) (k := 61) (i := 0) (n := 24) (show 0 < 1 by omega) rfl (by decide) (by decide) dX5_part_83 ?_
  refine g_top (b := 0) (by decide +kernel) ?_
  refine g_icmp_ge (pc := 84) 96 dX5_part_84 (by decide) (by decide) (by decide) (fun _ => ?_) (fun h => absurd (by decide) h)
  refine g_aload_n (pc := 96) dX5_part_96 rfl ?_
  refine fg_X5_part_80 (pc := 97) (by rfl) dX5_part_97 ?_
  refine g_iload_n (pc := 100) dX5_part_100 rfl ?_
  refine g_iaload (pc := 101) (k := 61) (i := 0) (n := 24) (show 0 < 1 by omega) rfl (by decide) (by decide) dX5_part_101 ?_
  refine g_top (b := 0) (by decide +kernel) ?_
  refine g_iastore (pc := 102) (k := 61) (i := 0) (n := 24) (show 0 < 1 by omega) (fun _ => rfl) (by decide) (by decide) dX5_part_102 ?_
  refine g_iinc (pc := 103) (v := 2) (ls' := [rv (D, E, true, B) 5 0, iv 0, iv 0, iv 2]) dX5_part_103 (Nat.le_of_ble_eq_true rfl) rfl (by decide +kernel) rfl ?_
  refine g_goto (pc := 106) 45 dX5_part_106 (by decide) ?_
  refine g_iload_n (pc := 45) dX5_part_45 rfl ?_
  refine g_aload_n (pc := 46) dX5_part_46 rfl ?_
  refine fg_X5_part_101 (pc := 47) (by rfl) dX5_part_47 ?_
  refine g_top (b := 2) (by decide +kernel) ?_
  refine g_icmp_ge (pc := 50) 109 dX5_part_50 (by decide) (by decide) (by decide) (fun _ => ?_) (fun h => absurd (by decide) h)
  refine g_iinc (pc := 109) (v := 1) (ls' := [rv (D, E, true, B) 5 0, iv 0, iv 1, iv 2]) dX5_part_109 (Nat.le_of_ble_eq_true rfl) rfl (by decide +kernel) rfl ?_
  refine g_goto (pc := 112) 35 dX5_part_112 (by decide) ?_
  refine g_iload_n (pc := 35) dX5_part_35 rfl ?_
  refine g_aload_n (pc := 36) dX5_part_36 rfl ?_
  refine fg_X5_part_101 (pc := 37) (by rfl) dX5_part_37 ?_
  refine g_top (b := 2) (by decide +kernel) ?_
  refine g_icmp_ge (pc := 40) 115 dX5_part_40 (by decide) (by decide) (by decide) (fun h => absurd h (by decide)) (fun _ => ?_)
  refine g_iconst (pc := 43) (v := 0) dX5_part_43 (by decide +kernel) ?_
  refine g_istore_n (pc := 44) (ls' := [rv (D, E, true, B) 5 0, iv 0, iv 1, iv 0]) dX5_part_44 (Nat.le_of_ble_eq_true rfl) (Nat.le_of_ble_eq_true rfl) rfl ?_
  refine g_iload_n (pc := 45) dX5_part_45 rfl ?_
  refine g_aload_n (pc := 46) dX5_part_46 rfl ?_
  refine fg_X5_part_101 (pc := 47) (by rfl) dX5_part_47 ?_
  refine g_top (b := 2) (by decide +kernel) ?_
  refine g_icmp_ge (pc := 50) 109 dX5_part_50 (by decide) (by decide) (by decide) (fun h => absurd h (by decide)) (fun _ => ?_)
  refine g_aload_n (pc := 53) dX5_part_53 rfl ?_
  refine fg_X5_part_80 (pc := 54) (by rfl) dX5_part_54 ?_
  refine g_iload_n (pc := 57) dX5_part_57 rfl ?_
  refine g_aload_n (pc := 58) dX5_part_58 rfl ?_
  refine fg_X5_part_7 (pc := 59) (by rfl) dX5_part_59 ?_
  refine g_bipush (pc := 62) (v := 24) dX5_part_62 (by decide +kernel) ?_
  refine g_iload_n (pc := 64) dX5_part_64 rfl ?_
  refine g_imul (pc := 65) dX5_part_65 ?_
  refine g_top (b := 24) (by decide +kernel) ?_
  refine g_iload_n (pc := 66) dX5_part_66 rfl ?_
  refine g_iadd (pc := 67) dX5_part_67 ?_
  refine g_top (b := 24) (by decide +kernel) ?_
  refine g_baload (pc := 68) (k := 35) (i := 0) (n := 576) (show 0 < 1 by omega) rfl (by decide) (by decide) dX5_part_68 ?_
  refine g_top (b := 1) (by decide +kernel) ?_
  refine g_if_eq (pc := 69) 96 dX5_part_69 (by decide) (by decide) (fun h => absurd h (by decide)) (fun _ => ?_)
  refine g_aload_n (pc := 72) dX5_part_72 rfl ?_
  refine fg_X5_part_80 (pc := 73) (by rfl) dX5_part_73 ?_
  refine g_iload_n (pc := 76) dX5_part_76 rfl ?_
  refine g_iaload (pc := 77) (k := 61) (i := 0) (n := 24) (show 0 < 1 by omega) rfl (by decide) (by decide) dX5_part_77 ?_
  refine g_top (b := 0) (by decide +kernel) ?_
  refine g_aload_n (pc := 78) dX5_part_78 rfl ?_
  refine fg_X5_part_80 (pc := 79) (by rfl) dX5_part_79 ?_
  refine g_iload_n (pc := 82) dX5_part_82 rfl ?_
  refine g_iaload (pc := 83) (k := 61) (i := 0) (n := 24) (show 0 < 1 by omega) rfl (by decide) (by decide) dX5_part_83 ?_
  refine g_top (b := 1) (by decide +kernel) ?_
  refine g_icmp_ge (pc := 84) 96 dX5_part_84 (by decide) (by decide) (by decide) (fun h => absurd h (by decide)) (fun _ => ?_)
  refine g_aload_n (pc := 87) dX5_part_87 rfl ?_
  refine fg_X5_part_80 (pc := 88) (by rfl) dX5_part_88 ?_
  refine g_iload_n (pc := 91) dX5_part_91 rfl ?_
  refine g_iaload (pc := 92) (k := 61) (i := 0) (n := 24) (show 0 < 1 by omega) rfl (by decide) (by decide) dX5_part_92 ?_
  refine g_top (b := 0) (by decide +kernel) ?_
  refine g_goto (pc := 93) 102 dX5_part_93 (by decide) ?_
  refine g_iastore (pc := 102) (k := 61) (i := 0) (n := 24) (show 0 < 1 by omega) (fun _ => rfl) (by decide) (by decide) dX5_part_102 ?_
  refine g_iinc (pc := 103) (v := 1) (ls' := [rv (D, E, true, B) 5 0, iv 0, iv 1, iv 1]) dX5_part_103 (Nat.le_of_ble_eq_true rfl) rfl (by decide +kernel) rfl ?_
  refine g_goto (pc := 106) 45 dX5_part_106 (by decide) ?_
  refine g_iload_n (pc := 45) dX5_part_45 rfl ?_
  refine g_aload_n (pc := 46) dX5_part_46 rfl ?_
  refine fg_X5_part_101 (pc := 47) (by rfl) dX5_part_47 ?_
  refine g_top (b := 2) (by decide +kernel) ?_
  refine g_icmp_ge (pc := 50) 109 dX5_part_50 (by decide) (by decide) (by decide) (fun h => absurd h (by decide)) (fun _ => ?_)
  refine g_aload_n (pc := 53) dX5_part_53 rfl ?_
  refine fg_X5_part_80 (pc := 54) (by rfl) dX5_part_54 ?_
  refine g_iload_n (pc := 57) dX5_part_57 rfl ?_
  refine g_aload_n (pc := 58) dX5_part_58 rfl ?_
  refine fg_X5_part_7 (pc := 59) (by rfl) dX5_part_59 ?_
  refine g_bipush (pc := 62) (v := 24) dX5_part_62 (by decide +kernel) ?_
  refine g_iload_n (pc := 64) dX5_part_64 rfl ?_
  refine g_imul (pc := 65) dX5_part_65 ?_
  refine g_top (b := 24) (by decide +kernel) ?_
  refine g_iload_n (pc := 66) dX5_part_66 rfl ?_
  refine g_iadd (pc := 67) dX5_part_67 ?_
  refine g_top (b := 25) (by decide +kernel) ?_
  refine g_baload (pc := 68) (k := 35) (i := 0) (n := 576) (show 0 < 1 by omega) rfl (by decide) (by decide) dX5_part_68 ?_
  refine g_top (b := 0) (by decide +kernel) ?_
  refine g_if_eq (pc := 69) 96 dX5_part_69 (by decide) (by decide) (fun _ => ?_) (fun h => absurd (by decide) h)
  refine g_aload_n (pc := 96) dX5_part_96 rfl ?_
  refine fg_X5_part_80 (pc := 97) (by rfl) dX5_part_97 ?_
  refine g_iload_n (pc := 100) dX5_part_100 rfl ?_
  refine g_iaload (pc := 101) (k := 61) (i := 0) (n := 24) (show 0 < 1 by omega) rfl (by decide) (by decide) dX5_part_101 ?_
  refine g_top (b := 0) (by decide +kernel) ?_
  refine g_iastore (pc := 102) (k := 61) (i := 0) (n := 24) (show 0 < 1 by omega) (fun _ => rfl) (by decide) (by decide) dX5_part_102 ?_
  refine g_iinc (pc := 103) (v := 2) (ls' := [rv (D, E, true, B) 5 0, iv 0, iv 1, iv 2]) dX5_part_103 (Nat.le_of_ble_eq_true rfl) rfl (by decide +kernel) rfl ?_
  refine g_goto (pc := 106) 45 dX5_part_106 (by decide) ?_
  refine g_iload_n (pc := 45) dX5_part_45 rfl ?_
  refine g_aload_n (pc := 46) dX5_part_46 rfl ?_
  refine fg_X5_part_101 (pc := 47) (by rfl) dX5_part_47 ?_
  refine g_top (b := 2) (by decide +kernel) ?_
  refine g_icmp_ge (pc := 50) 109 dX5_part_50 (by decide) (by decide) (by decide) (fun _ => ?_) (fun h => absurd (by decide) h)
  refine g_iinc (pc := 109) (v := 2) (ls' := [rv (D, E, true, B) 5 0, iv 0, iv 2, iv 2]) dX5_part_109 (Nat.le_of_ble_eq_true rfl) rfl (by decide +kernel) rfl ?_
  refine g_goto (pc := 112) 35 dX5_part_112 (by decide) ?_
  refine g_iload_n (pc := 35) dX5_part_35 rfl ?_
  refine g_aload_n (pc := 36) dX5_part_36 rfl ?_
  refine fg_X5_part_101 (pc := 37) (by rfl) dX5_part_37 ?_
  refine g_top (b := 2) (by decide +kernel) ?_
  refine g_icmp_ge (pc := 40) 115 dX5_part_40 (by decide) (by decide) (by decide) (fun _ => ?_) (fun h => absurd (by decide) h)
  refine g_iinc (pc := 115) (v := 1) (ls' := [rv (D, E, true, B) 5 0, iv 1, iv 2, iv 2]) dX5_part_115 (Nat.le_of_ble_eq_true rfl) rfl (by decide +kernel) rfl ?_
  refine g_goto (pc := 118) 25 dX5_part_118 (by decide) ?_
  refine g_iload_n (pc := 25) dX5_part_25 rfl ?_
  refine g_aload_n (pc := 26) dX5_part_26 rfl ?_
  refine fg_X5_part_101 (pc := 27) (by rfl) dX5_part_27 ?_
  refine g_top (b := 2) (by decide +kernel) ?_
  refine g_icmp_ge (pc := 30) 121 dX5_part_30 (by decide) (by decide) (by decide) (fun h => absurd h (by decide)) (fun _ => ?_)
  refine g_iconst (pc := 33) (v := 0) dX5_part_33 (by decide +kernel) ?_
  refine g_istore_n (pc := 34) (ls' := [rv (D, E, true, B) 5 0, iv 1, iv 0, iv 2]) dX5_part_34 (Nat.le_of_ble_eq_true rfl) (Nat.le_of_ble_eq_true rfl) rfl ?_
  refine g_iload_n (pc := 35) dX5_part_35 rfl ?_
  refine g_aload_n (pc := 36) dX5_part_36 rfl ?_
  refine fg_X5_part_101 (pc := 37) (by rfl) dX5_part_37 ?_
  refine g_top (b := 2) (by decide +kernel) ?_
  refine g_icmp_ge (pc := 40) 115 dX5_part_40 (by decide) (by decide) (by decide) (fun h => absurd h (by decide)) (fun _ => ?_)
  refine g_iconst (pc := 43) (v := 0) dX5_part_43 (by decide +kernel) ?_
  refine g_istore_n (pc := 44) (ls' := [rv (D, E, true, B) 5 0, iv 1, iv 0, iv 0]) dX5_part_44 (Nat.le_of_ble_eq_true rfl) (Nat.le_of_ble_eq_true rfl) rfl ?_
  refine g_iload_n (pc := 45) dX5_part_45 rfl ?_
  refine g_aload_n (pc := 46) dX5_part_46 rfl ?_
  refine fg_X5_part_101 (pc := 47) (by rfl) dX5_part_47 ?_
  refine g_top (b := 2) (by decide +kernel) ?_
  refine g_icmp_ge (pc := 50) 109 dX5_part_50 (by decide) (by decide) (by decide) (fun h => absurd h (by decide)) (fun _ => ?_)
  refine g_aload_n (pc := 53) dX5_part_53 rfl ?_
  refine fg_X5_part_80 (pc := 54) (by rfl) dX5_part_54 ?_
  refine g_iload_n (pc := 57) dX5_part_57 rfl ?_
  refine g_aload_n (pc := 58) dX5_part_58 rfl ?_
  refine fg_X5_part_7 (pc := 59) (by rfl) dX5_part_59 ?_
  refine g_bipush (pc := 62) (v := 24) dX5_part_62 (by decide +kernel) ?_
  refine g_iload_n (pc := 64) dX5_part_64 rfl ?_
  refine g_imul (pc := 65) dX5_part_65 ?_
  refine g_top (b := 0) (by decide +kernel) ?_
  refine g_iload_n (pc := 66) dX5_part_66 rfl ?_
  refine g_iadd (pc := 67) dX5_part_67 ?_
  refine g_top (b := 0) (by decide +kernel) ?_
  refine g_baload (pc := 68) (k := 35) (i := 0) (n := 576) (show 0 < 1 by omega) rfl (by decide) (by decide) dX5_part_68 ?_
  refine g_top (b := 0) (by decide +kernel) ?_
  refine g_if_eq (pc := 69) 96 dX5_part_69 (by decide) (by decide) (fun _ => ?_) (fun h => absurd (by decide) h)
  refine g_aload_n (pc := 96) dX5_part_96 rfl ?_
  refine fg_X5_part_80 (pc := 97) (by rfl) dX5_part_97 ?_
  refine g_iload_n (pc := 100) dX5_part_100 rfl ?_
  refine g_iaload (pc := 101) (k := 61) (i := 0) (n := 24) (show 0 < 1 by omega) rfl (by decide) (by decide) dX5_part_101 ?_
  refine g_top (b := 0) (by decide +kernel) ?_
  refine g_iastore (pc := 102) (k := 61) (i := 0) (n := 24) (show 0 < 1 by omega) (fun _ => rfl) (by decide) (by decide) dX5_part_102 ?_
  refine g_iinc (pc := 103) (v := 1) (ls' := [rv (D, E, true, B) 5 0, iv 1, iv 0, iv 1]) dX5_part_103 (Nat.le_of_ble_eq_true rfl) rfl (by decide +kernel) rfl ?_
  refine g_goto (pc := 106) 45 dX5_part_106 (by decide) ?_
  refine g_iload_n (pc := 45) dX5_part_45 rfl ?_
  refine g_aload_n (pc := 46) dX5_part_46 rfl ?_
  refine fg_X5_part_101 (pc := 47) (by rfl) dX5_part_47 ?_
  refine g_top (b := 2) (by decide +kernel) ?_
  refine g_icmp_ge (pc := 50) 109 dX5_part_50 (by decide) (by decide) (by decide) (fun h => absurd h (by decide)) (fun _ => ?_)
  refine g_aload_n (pc := 53) dX5_part_53 rfl ?_
  refine fg_X5_part_80 (pc := 54) (by rfl) dX5_part_54 ?_
  refine g_iload_n (pc := 57) dX5_part_57 rfl ?_
  refine g_aload_n (pc := 58) dX5_part_58 rfl ?_
  refine fg_X5_part_7 (pc := 59) (by rfl) dX5_part_59 ?_
  refine g_bipush (pc := 62) (v := 24) dX5_part_62 (by decide +kernel) ?_
  refine g_iload_n (pc := 64) dX5_part_64 rfl ?_
  refine g_imul (pc := 65) dX5_part_65 ?_
  refine g_top (b := 0) (by decide +kernel) ?_
  refine g_iload_n (pc := 66) dX5_part_66 rfl ?_
  refine g_iadd (pc := 67) dX5_part_67 ?_
  refine g_top (b := 1) (by decide +kernel) ?_
  refine g_baload (pc := 68) (k := 35) (i := 0) (n := 576) (show 0 < 1 by omega) rfl (by decide) (by decide) dX5_part_68 ?_
  refine g_top (b := 1) (by decide +kernel) ?_
  refine g_if_eq (pc := 69) 96 dX5_part_69 (by decide) (by decide) (fun h => absurd h (by decide)) (fun _ => ?_)
  refine g_aload_n (pc := 72) dX5_part_72 rfl ?_
  refine fg_X5_part_80 (pc := 73) (by rfl) dX5_part_73 ?_
  refine g_iload_n (pc := 76) dX5_part_76 rfl ?_
  refine g_iaload (pc := 77) (k := 61) (i := 0) (n := 24) (show 0 < 1 by omega) rfl (by decide) (by decide) dX5_part_77 ?_
  refine g_top (b := 0) (by decide +kernel) ?_
  refine g_aload_n (pc := 78) dX5_part_78 rfl ?_
  refine fg_X5_part_80 (pc := 79) (by rfl) dX5_part_79 ?_
  refine g_iload_n (pc := 82) dX5_part_82 rfl ?_
  refine g_iaload (pc := 83) (k := 61) (i := 0) (n := 24) (show 0 < 1 by omega) rfl (by decide) (by decide) dX5_part_83 ?_
  refine g_top (b := 0) (by decide +kernel) ?_
  refine g_icmp_ge (pc := 84) 96 dX5_part_84 (by decide) (by decide) (by decide) (fun _ => ?_) (fun h => absurd (by decide) h)
  refine g_aload_n (pc := 96) dX5_part_96 rfl ?_
  refine fg_X5_part_80 (pc := 97) (by rfl) dX5_part_97 ?_
  refine g_iload_n (pc := 100) dX5_part_100 rfl ?_
  refine g_iaload (pc := 101) (k := 61) (i := 0) (n := 24) (show 0 < 1 by omega) rfl (by decide) (by decide) dX5_part_101 ?_
  refine g_top (b := 0) (by decide +kernel) ?_
  refine g_iastore (pc := 102) (k := 61) (i := 0) (n := 24) (show 0 < 1 by omega) (fun _ => rfl) (by decide) (by decide) dX5_part_102 ?_
  refine g_iinc (pc := 103) (v := 2) (ls' := [rv (D, E, true, B) 5 0, iv 1, iv 0, iv 2]) dX5_part_103 (Nat.le_of_ble_eq_true rfl) rfl (by decide +kernel) rfl ?_
  refine g_goto (pc := 106) 45 dX5_part_106 (by decide) ?_
  refine g_iload_n (pc := 45) dX5_part_45 rfl ?_
  refine g_aload_n (pc := 46) dX5_part_46 rfl ?_
  refine fg_X5_part_101 (pc := 47) (by rfl) dX5_part_47 ?_
  refine g_top (b := 2) (by decide +kernel) ?_
  refine g_icmp_ge (pc := 50) 109 dX5_part_50 (by decide) (by decide) (by decide) (fun _ => ?_) (fun h => absurd (by decide) h)
  refine g_iinc (pc := 109) (v := 1) (ls' := [rv (D, E, true, B) 5 0, iv 1, iv 1, iv 2]) dX5_part_109 (Nat.le_of_ble_eq_true rfl) rfl (by decide +kernel) rfl ?_
  refine g_goto (pc := 112) 35 dX5_part_112 (by decide) ?_
  refine g_iload_n (pc := 35) dX5_part_35 rfl ?_
  refine g_aload_n (pc := 36) dX5_part_36 rfl ?_
  refine fg_X5_part_101 (pc := 37) (by rfl) dX5_part_37 ?_
  refine g_top (b := 2) (by decide +kernel) ?_
  refine g_icmp_ge (pc := 40) 115 dX5_part_40 (by decide) (by decide) (by decide) (fun h => absurd h (by decide)) (fun _ => ?_)
  refine g_iconst (pc := 43) (v := 0) dX5_part_43 (by decide +kernel) ?_
  refine g_istore_n (pc := 44) (ls' := [rv (D, E, true, B) 5 0, iv 1, iv 1, iv 0]) dX5_part_44 (Nat.le_of_ble_eq_true rfl) (Nat.le_of_ble_eq_true rfl) rfl ?_
  refine g_iload_n (pc := 45) dX5_part_45 rfl ?_
  refine g_aload_n (pc := 46) dX5_part_46 rfl ?_
  refine fg_X5_part_101 (pc := 47) (by rfl) dX5_part_47 ?_
  refine g_top (b := 2) (by decide +kernel) ?_
  refine g_icmp_ge (pc := 50) 109 dX5_part_50 (by decide) (by decide) (by decide) (fun h => absurd h (by decide)) (fun _ => ?_)
  refine g_aload_n (pc := 53) dX5_part_53 rfl ?_
  refine fg_X5_part_80 (pc := 54) (by rfl) dX5_part_54 ?_
  refine g_iload_n (pc := 57) dX5_part_57 rfl ?_
  refine g_aload_n (pc := 58) dX5_part_58 rfl ?_
  refine fg_X5_part_7 (pc := 59) (by rfl) dX5_part_59 ?_
  refine g_bipush (pc := 62) (v := 24) dX5_part_62 (by decide +kernel) ?_
  refine g_iload_n (pc := 64) dX5_part_64 rfl ?_
  refine g_imul (pc := 65) dX5_part_65 ?_
  refine g_top (b := 24) (by decide +kernel) ?_
  refine g_iload_n (pc := 66) dX5_part_66 rfl ?_
  refine g_iadd (pc := 67) dX5_part_67 ?_
  refine g_top (b := 24) (by decide +kernel) ?_
  refine g_baload (pc := 68) (k := 35) (i := 0) (n := 576) (show 0 < 1 by omega) rfl (by decide) (by decide) dX5_part_68 ?_
  refine g_top (b := 1) (by decide +kernel) ?_
  refine g_if_eq (pc := 69) 96 dX5_part_69 (by decide) (by decide) (fun h => absurd h (by decide)) (fun _ => ?_)
  refine g_aload_n (pc := 72) dX5_part_72 rfl ?_
  refine fg_X5_part_80 (pc := 73) (by rfl) dX5_part_73 ?_
  refine g_iload_n (pc := 76) dX5_part_76 rfl ?_
  refine g_iaload (pc := 77) (k := 61) (i := 0) (n := 24) (show 0 < 1 by omega) rfl (by decide) (by decide) dX5_part_77 ?_
  refine g_top (b := 0) (by decide +kernel) ?_
  refine g_aload_n (pc := 78) dX5_part_78 rfl ?_
  refine fg_X5_part_80 (pc := 79) (by rfl) dX5_part_79 ?_
  refine g_iload_n (pc := 82) dX5_part_82 rfl ?_
  refine g_iaload (pc := 83) (k := 61) (i := 0) (n := 24) (show 0 < 1 by omega) rfl (by decide) (by decide) dX5_part_83 ?_
  refine g_top (b := 0) (by decide +kernel) ?_
  refine g_icmp_ge (pc := 84) 96 dX5_part_84 (by decide) (by decide) (by decide) (fun _ => ?_) (fun h => absurd (by decide) h)
  refine g_aload_n (pc := 96) dX5_part_96 rfl ?_
  refine fg_X5_part_80 (pc := 97) (by rfl) dX5_part_97 ?_
  refine g_iload_n (pc := 100) dX5_part_100 rfl ?_
  refine g_iaload (pc := 101) (k := 61) (i := 0) (n := 24) (show 0 < 1 by omega) rfl (by decide) (by decide) dX5_part_101 ?_
  refine g_top (b := 0) (by decide +kernel) ?_
  refine g_iastore (pc := 102) (k := 61) (i := 0) (n := 24) (show 0 < 1 by omega) (fun _ => rfl) (by decide) (by decide) dX5_part_102 ?_
  refine g_iinc (pc := 103) (v := 1) (ls' := [rv (D, E, true, B) 5 0, iv 1, iv 1, iv 1]) dX5_part_103 (Nat.le_of_ble_eq_true rfl) rfl (by decide +kernel) rfl ?_
  refine g_goto (pc := 106) 45 dX5_part_106 (by decide) ?_
  refine g_iload_n (pc := 45) dX5_part_45 rfl ?_
  refine g_aload_n (pc := 46) dX5_part_46 rfl ?_
  refine fg_X5_part_101 (pc := 47) (by rfl) dX5_part_47 ?_
  refine g_top (b := 2) (by decide +kernel) ?_
  refine g_icmp_ge (pc := 50) 109 dX5_part_50 (by decide) (by decide) (by decide) (fun h => absurd h (by decide)) (fun _ => ?_)
  refine g_aload_n (pc := 53) dX5_part_53 rfl ?_
  refine fg_X5_part_80 (pc := 54) (by rfl) dX5_part_54 ?_
  refine g_iload_n (pc := 57) dX5_part_57 rfl ?_
  refine g_aload_n (pc := 58) dX5_part_58 rfl ?_
  refine fg_X5_part_7 (pc := 59) (by rfl) dX5_part_59 ?_
  refine g_bipush (pc := 62) (v := 24) dX5_part_62 (by decide +kernel) ?_
  refine g_iload_n (pc := 64) dX5_part_64 rfl ?_
  refine g_imul (pc := 65) dX5_part_65 ?_
  refine g_top (b := 24) (by decide +kernel) ?_
  refine g_iload_n (pc := 66) dX5_part_66 rfl ?_
  refine g_iadd (pc := 67) dX5_part_67 ?_
  refine g_top (b := 25) (by decide +kernel) ?_
  refine g_baload (pc := 68) (k := 35) (i := 0) (n := 576) (show 0 < 1 by omega) rfl (by decide) (by decide) dX5_part_68 ?_
  refine g_top (b := 0) (by decide +kernel) ?_
  refine g_if_eq (pc := 69) 96 dX5_part_69 (by decide) (by decide) (fun _ => ?_) (fun h => absurd (by decide) h)
  refine g_aload_n (pc := 96) dX5_part_96 rfl ?_
  refine fg_X5_part_80 (pc := 97) (by rfl) dX5_part_97 ?_
  refine g_iload_n (pc := 100) dX5_part_100 rfl ?_
  refine g_iaload (pc := 101) (k := 61) (i := 0) (n := 24) (show 0 < 1 by omega) rfl (by decide) (by decide) dX5_part_101 ?_
  refine g_top (b := 0) (by decide +kernel) ?_
  refine g_iastore (pc := 102) (k := 61) (i := 0) (n := 24) (show 0 < 1 by omega) (fun _ => rfl) (by decide) (by decide) dX5_part_102 ?_
  refine g_iinc (pc := 103) (v := 2) (ls' := [rv (D, E, true, B) 5 0, iv 1, iv 1, iv 2]) dX5_part_103 (Nat.le_of_ble_eq_true rfl) rfl (by decide +kernel) rfl ?_
  refine g_goto (pc := 106) 45 dX5_part_106 (by decide) ?_
  refine g_iload_n (pc := 45) dX5_part_45 rfl ?_
  refine g_aload_n (pc := 46) dX5_part_46 rfl ?_
  refine fg_X5_part_101 (pc := 47) (by rfl) dX5_part_47 ?_
  refine g_top (b := 2) (by decide +kernel) ?_
  refine g_icmp_ge (pc := 50) 109 dX5_part_50 (by decide) (by decide) (by decide) (fun _ => ?_) (fun h => absurd (by decide) h)
  refine g_iinc (pc := 109) (v := 2) (ls' := [rv (D, E, true, B) 5 0, iv 1, iv 2, iv 2]) dX5_part_109 (Nat.le_of_ble_eq_true rfl) rfl (by decide +kernel) rfl ?_
  refine g_goto (pc := 112) 35 dX5_part_112 (by decide) ?_
  refine g_iload_n (pc := 35) dX5_part_35 rfl ?_
  refine g_aload_n (pc := 36) dX5_part_36 rfl ?_
  refine fg_X5_part_101 (pc := 37) (by rfl) dX5_part_37 ?_
  refine g_top (b := 2) (by decide +kernel) ?_
  refine g_icmp_ge (pc := 40) 115 dX5_part_40 (by decide) (by decide) (by decide) (fun _ => ?_) (fun h => absurd (by decide) h)
  refine g_iinc (pc := 115) (v := 2) (ls' := [rv (D, E, true, B) 5 0, iv 2, iv 2, iv 2]) dX5_part_115 (Nat.le_of_ble_eq_true rfl) rfl (by decide +kernel) rfl ?_
  refine g_goto (pc := 118) 25 dX5_part_118 (by decide) ?_
  refine g_iload_n (pc := 25) dX5_part_25 rfl ?_
  refine g_aload_n (pc := 26) dX5_part_26 rfl ?_
  refine fg_X5_part_101 (pc := 27) (by rfl) dX5_part_27 ?_
  refine g_top (b := 2) (by decide +kernel) ?_
  refine g_icmp_ge (pc := 30) 121 dX5_part_30 (by decide) (by decide) (by decide) (fun _ => ?_) (fun h => absurd (by decide) h)
  refine g_iconst (pc := 121) (v := 0) dX5_part_121 (by decide +kernel) ?_
  refine g_istore_n (pc := 122) (ls' := [rv (D, E, true, B) 5 0, iv 0, iv 2, iv 2]) dX5_part_122 (Nat.le_of_ble_eq_true rfl) (Nat.le_of_ble_eq_true rfl) rfl ?_
  refine g_iconst (pc := 123) (v := 0) dX5_part_123 (by decide +kernel) ?_
  refine g_istore_n (pc := 124) (ls' := [rv (D, E, true, B) 5 0, iv 0, iv 0, iv 2]) dX5_part_124 (Nat.le_of_ble_eq_true rfl) (Nat.le_of_ble_eq_true rfl) rfl ?_
  refine g_iload_n (pc := 125) dX5_part_125 rfl ?_
  refine g_aload_n (pc := 126) dX5_part_126 rfl ?_
  refine fg_X5_part_101 (pc := 127) (by rfl) dX5_part_127 ?_
  refine g_top (b := 2) (by decide +kernel) ?_
  refine g_icmp_ge (pc := 130) 157 dX5_part_130 (by decide) (by decide) (by decide) (fun h => absurd h (by decide)) (fun _ => ?_)
  refine g_iload_n (pc := 133) dX5_part_133 rfl ?_
  refine g_aload_n (pc := 134) dX5_part_134 rfl ?_
  refine fg_X5_part_80 (pc := 135) (by rfl) dX5_part_135 ?_
  refine g_iload_n (pc := 138) dX5_part_138 rfl ?_
  refine g_iaload (pc := 139) (k := 61) (i := 0) (n := 24) (show 0 < 1 by omega) rfl (by decide) (by decide) dX5_part_139 ?_
  refine g_top (b := 0) (by decide +kernel) ?_
  refine g_iload_n (pc := 140) dX5_part_140 rfl ?_
  refine g_icmp_ne (pc := 141) 148 dX5_part_141 (by decide) (by decide) (by decide) (fun h => absurd (by decide) h) (fun _ => ?_)
  refine g_iconst (pc := 144) (v := 1) dX5_part_144 (by decide +kernel) ?_
  refine g_goto (pc := 145) 149 dX5_part_145 (by decide) ?_
  refine g_iadd (pc := 149) dX5_part_149 ?_
  refine g_top (b := 1) (by decide +kernel) ?_
  refine g_istore_n (pc := 150) (ls' := [rv (D, E, true, B) 5 0, iv 1, iv 0, iv 2]) dX5_part_150 (Nat.le_of_ble_eq_true rfl) (Nat.le_of_ble_eq_true rfl) rfl ?_
  refine g_iinc (pc := 151) (v := 1) (ls' := [rv (D, E, true, B) 5 0, iv 1, iv 1, iv 2]) dX5_part_151 (Nat.le_of_ble_eq_true rfl) rfl (by decide +kernel) rfl ?_
  refine g_goto (pc := 154) 125 dX5_part_154 (by decide) ?_
  refine g_iload_n (pc := 125) dX5_part_125 rfl ?_
  refine g_aload_n (pc := 126) dX5_part_126 rfl ?_
  refine fg_X5_part_101 (pc := 127) (by rfl) dX5_part_127 ?_
  refine g_top (b := 2) (by decide +kernel) ?_
  refine g_icmp_ge (pc := 130) 157 dX5_part_130 (by decide) (by decide) (by decide) (fun h => absurd h (by decide)) (fun _ => ?_)
  refine g_iload_n (pc := 133) dX5_part_133 rfl ?_
  refine g_aload_n (pc := 134) dX5_part_134 rfl ?_
  refine fg_X5_part_80 (pc := 135) (by rfl) dX5_part_135 ?_
  refine g_iload_n (pc := 138) dX5_part_138 rfl ?_
  refine g_iaload (pc := 139) (k := 61) (i := 0) (n := 24) (show 0 < 1 by omega) rfl (by decide) (by decide) dX5_part_139 ?_
  refine g_top (b := 0) (by decide +kernel) ?_
  refine g_iload_n (pc := 140) dX5_part_140 rfl ?_
  refine g_icmp_ne (pc := 141) 148 dX5_part_141 (by decide) (by decide) (by decide) (fun _ => ?_) (fun h => absurd h (by decide))
  refine g_iconst (pc := 148) (v := 0) dX5_part_148 (by decide +kernel) ?_
  refine g_iadd (pc := 149) dX5_part_149 ?_
  refine g_top (b := 1) (by decide +kernel) ?_
  refine g_istore_n (pc := 150) (ls' := [rv (D, E, true, B) 5 0, iv 1, iv 1, iv 2]) dX5_part_150 (Nat.le_of_ble_eq_true rfl) (Nat.le_of_ble_eq_true rfl) rfl ?_
  refine g_iinc (pc := 151) (v := 2) (ls' := [rv (D, E, true, B) 5 0, iv 1, iv 2, iv 2]) dX5_part_151 (Nat.le_of_ble_eq_true rfl) rfl (by decide +kernel) rfl ?_
  refine g_goto (pc := 154) 125 dX5_part_154 (by decide) ?_
  refine g_iload_n (pc := 125) dX5_part_125 rfl ?_
  refine g_aload_n (pc := 126) dX5_part_126 rfl ?_
  refine fg_X5_part_101 (pc := 127) (by rfl) dX5_part_127 ?_
  refine g_top (b := 2) (by decide +kernel) ?_
  refine g_icmp_ge (pc := 130) 157 dX5_part_130 (by decide) (by decide) (by decide) (fun _ => ?_) (fun h => absurd (by decide) h)
  refine g_iload_n (pc := 157) dX5_part_157 rfl ?_
  exact g_iret (pc := 158) dX5_part_158 ⟨mg_narI _, Or.inl rfl⟩ ⟨rfl, rfl⟩
/-- X5_link(r5.0, a[0,4294967295], b[0,4294967295]) at qms6 -/
theorem qa11 (l : Launch) {D : va_G} {E : mg_E} {B : Nat} (a : Nat) (h_a : 0 ≤ a) (k_a : a ≤ 4294967295) (b : Nat) (h_b : 0 ≤ b) (k_b : b ≤ 4294967295) : mg_C l (D, E, true, B) mX5_link [rv (D, E, true, B) 5 0, iv a, iv b] qms6 (fun v g' => v = some 4294967295 ∧ g' = qas6) := by
  refine mg_C.of (by decide) rfl (Nat.le_of_ble_eq_true rfl) (List.forall_mem_cons.mpr ⟨rfl, (List.forall_mem_cons.mpr ⟨rfl, (List.forall_mem_cons.mpr ⟨rfl, (fun _ h => nomatch h)⟩)⟩)⟩) (fun K => ?_)
  refine g_aload_n (pc := 0) dX5_link_0 rfl ?_
  refine g_callVi (pc := 1) (Y' := mX5_part) (As := []) (st := []) (k := 5) (i := 0) (qa10 K.2.1) gX5_link_X5_part rfl (show 0 < 1 by omega) rfl rfl (na := 0) rfl (by decide +kernel) (by decide) (by decide) (Nat.le_of_ble_eq_true rfl) dX5_link_1 (fun r1 g1 hp => ?_)
  obtain ⟨h1, rfl⟩ := hp
  cases h1
  refine g_istore_n (pc := 4) (ls' := [rv (D, E, true, B) 5 0, iv a, iv b, iv 1]) dX5_link_4 (Nat.le_of_ble_eq_true rfl) (Nat.le_of_ble_eq_true rfl) rfl ?_
  refine g_aload_n (pc := 5) dX5_link_5 rfl ?_
  refine fg_X5_link_105 (pc := 6) (by rfl) dX5_link_6 ?_
  refine g_top (b := 1) (by decide +kernel) ?_
  refine g_if_ne (pc := 9) 43 dX5_link_9 (by decide) (by decide) (fun _ => ?_) (fun h => absurd h (by decide))
  refine g_iconst (pc := 43) (v := 4294967295) dX5_link_43 (by decide +kernel) ?_
  exact g_iret (pc := 44) dX5_link_44 ⟨mg_narI _, Or.inl rfl⟩ ⟨rfl, rfl⟩
/-- X4_open(r4.0, a[0,4294967295], b[0,4294967295], c[0,4294967295]) at qms6 -/
theorem qa12 (l : Launch) {D : va_G} {E : mg_E} {B : Nat} (a : Nat) (h_a : 0 ≤ a) (k_a : a ≤ 4294967295) (b : Nat) (h_b : 0 ≤ b) (k_b : b ≤ 4294967295) (c : Nat) (h_c : 0 ≤ c) (k_c : c ≤ 4294967295) : mg_C l (D, E, true, B) mX4_open [rv (D, E, true, B) 4 0, iv a, iv b, iv c] qms6 (fun v g' => v = some 4294967295 ∧ g' = qms6) := by
  refine mg_C.of (by decide) rfl (Nat.le_of_ble_eq_true rfl) (List.forall_mem_cons.mpr ⟨rfl, (List.forall_mem_cons.mpr ⟨rfl, (List.forall_mem_cons.mpr ⟨rfl, (List.forall_mem_cons.mpr ⟨rfl, (fun _ h => nomatch h)⟩)⟩)⟩)⟩) (fun K => ?_)
  refine g_aload_n (pc := 0) dX4_open_0 rfl ?_
  refine fg_X4_open_55 (pc := 1) dX4_open_1 ?_
  refine g_top (b := 1) (by decide +kernel) ?_
  refine g_if_ne (pc := 4) 29 dX4_open_4 (by decide) (by decide) (fun _ => ?_) (fun h => absurd h (by decide))
  refine g_iconst (pc := 29) (v := 4294967295) dX4_open_29 (by decide +kernel) ?_
  exact g_iret (pc := 30) dX4_open_30 ⟨mg_narI _, Or.inl rfl⟩ ⟨rfl, rfl⟩
/-- X5_open(r5.0, a[0,4294967295], b[0,4294967295], c[0,4294967295]) at qms6 -/
theorem qa13 (l : Launch) {D : va_G} {E : mg_E} {B : Nat} (a : Nat) (h_a : 0 ≤ a) (k_a : a ≤ 4294967295) (b : Nat) (h_b : 0 ≤ b) (k_b : b ≤ 4294967295) (c : Nat) (h_c : 0 ≤ c) (k_c : c ≤ 4294967295) : mg_C l (D, E, true, B) mX5_open [rv (D, E, true, B) 5 0, iv a, iv b, iv c] qms6 (fun v g' => v = some 4294967295 ∧ g' = qms6) := by
  refine mg_C.of (by decide) rfl (Nat.le_of_ble_eq_true rfl) (List.forall_mem_cons.mpr ⟨rfl, (List.forall_mem_cons.mpr ⟨rfl, (List.forall_mem_cons.mpr ⟨rfl, (List.forall_mem_cons.mpr ⟨rfl, (fun _ h => nomatch h)⟩)⟩)⟩)⟩) (fun K => ?_)
  refine g_aload_n (pc := 0) dX5_open_0 rfl ?_
  refine fg_X5_open_105 (pc := 1) (by rfl) dX5_open_1 ?_
  refine g_top (b := 1) (by decide +kernel) ?_
  refine g_if_ne (pc := 4) 42 dX5_open_4 (by decide) (by decide) (fun _ => ?_) (fun h => absurd h (by decide))
  refine g_iconst (pc := 42) (v := 4294967295) dX5_open_42 (by decide +kernel) ?_
  exact g_iret (pc := 43) dX5_open_43 ⟨mg_narI _, Or.inl rfl⟩ ⟨rfl, rfl⟩
/-- X0_has(r0.0, a[2147483648,4294967295]) at qms6 -/
theorem qa14 (l : Launch) {D : va_G} {E : mg_E} {B : Nat} (a : Nat) (h_a : 2147483648 ≤ a) (k_a : a ≤ 4294967295) : mg_C l (D, E, true, B) mX0_has [rv (D, E, true, B) 0 0, iv a] qms6 (fun v g' => v = some 0 ∧ g' = qms6) := by
  refine mg_C.of (by decide) rfl (Nat.le_of_ble_eq_true rfl) (List.forall_mem_cons.mpr ⟨rfl, (List.forall_mem_cons.mpr ⟨rfl, (fun _ h => nomatch h)⟩)⟩) (fun K => ?_)
  refine g_iload_n (pc := 0) dX0_has_0 rfl ?_
  refine g_sif_lt (pc := 1) 16 dX0_has_1 (by decide) (by omega) (fun _ => ?_) (fun h => absurd (by have q := mg_sgn h_a (by omega : a < 4294967296); omega) h)
  refine g_iconst (pc := 16) (v := 0) dX0_has_16 (by decide +kernel) ?_
  exact g_iret (pc := 17) dX0_has_17 ⟨mg_narZ (by decide), Or.inr rfl⟩ ⟨rfl, rfl⟩
/-- X4_isStation(r4.0, a[2147483648,4294967295]) at qms6 -/
theorem qa15 (l : Launch) {D : va_G} {E : mg_E} {B : Nat} (a : Nat) (h_a : 2147483648 ≤ a) (k_a : a ≤ 4294967295) : mg_C l (D, E, true, B) mX4_isStation [rv (D, E, true, B) 4 0, iv a] qms6 (fun v g' => v = some 0 ∧ g' = qms6) := by
  refine mg_C.of (by decide) rfl (Nat.le_of_ble_eq_true rfl) (List.forall_mem_cons.mpr ⟨rfl, (List.forall_mem_cons.mpr ⟨rfl, (fun _ h => nomatch h)⟩)⟩) (fun K => ?_)
  refine g_aload_n (pc := 0) dX4_isStation_0 rfl ?_
  refine fg_X4_isStation_55 (pc := 1) dX4_isStation_1 ?_
  refine g_top (b := 1) (by decide +kernel) ?_
  refine g_if_eq (pc := 4) 22 dX4_isStation_4 (by decide) (by decide) (fun h => absurd h (by decide)) (fun _ => ?_)
  refine g_aload_n (pc := 7) dX4_isStation_7 rfl ?_
  refine fg_X4_isStation_10 (pc := 8) dX4_isStation_8 ?_
  refine g_iload_n (pc := 11) dX4_isStation_11 rfl ?_
  refine g_callVi (pc := 12) (Y' := mX0_has) (As := [iv a]) (st := []) (k := 0) (i := 0) (qa14 K.2.1 a h_a k_a) gX4_isStation_X0_has rfl (show 0 < 1 by omega) rfl rfl (na := 1) rfl (by decide +kernel) (by decide) (by decide) (Nat.le_of_ble_eq_true rfl) dX4_isStation_12 (fun r1 g1 hp => ?_)
  obtain ⟨h1, rfl⟩ := hp
  cases h1
  refine g_if_eq (pc := 15) 22 dX4_isStation_15 (by decide) (by decide) (fun _ => ?_) (fun h => absurd (by decide) h)
  refine g_iconst (pc := 22) (v := 0) dX4_isStation_22 (by decide +kernel) ?_
  exact g_iret (pc := 23) dX4_isStation_23 ⟨mg_narZ (by decide), Or.inr rfl⟩ ⟨rfl, rfl⟩
/-- X4_isUp(r4.0, a[2147483648,4294967295]) at qms6 -/
theorem qa16 (l : Launch) {D : va_G} {E : mg_E} {B : Nat} (a : Nat) (h_a : 2147483648 ≤ a) (k_a : a ≤ 4294967295) : mg_C l (D, E, true, B) mX4_isUp [rv (D, E, true, B) 4 0, iv a] qms6 (fun v g' => v = some 0 ∧ g' = qms6) := by
  refine mg_C.of (by decide) rfl (Nat.le_of_ble_eq_true rfl) (List.forall_mem_cons.mpr ⟨rfl, (List.forall_mem_cons.mpr ⟨rfl, (fun _ h => nomatch h)⟩)⟩) (fun K => ?_)
  refine g_aload_n (pc := 0) dX4_isUp_0 rfl ?_
  refine g_iload_n (pc := 1) dX4_isUp_1 rfl ?_
  refine g_callVi (pc := 2) (Y' := mX4_isStation) (As := [iv a]) (st := []) (k := 4) (i := 0) (qa15 K.2.1 a h_a k_a) gX4_isUp_X4_isStation rfl (show 0 < 1 by omega) rfl rfl (na := 1) rfl (by decide +kernel) (by decide) (by decide) (Nat.le_of_ble_eq_true rfl) dX4_isUp_2 (fun r1 g1 hp => ?_)
  obtain ⟨h1, rfl⟩ := hp
  cases h1
  refine g_if_eq (pc := 5) 24 dX4_isUp_5 (by decide) (by decide) (fun _ => ?_) (fun h => absurd (by decide) h)
  refine g_iconst (pc := 24) (v := 0) dX4_isUp_24 (by decide +kernel) ?_
  exact g_iret (pc := 25) dX4_isUp_25 ⟨mg_narZ (by decide), Or.inr rfl⟩ ⟨rfl, rfl⟩
/-- X4_want(r4.0, a[2147483648,4294967295], b[0,4294967295]) at qms6 -/
theorem qa17 (l : Launch) {D : va_G} {E : mg_E} {B : Nat} (a : Nat) (h_a : 2147483648 ≤ a) (k_a : a ≤ 4294967295) (b : Nat) (h_b : 0 ≤ b) (k_b : b ≤ 4294967295) : mg_C l (D, E, true, B) mX4_want [rv (D, E, true, B) 4 0, iv a, iv b] qms6 (fun v g' => v = some 4294967295 ∧ g' = qms6) := by
  refine mg_C.of (by decide) rfl (Nat.le_of_ble_eq_true rfl) (List.forall_mem_cons.mpr ⟨rfl, (List.forall_mem_cons.mpr ⟨rfl, (List.forall_mem_cons.mpr ⟨rfl, (fun _ h => nomatch h)⟩)⟩)⟩) (fun K => ?_)
  refine g_aload_n (pc := 0) dX4_want_0 rfl ?_
  refine g_iload_n (pc := 1) dX4_want_1 rfl ?_
  refine g_callVi (pc := 2) (Y' := mX4_isUp) (As := [iv a]) (st := []) (k := 4) (i := 0) (qa16 K.2.1 a h_a k_a) gX4_want_X4_isUp rfl (show 0 < 1 by omega) rfl rfl (na := 1) rfl (by decide +kernel) (by decide) (by decide) (Nat.le_of_ble_eq_true rfl) dX4_want_2 (fun r1 g1 hp => ?_)
  obtain ⟨h1, rfl⟩ := hp
  cases h1
  refine g_if_eq (pc := 5) 18 dX4_want_5 (by decide) (by decide) (fun _ => ?_) (fun h => absurd (by decide) h)
  refine g_iconst (pc := 18) (v := 4294967295) dX4_want_18 (by decide +kernel) ?_
  exact g_iret (pc := 19) dX4_want_19 ⟨mg_narI _, Or.inl rfl⟩ ⟨rfl, rfl⟩
/-- X5_isStation(r5.0, a[2147483648,4294967295]) at qms6 -/
theorem qa18 (l : Launch) {D : va_G} {E : mg_E} {B : Nat} (a : Nat) (h_a : 2147483648 ≤ a) (k_a : a ≤ 4294967295) : mg_C l (D, E, true, B) mX5_isStation [rv (D, E, true, B) 5 0, iv a] qms6 (fun v g' => v = some 0 ∧ g' = qms6) := by
  refine mg_C.of (by decide) rfl (Nat.le_of_ble_eq_true rfl) (List.forall_mem_cons.mpr ⟨rfl, (List.forall_mem_cons.mpr ⟨rfl, (fun _ h => nomatch h)⟩)⟩) (fun K => ?_)
  refine g_iload_n (pc := 0) dX5_isStation_0 rfl ?_
  refine g_sif_lt (pc := 1) 16 dX5_isStation_1 (by decide) (by omega) (fun _ => ?_) (fun h => absurd (by have q := mg_sgn h_a (by omega : a < 4294967296); omega) h)
  refine g_iconst (pc := 16) (v := 0) dX5_isStation_16 (by decide +kernel) ?_
  exact g_iret (pc := 17) dX5_isStation_17 ⟨mg_narZ (by decide), Or.inr rfl⟩ ⟨rfl, rfl⟩
/-- X5_isUp(r5.0, a[2147483648,4294967295]) at qms6 -/
theorem qa19 (l : Launch) {D : va_G} {E : mg_E} {B : Nat} (a : Nat) (h_a : 2147483648 ≤ a) (k_a : a ≤ 4294967295) : mg_C l (D, E, true, B) mX5_isUp [rv (D, E, true, B) 5 0, iv a] qms6 (fun v g' => v = some 0 ∧ g' = qms6) := by
  refine mg_C.of (by decide) rfl (Nat.le_of_ble_eq_true rfl) (List.forall_mem_cons.mpr ⟨rfl, (List.forall_mem_cons.mpr ⟨rfl, (fun _ h => nomatch h)⟩)⟩) (fun K => ?_)
  refine g_aload_n (pc := 0) dX5_isUp_0 rfl ?_
  refine fg_X5_isUp_105 (pc := 1) (by rfl) dX5_isUp_1 ?_
  refine g_top (b := 1) (by decide +kernel) ?_
  refine g_if_eq (pc := 4) 28 dX5_isUp_4 (by decide) (by decide) (fun h => absurd h (by decide)) (fun _ => ?_)
  refine g_aload_n (pc := 7) dX5_isUp_7 rfl ?_
  refine g_iload_n (pc := 8) dX5_isUp_8 rfl ?_
  refine g_callVi (pc := 9) (Y' := mX5_isStation) (As := [iv a]) (st := []) (k := 5) (i := 0) (qa18 K.2.1 a h_a k_a) gX5_isUp_X5_isStation rfl (show 0 < 1 by omega) rfl rfl (na := 1) rfl (by decide +kernel) (by decide) (by decide) (Nat.le_of_ble_eq_true rfl) dX5_isUp_9 (fun r1 g1 hp => ?_)
  obtain ⟨h1, rfl⟩ := hp
  cases h1
  refine g_if_eq (pc := 12) 28 dX5_isUp_12 (by decide) (by decide) (fun _ => ?_) (fun h => absurd (by decide) h)
  refine g_iconst (pc := 28) (v := 0) dX5_isUp_28 (by decide +kernel) ?_
  exact g_iret (pc := 29) dX5_isUp_29 ⟨mg_narZ (by decide), Or.inr rfl⟩ ⟨rfl, rfl⟩
/-- X5_want(r5.0, a[2147483648,4294967295], b[0,4294967295]) at qms6 -/
theorem qa20 (l : Launch) {D : va_G} {E : mg_E} {B : Nat} (a : Nat) (h_a : 2147483648 ≤ a) (k_a : a ≤ 4294967295) (b : Nat) (h_b : 0 ≤ b) (k_b : b ≤ 4294967295) : mg_C l (D, E, true, B) mX5_want [rv (D, E, true, B) 5 0, iv a, iv b] qms6 (fun v g' => v = some 4294967295 ∧ g' = qms6) := by
  refine mg_C.of (by decide) rfl (Nat.le_of_ble_eq_true rfl) (List.forall_mem_cons.mpr ⟨rfl, (List.forall_mem_cons.mpr ⟨rfl, (List.forall_mem_cons.mpr ⟨rfl, (fun _ h => nomatch h)⟩)⟩)⟩) (fun K => ?_)
  refine g_aload_n (pc := 0) dX5_want_0 rfl ?_
  refine g_iload_n (pc := 1) dX5_want_1 rfl ?_
  refine g_callVi (pc := 2) (Y' := mX5_isUp) (As := [iv a]) (st := []) (k := 5) (i := 0) (qa19 K.2.1 a h_a k_a) gX5_want_X5_isUp rfl (show 0 < 1 by omega) rfl rfl (na := 1) rfl (by decide +kernel) (by decide) (by decide) (Nat.le_of_ble_eq_true rfl) dX5_want_2 (fun r1 g1 hp => ?_)
  obtain ⟨h1, rfl⟩ := hp
  cases h1
  refine g_if_eq (pc := 5) 36 dX5_want_5 (by decide) (by decide) (fun _ => ?_) (fun h => absurd (by decide) h)
  refine g_iconst (pc := 36) (v := 4294967295) dX5_want_36 (by decide +kernel) ?_
  exact g_iret (pc := 37) dX5_want_37 ⟨mg_narI _, Or.inl rfl⟩ ⟨rfl, rfl⟩
/-- X0_has(r0.0, a[2,2147483647]) at qms6 -/
theorem qa21 (l : Launch) {D : va_G} {E : mg_E} {B : Nat} (a : Nat) (h_a : 2 ≤ a) (k_a : a ≤ 2147483647) : mg_C l (D, E, true, B) mX0_has [rv (D, E, true, B) 0 0, iv a] qms6 (fun v g' => v = some 0 ∧ g' = qms6) := by
  refine mg_C.of (by decide) rfl (Nat.le_of_ble_eq_true rfl) (List.forall_mem_cons.mpr ⟨rfl, (List.forall_mem_cons.mpr ⟨rfl, (fun _ h => nomatch h)⟩)⟩) (fun K => ?_)
  refine g_iload_n (pc := 0) dX0_has_0 rfl ?_
  refine g_sif_lt (pc := 1) 16 dX0_has_1 (by decide) (by omega) (fun h => absurd h (by have q := mg_sgs (a := a) (by omega); omega)) (fun _ => ?_)
  refine g_iload_n (pc := 4) dX0_has_4 rfl ?_
  refine g_aload_n (pc := 5) dX0_has_5 rfl ?_
  refine fg_X0_has_21 (pc := 6) dX0_has_6 ?_
  refine g_top (b := 2) (by decide +kernel) ?_
  refine g_icmp_ge (pc := 9) 16 dX0_has_9 (by decide) (by omega) (by decide) (fun _ => ?_) (fun h => absurd (by omega) h)
  refine g_iconst (pc := 16) (v := 0) dX0_has_16 (by decide +kernel) ?_
  exact g_iret (pc := 17) dX0_has_17 ⟨mg_narZ (by decide), Or.inr rfl⟩ ⟨rfl, rfl⟩
/-- X4_isStation(r4.0, a[2,2147483647]) at qms6 -/
theorem qa22 (l : Launch) {D : va_G} {E : mg_E} {B : Nat} (a : Nat) (h_a : 2 ≤ a) (k_a : a ≤ 2147483647) : mg_C l (D, E, true, B) mX4_isStation [rv (D, E, true, B) 4 0, iv a] qms6 (fun v g' => v = some 0 ∧ g' = qms6) := by
  refine mg_C.of (by decide) rfl (Nat.le_of_ble_eq_true rfl) (List.forall_mem_cons.mpr ⟨rfl, (List.forall_mem_cons.mpr ⟨rfl, (fun _ h => nomatch h)⟩)⟩) (fun K => ?_)
  refine g_aload_n (pc := 0) dX4_isStation_0 rfl ?_
  refine fg_X4_isStation_55 (pc := 1) dX4_isStation_1 ?_
  refine g_top (b := 1) (by decide +kernel) ?_
  refine g_if_eq (pc := 4) 22 dX4_isStation_4 (by decide) (by decide) (fun h => absurd h (by decide)) (fun _ => ?_)
  refine g_aload_n (pc := 7) dX4_isStation_7 rfl ?_
  refine fg_X4_isStation_10 (pc := 8) dX4_isStation_8 ?_
  refine g_iload_n (pc := 11) dX4_isStation_11 rfl ?_
  refine g_callVi (pc := 12) (Y' := mX0_has) (As := [iv a]) (st := []) (k := 0) (i := 0) (qa21 K.2.1 a h_a k_a) gX4_isStation_X0_has rfl (show 0 < 1 by omega) rfl rfl (na := 1) rfl (by decide +kernel) (by decide) (by decide) (Nat.le_of_ble_eq_true rfl) dX4_isStation_12 (fun r1 g1 hp => ?_)
  obtain ⟨h1, rfl⟩ := hp
  cases h1
  refine g_if_eq (pc := 15) 22 dX4_isStation_15 (by decide) (by decide) (fun _ => ?_) (fun h => absurd (by decide) h)
  refine g_iconst (pc := 22) (v := 0) dX4_isStation_22 (by decide +kernel) ?_
  exact g_iret (pc := 23) dX4_isStation_23 ⟨mg_narZ (by decide), Or.inr rfl⟩ ⟨rfl, rfl⟩
/-- X4_isUp(r4.0, a[2,2147483647]) at qms6 -/
theorem qa23 (l : Launch) {D : va_G} {E : mg_E} {B : Nat} (a : Nat) (h_a : 2 ≤ a) (k_a : a ≤ 2147483647) : mg_C l (D, E, true, B) mX4_isUp [rv (D, E, true, B) 4 0, iv a] qms6 (fun v g' => v = some 0 ∧ g' = qms6) := by
  refine mg_C.of (by decide) rfl (Nat.le_of_ble_eq_true rfl) (List.forall_mem_cons.mpr ⟨rfl, (List.forall_mem_cons.mpr ⟨rfl, (fun _ h => nomatch h)⟩)⟩) (fun K => ?_)
  refine g_aload_n (pc := 0) dX4_isUp_0 rfl ?_
  refine g_iload_n (pc := 1) dX4_isUp_1 rfl ?_
  refine g_callVi (pc := 2) (Y' := mX4_isStation) (As := [iv a]) (st := []) (k := 4) (i := 0) (qa22 K.2.1 a h_a k_a) gX4_isUp_X4_isStation rfl (show 0 < 1 by omega) rfl rfl (na := 1) rfl (by decide +kernel) (by decide) (by decide) (Nat.le_of_ble_eq_true rfl) dX4_isUp_2 (fun r1 g1 hp => ?_)
  obtain ⟨h1, rfl⟩ := hp
  cases h1
  refine g_if_eq (pc := 5) 24 dX4_isUp_5 (by decide) (by decide) (fun _ => ?_) (fun h => absurd (by decide) h)
  refine g_iconst (pc := 24) (v := 0) dX4_isUp_24 (by decide +kernel) ?_
  exact g_iret (pc := 25) dX4_isUp_25 ⟨mg_narZ (by decide), Or.inr rfl⟩ ⟨rfl, rfl⟩
/-- X4_want(r4.0, a[2,2147483647], b[0,4294967295]) at qms6 -/
theorem qa24 (l : Launch) {D : va_G} {E : mg_E} {B : Nat} (a : Nat) (h_a : 2 ≤ a) (k_a : a ≤ 2147483647) (b : Nat) (h_b : 0 ≤ b) (k_b : b ≤ 4294967295) : mg_C l (D, E, true, B) mX4_want [rv (D, E, true, B) 4 0, iv a, iv b] qms6 (fun v g' => v = some 4294967295 ∧ g' = qms6) := by
  refine mg_C.of (by decide) rfl (Nat.le_of_ble_eq_true rfl) (List.forall_mem_cons.mpr ⟨rfl, (List.forall_mem_cons.mpr ⟨rfl, (List.forall_mem_cons.mpr ⟨rfl, (fun _ h => nomatch h)⟩)⟩)⟩) (fun K => ?_)
  refine g_aload_n (pc := 0) dX4_want_0 rfl ?_
  refine g_iload_n (pc := 1) dX4_want_1 rfl ?_
  refine g_callVi (pc := 2) (Y' := mX4_isUp) (As := [iv a]) (st := []) (k := 4) (i := 0) (qa23 K.2.1 a h_a k_a) gX4_want_X4_isUp rfl (show 0 < 1 by omega) rfl rfl (na := 1) rfl (by decide +kernel) (by decide) (by decide) (Nat.le_of_ble_eq_true rfl) dX4_want_2 (fun r1 g1 hp => ?_)
  obtain ⟨h1, rfl⟩ := hp
  cases h1
  refine g_if_eq (pc := 5) 18 dX4_want_5 (by decide) (by decide) (fun _ => ?_) (fun h => absurd (by decide) h)
  refine g_iconst (pc := 18) (v := 4294967295) dX4_want_18 (by decide +kernel) ?_
  exact g_iret (pc := 19) dX4_want_19 ⟨mg_narI _, Or.inl rfl⟩ ⟨rfl, rfl⟩
/-- X5_isStation(r5.0, a[2,2147483647]) at qms6 -/
theorem qa25 (l : Launch) {D : va_G} {E : mg_E} {B : Nat} (a : Nat) (h_a : 2 ≤ a) (k_a : a ≤ 2147483647) : mg_C l (D, E, true, B) mX5_isStation [rv (D, E, true, B) 5 0, iv a] qms6 (fun v g' => v = some 0 ∧ g' = qms6) := by
  refine mg_C.of (by decide) rfl (Nat.le_of_ble_eq_true rfl) (List.forall_mem_cons.mpr ⟨rfl, (List.forall_mem_cons.mpr ⟨rfl, (fun _ h => nomatch h)⟩)⟩) (fun K => ?_)
  refine g_iload_n (pc := 0) dX5_isStation_0 rfl ?_
  refine g_sif_lt (pc := 1) 16 dX5_isStation_1 (by decide) (by omega) (fun h => absurd h (by have q := mg_sgs (a := a) (by omega); omega)) (fun _ => ?_)
  refine g_iload_n (pc := 4) dX5_isStation_4 rfl ?_
  refine g_aload_n (pc := 5) dX5_isStation_5 rfl ?_
  refine fg_X5_isStation_101 (pc := 6) (by rfl) dX5_isStation_6 ?_
  refine g_top (b := 2) (by decide +kernel) ?_
  refine g_icmp_ge (pc := 9) 16 dX5_isStation_9 (by decide) (by omega) (by decide) (fun _ => ?_) (fun h => absurd (by omega) h)
  refine g_iconst (pc := 16) (v := 0) dX5_isStation_16 (by decide +kernel) ?_
  exact g_iret (pc := 17) dX5_isStation_17 ⟨mg_narZ (by decide), Or.inr rfl⟩ ⟨rfl, rfl⟩
/-- X5_isUp(r5.0, a[2,2147483647]) at qms6 -/
theorem qa26 (l : Launch) {D : va_G} {E : mg_E} {B : Nat} (a : Nat) (h_a : 2 ≤ a) (k_a : a ≤ 2147483647) : mg_C l (D, E, true, B) mX5_isUp [rv (D, E, true, B) 5 0, iv a] qms6 (fun v g' => v = some 0 ∧ g' = qms6) := by
  refine mg_C.of (by decide) rfl (Nat.le_of_ble_eq_true rfl) (List.forall_mem_cons.mpr ⟨rfl, (List.forall_mem_cons.mpr ⟨rfl, (fun _ h => nomatch h)⟩)⟩) (fun K => ?_)
  refine g_aload_n (pc := 0) dX5_isUp_0 rfl ?_
  refine fg_X5_isUp_105 (pc := 1) (by rfl) dX5_isUp_1 ?_
  refine g_top (b := 1) (by decide +kernel) ?_
  refine g_if_eq (pc := 4) 28 dX5_isUp_4 (by decide) (by decide) (fun h => absurd h (by decide)) (fun _ => ?_)
  refine g_aload_n (pc := 7) dX5_isUp_7 rfl ?_
  refine g_iload_n (pc := 8) dX5_isUp_8 rfl ?_
  refine g_callVi (pc := 9) (Y' := mX5_isStation) (As := [iv a]) (st := []) (k := 5) (i := 0) (qa25 K.2.1 a h_a k_a) gX5_isUp_X5_isStation rfl (show 0 < 1 by omega) rfl rfl (na := 1) rfl (by decide +kernel) (by decide) (by decide) (Nat.le_of_ble_eq_true rfl) dX5_isUp_9 (fun r1 g1 hp => ?_)
  obtain ⟨h1, rfl⟩ := hp
  cases h1
  refine g_if_eq (pc := 12) 28 dX5_isUp_12 (by decide) (by decide) (fun _ => ?_) (fun h => absurd (by decide) h)
  refine g_iconst (pc := 28) (v := 0) dX5_isUp_28 (by decide +kernel) ?_
  exact g_iret (pc := 29) dX5_isUp_29 ⟨mg_narZ (by decide), Or.inr rfl⟩ ⟨rfl, rfl⟩
/-- X5_want(r5.0, a[2,2147483647], b[0,4294967295]) at qms6 -/
theorem qa27 (l : Launch) {D : va_G} {E : mg_E} {B : Nat} (a : Nat) (h_a : 2 ≤ a) (k_a : a ≤ 2147483647) (b : Nat) (h_b : 0 ≤ b) (k_b : b ≤ 4294967295) : mg_C l (D, E, true, B) mX5_want [rv (D, E, true, B) 5 0, iv a, iv b] qms6 (fun v g' => v = some 4294967295 ∧ g' = qms6) := by
  refine mg_C.of (by decide) rfl (Nat.le_of_ble_eq_true rfl) (List.forall_mem_cons.mpr ⟨rfl, (List.forall_mem_cons.mpr ⟨rfl, (List.forall_mem_cons.mpr ⟨rfl, (fun _ h => nomatch h)⟩)⟩)⟩) (fun K => ?_)
  refine g_aload_n (pc := 0) dX5_want_0 rfl ?_
  refine g_iload_n (pc := 1) dX5_want_1 rfl ?_
  refine g_callVi (pc := 2) (Y' := mX5_isUp) (As := [iv a]) (st := []) (k := 5) (i := 0) (qa26 K.2.1 a h_a k_a) gX5_want_X5_isUp rfl (show 0 < 1 by omega) rfl rfl (na := 1) rfl (by decide +kernel) (by decide) (by decide) (Nat.le_of_ble_eq_true rfl) dX5_want_2 (fun r1 g1 hp => ?_)
  obtain ⟨h1, rfl⟩ := hp
  cases h1
  refine g_if_eq (pc := 5) 36 dX5_want_5 (by decide) (by decide) (fun _ => ?_) (fun h => absurd (by decide) h)
  refine g_iconst (pc := 36) (v := 4294967295) dX5_want_36 (by decide +kernel) ?_
  exact g_iret (pc := 37) dX5_want_37 ⟨mg_narI _, Or.inl rfl⟩ ⟨rfl, rfl⟩
/-- X0_has(r0.0, 0) at qms6 -/
theorem qa28 (l : Launch) {D : va_G} {E : mg_E} {B : Nat} : mg_C l (D, E, true, B) mX0_has [rv (D, E, true, B) 0 0, iv 0] qms6 (fun v g' => v = some 1 ∧ g' = qms6) := by
  refine mg_C.of (by decide) rfl (Nat.le_of_ble_eq_true rfl) (List.forall_mem_cons.mpr ⟨rfl, (List.forall_mem_cons.mpr ⟨rfl, (fun _ h => nomatch h)⟩)⟩) (fun K => ?_)
  refine g_iload_n (pc := 0) dX0_has_0 rfl ?_
  refine g_sif_lt (pc := 1) 16 dX0_has_1 (by decide) (by decide) (fun h => absurd h (by decide)) (fun _ => ?_)
  refine g_iload_n (pc := 4) dX0_has_4 rfl ?_
  refine g_aload_n (pc := 5) dX0_has_5 rfl ?_
  refine fg_X0_has_21 (pc := 6) dX0_has_6 ?_
  refine g_top (b := 2) (by decide +kernel) ?_
  refine g_icmp_ge (pc := 9) 16 dX0_has_9 (by decide) (by decide) (by decide) (fun h => absurd h (by decide)) (fun _ => ?_)
  refine g_iconst (pc := 12) (v := 1) dX0_has_12 (by decide +kernel) ?_
  refine g_goto (pc := 13) 17 dX0_has_13 (by decide) ?_
  exact g_iret (pc := 17) dX0_has_17 ⟨mg_narZ (by decide), Or.inr rfl⟩ ⟨rfl, rfl⟩
/-- X4_isStation(r4.0, 0) at qms6 -/
theorem qa29 (l : Launch) {D : va_G} {E : mg_E} {B : Nat} : mg_C l (D, E, true, B) mX4_isStation [rv (D, E, true, B) 4 0, iv 0] qms6 (fun v g' => v = some 1 ∧ g' = qms6) := by
  refine mg_C.of (by decide) rfl (Nat.le_of_ble_eq_true rfl) (List.forall_mem_cons.mpr ⟨rfl, (List.forall_mem_cons.mpr ⟨rfl, (fun _ h => nomatch h)⟩)⟩) (fun K => ?_)
  refine g_aload_n (pc := 0) dX4_isStation_0 rfl ?_
  refine fg_X4_isStation_55 (pc := 1) dX4_isStation_1 ?_
  refine g_top (b := 1) (by decide +kernel) ?_
  refine g_if_eq (pc := 4) 22 dX4_isStation_4 (by decide) (by decide) (fun h => absurd h (by decide)) (fun _ => ?_)
  refine g_aload_n (pc := 7) dX4_isStation_7 rfl ?_
  refine fg_X4_isStation_10 (pc := 8) dX4_isStation_8 ?_
  refine g_iload_n (pc := 11) dX4_isStation_11 rfl ?_
  refine g_callVi (pc := 12) (Y' := mX0_has) (As := [iv 0]) (st := []) (k := 0) (i := 0) (qa28 K.2.1) gX4_isStation_X0_has rfl (show 0 < 1 by omega) rfl rfl (na := 1) rfl (by decide +kernel) (by decide) (by decide) (Nat.le_of_ble_eq_true rfl) dX4_isStation_12 (fun r1 g1 hp => ?_)
  obtain ⟨h1, rfl⟩ := hp
  cases h1
  refine g_if_eq (pc := 15) 22 dX4_isStation_15 (by decide) (by decide) (fun h => absurd h (by decide)) (fun _ => ?_)
  refine g_iconst (pc := 18) (v := 1) dX4_isStation_18 (by decide +kernel) ?_
  refine g_goto (pc := 19) 23 dX4_isStation_19 (by decide) ?_
  exact g_iret (pc := 23) dX4_isStation_23 ⟨mg_narZ (by decide), Or.inr rfl⟩ ⟨rfl, rfl⟩
/-- X4_isUp(r4.0, 0) at qms6 -/
theorem qa30 (l : Launch) {D : va_G} {E : mg_E} {B : Nat} : mg_C l (D, E, true, B) mX4_isUp [rv (D, E, true, B) 4 0, iv 0] qms6 (fun v g' => v = some 1 ∧ g' = qms6) := by
  refine mg_C.of (by decide) rfl (Nat.le_of_ble_eq_true rfl) (List.forall_mem_cons.mpr ⟨rfl, (List.forall_mem_cons.mpr ⟨rfl, (fun _ h => nomatch h)⟩)⟩) (fun K => ?_)
  refine g_aload_n (pc := 0) dX4_isUp_0 rfl ?_
  refine g_iload_n (pc := 1) dX4_isUp_1 rfl ?_
  refine g_callVi (pc := 2) (Y' := mX4_isStation) (As := [iv 0]) (st := []) (k := 4) (i := 0) (qa29 K.2.1) gX4_isUp_X4_isStation rfl (show 0 < 1 by omega) rfl rfl (na := 1) rfl (by decide +kernel) (by decide) (by decide) (Nat.le_of_ble_eq_true rfl) dX4_isUp_2 (fun r1 g1 hp => ?_)
  obtain ⟨h1, rfl⟩ := hp
  cases h1
  refine g_if_eq (pc := 5) 24 dX4_isUp_5 (by decide) (by decide) (fun h => absurd h (by decide)) (fun _ => ?_)
  refine g_aload_n (pc := 8) dX4_isUp_8 rfl ?_
  refine fg_X4_isUp_18 (pc := 9) dX4_isUp_9 ?_
  refine g_iload_n (pc := 12) dX4_isUp_12 rfl ?_
  refine g_aastation (pc := 13) (a := 0) (by decide) dX4_isUp_13 ?_
  refine fg_X4_isUp_211 (pc := 14) (show 0 < 24 by omega) dX4_isUp_14 ?_
  refine g_top (b := 0) (by decide +kernel) ?_
  refine g_if_ne (pc := 17) 24 dX4_isUp_17 (by decide) (by decide) (fun h => absurd (by decide) h) (fun _ => ?_)
  refine g_iconst (pc := 20) (v := 1) dX4_isUp_20 (by decide +kernel) ?_
  refine g_goto (pc := 21) 25 dX4_isUp_21 (by decide) ?_
  exact g_iret (pc := 25) dX4_isUp_25 ⟨mg_narZ (by decide), Or.inr rfl⟩ ⟨rfl, rfl⟩
/-- X4_want(r4.0, 0, b[2147483648,4294967295]) at qms6 -/
theorem qa31 (l : Launch) {D : va_G} {E : mg_E} {B : Nat} (b : Nat) (h_b : 2147483648 ≤ b) (k_b : b ≤ 4294967295) : mg_C l (D, E, true, B) mX4_want [rv (D, E, true, B) 4 0, iv 0, iv b] qms6 (fun v g' => v = some 4294967295 ∧ g' = qms6) := by
  refine mg_C.of (by decide) rfl (Nat.le_of_ble_eq_true rfl) (List.forall_mem_cons.mpr ⟨rfl, (List.forall_mem_cons.mpr ⟨rfl, (List.forall_mem_cons.mpr ⟨rfl, (fun _ h => nomatch h)⟩)⟩)⟩) (fun K => ?_)
  refine g_aload_n (pc := 0) dX4_want_0 rfl ?_
  refine g_iload_n (pc := 1) dX4_want_1 rfl ?_
  refine g_callVi (pc := 2) (Y' := mX4_isUp) (As := [iv 0]) (st := []) (k := 4) (i := 0) (qa30 K.2.1) gX4_want_X4_isUp rfl (show 0 < 1 by omega) rfl rfl (na := 1) rfl (by decide +kernel) (by decide) (by decide) (Nat.le_of_ble_eq_true rfl) dX4_want_2 (fun r1 g1 hp => ?_)
  obtain ⟨h1, rfl⟩ := hp
  cases h1
  refine g_if_eq (pc := 5) 18 dX4_want_5 (by decide) (by decide) (fun h => absurd h (by decide)) (fun _ => ?_)
  refine g_iload_n (pc := 8) dX4_want_8 rfl ?_
  refine g_sif_lt (pc := 9) 18 dX4_want_9 (by decide) (by omega) (fun _ => ?_) (fun h => absurd (by have q := mg_sgn h_b (by omega : b < 4294967296); omega) h)
  refine g_iconst (pc := 18) (v := 4294967295) dX4_want_18 (by decide +kernel) ?_
  exact g_iret (pc := 19) dX4_want_19 ⟨mg_narI _, Or.inl rfl⟩ ⟨rfl, rfl⟩
/-- X5_isStation(r5.0, 0) at qms6 -/
theorem qa32 (l : Launch) {D : va_G} {E : mg_E} {B : Nat} : mg_C l (D, E, true, B) mX5_isStation [rv (D, E, true, B) 5 0, iv 0] qms6 (fun v g' => v = some 1 ∧ g' = qms6) := by
  refine mg_C.of (by decide) rfl (Nat.le_of_ble_eq_true rfl) (List.forall_mem_cons.mpr ⟨rfl, (List.forall_mem_cons.mpr ⟨rfl, (fun _ h => nomatch h)⟩)⟩) (fun K => ?_)
  refine g_iload_n (pc := 0) dX5_isStation_0 rfl ?_
  refine g_sif_lt (pc := 1) 16 dX5_isStation_1 (by decide) (by decide) (fun h => absurd h (by decide)) (fun _ => ?_)
  refine g_iload_n (pc := 4) dX5_isStation_4 rfl ?_
  refine g_aload_n (pc := 5) dX5_isStation_5 rfl ?_
  refine fg_X5_isStation_101 (pc := 6) (by rfl) dX5_isStation_6 ?_
  refine g_top (b := 2) (by decide +kernel) ?_
  refine g_icmp_ge (pc := 9) 16 dX5_isStation_9 (by decide) (by decide) (by decide) (fun h => absurd h (by decide)) (fun _ => ?_)
  refine g_iconst (pc := 12) (v := 1) dX5_isStation_12 (by decide +kernel) ?_
  refine g_goto (pc := 13) 17 dX5_isStation_13 (by decide) ?_
  exact g_iret (pc := 17) dX5_isStation_17 ⟨mg_narZ (by decide), Or.inr rfl⟩ ⟨rfl, rfl⟩
/-- X5_isUp(r5.0, 0) at qms6 -/
theorem qa33 (l : Launch) {D : va_G} {E : mg_E} {B : Nat} : mg_C l (D, E, true, B) mX5_isUp [rv (D, E, true, B) 5 0, iv 0] qms6 (fun v g' => v = some 1 ∧ g' = qms6) := by
  refine mg_C.of (by decide) rfl (Nat.le_of_ble_eq_true rfl) (List.forall_mem_cons.mpr ⟨rfl, (List.forall_mem_cons.mpr ⟨rfl, (fun _ h => nomatch h)⟩)⟩) (fun K => ?_)
  refine g_aload_n (pc := 0) dX5_isUp_0 rfl ?_
  refine fg_X5_isUp_105 (pc := 1) (by rfl) dX5_isUp_1 ?_
  refine g_top (b := 1) (by decide +kernel) ?_
  refine g_if_eq (pc := 4) 28 dX5_isUp_4 (by decide) (by decide) (fun h => absurd h (by decide)) (fun _ => ?_)
  refine g_aload_n (pc := 7) dX5_isUp_7 rfl ?_
  refine g_iload_n (pc := 8) dX5_isUp_8 rfl ?_
  refine g_callVi (pc := 9) (Y' := mX5_isStation) (As := [iv 0]) (st := []) (k := 5) (i := 0) (qa32 K.2.1) gX5_isUp_X5_isStation rfl (show 0 < 1 by omega) rfl rfl (na := 1) rfl (by decide +kernel) (by decide) (by decide) (Nat.le_of_ble_eq_true rfl) dX5_isUp_9 (fun r1 g1 hp => ?_)
  obtain ⟨h1, rfl⟩ := hp
  cases h1
  refine g_if_eq (pc := 12) 28 dX5_isUp_12 (by decide) (by decide) (fun h => absurd h (by decide)) (fun _ => ?_)
  refine g_aload_n (pc := 15) dX5_isUp_15 rfl ?_
  refine fg_X5_isUp_23 (pc := 16) (by rfl) dX5_isUp_16 ?_
  refine g_iload_n (pc := 19) dX5_isUp_19 rfl ?_
  refine g_baload (pc := 20) (k := 39) (i := 0) (n := 24) (show 0 < 1 by omega) rfl (by decide) (by decide) dX5_isUp_20 ?_
  refine g_top (b := 0) (by decide +kernel) ?_
  refine g_if_ne (pc := 21) 28 dX5_isUp_21 (by decide) (by decide) (fun h => absurd (by decide) h) (fun _ => ?_)
  refine g_iconst (pc := 24) (v := 1) dX5_isUp_24 (by decide +kernel) ?_
  refine g_goto (pc := 25) 29 dX5_isUp_25 (by decide) ?_
  exact g_iret (pc := 29) dX5_isUp_29 ⟨mg_narZ (by decide), Or.inr rfl⟩ ⟨rfl, rfl⟩
/-- X5_want(r5.0, 0, b[2147483648,4294967295]) at qms6 -/
theorem qa34 (l : Launch) {D : va_G} {E : mg_E} {B : Nat} (b : Nat) (h_b : 2147483648 ≤ b) (k_b : b ≤ 4294967295) : mg_C l (D, E, true, B) mX5_want [rv (D, E, true, B) 5 0, iv 0, iv b] qms6 (fun v g' => v = some 4294967295 ∧ g' = qms6) := by
  refine mg_C.of (by decide) rfl (Nat.le_of_ble_eq_true rfl) (List.forall_mem_cons.mpr ⟨rfl, (List.forall_mem_cons.mpr ⟨rfl, (List.forall_mem_cons.mpr ⟨rfl, (fun _ h => nomatch h)⟩)⟩)⟩) (fun K => ?_)
  refine g_aload_n (pc := 0) dX5_want_0 rfl ?_
  refine g_iload_n (pc := 1) dX5_want_1 rfl ?_
  refine g_callVi (pc := 2) (Y' := mX5_isUp) (As := [iv 0]) (st := []) (k := 5) (i := 0) (qa33 K.2.1) gX5_want_X5_isUp rfl (show 0 < 1 by omega) rfl rfl (na := 1) rfl (by decide +kernel) (by decide) (by decide) (Nat.le_of_ble_eq_true rfl) dX5_want_2 (fun r1 g1 hp => ?_)
  obtain ⟨h1, rfl⟩ := hp
  cases h1
  refine g_if_eq (pc := 5) 36 dX5_want_5 (by decide) (by decide) (fun h => absurd h (by decide)) (fun _ => ?_)
  refine g_iload_n (pc := 8) dX5_want_8 rfl ?_
  refine g_sif_lt (pc := 9) 36 dX5_want_9 (by decide) (by omega) (fun _ => ?_) (fun h => absurd (by have q := mg_sgn h_b (by omega : b < 4294967296); omega) h)
  refine g_iconst (pc := 36) (v := 4294967295) dX5_want_36 (by decide +kernel) ?_
  exact g_iret (pc := 37) dX5_want_37 ⟨mg_narI _, Or.inl rfl⟩ ⟨rfl, rfl⟩
/-- X2_placeOf(r2.0, 0) at qms6 -/
theorem qa35 (l : Launch) {D : va_G} {E : mg_E} {B : Nat} : mg_C l (D, E, true, B) mX2_placeOf [rv (D, E, true, B) 2 0, iv 0] qms6 (fun v g' => v = some 4294967294 ∧ g' = qms6) := by
  refine mg_C.of (by decide) rfl (Nat.le_of_ble_eq_true rfl) (List.forall_mem_cons.mpr ⟨rfl, (List.forall_mem_cons.mpr ⟨rfl, (fun _ h => nomatch h)⟩)⟩) (fun K => ?_)
  refine g_iconst (pc := 0) (v := 0) dX2_placeOf_0 (by decide +kernel) ?_
  refine g_istore_n (pc := 1) (ls' := [rv (D, E, true, B) 2 0, iv 0, iv 0]) dX2_placeOf_1 (Nat.le_of_ble_eq_true rfl) (Nat.le_of_ble_eq_true rfl) rfl ?_
  refine g_iload_n (pc := 2) dX2_placeOf_2 rfl ?_
  refine g_aload_n (pc := 3) dX2_placeOf_3 rfl ?_
  refine fg_X2_placeOf_18 (pc := 4) (show 0 < 24 by omega) dX2_placeOf_4 ?_
  refine g_top (b := 0) (by decide +kernel) ?_
  refine g_icmp_ge (pc := 7) 28 dX2_placeOf_7 (by decide) (by decide) (by decide) (fun _ => ?_) (fun h => absurd (by decide) h)
  refine g_bipush (pc := 28) (v := 4294967294) dX2_placeOf_28 (by decide +kernel) ?_
  exact g_iret (pc := 30) dX2_placeOf_30 ⟨mg_narI _, Or.inl rfl⟩ ⟨rfl, rfl⟩
/-- X3_wants(r3.0) at qms6 -/
theorem qa36 (l : Launch) {D : va_G} {E : mg_E} {B : Nat} : mg_C l (D, E, true, B) mX3_wants [rv (D, E, true, B) 3 0] qms6 (fun v g' => v = some 0 ∧ g' = qms6) := by
  refine mg_C.of (by decide) rfl (Nat.le_of_ble_eq_true rfl) (List.forall_mem_cons.mpr ⟨rfl, (fun _ h => nomatch h)⟩) (fun K => ?_)
  refine g_aload_n (pc := 0) dX3_wants_0 rfl ?_
  refine fg_X3_wants_12 (pc := 1) (show 0 < 24 by omega) dX3_wants_1 ?_
  refine g_aload_n (pc := 4) dX3_wants_4 rfl ?_
  refine fg_X3_wants_18 (pc := 5) (show 0 < 24 by omega) dX3_wants_5 ?_
  refine g_callVi (pc := 8) (Y' := mX2_placeOf) (As := [iv 0]) (st := []) (k := 2) (i := 0) (qa35 K.2.1) gX3_wants_X2_placeOf rfl (show 0 < 24 by omega) rfl rfl (na := 1) rfl (by decide +kernel) (by decide) (by decide) (Nat.le_of_ble_eq_true rfl) dX3_wants_8 (fun r1 g1 hp => ?_)
  obtain ⟨h1, rfl⟩ := hp
  cases h1
  refine g_bipush (pc := 11) (v := 4294967294) dX3_wants_11 (by decide +kernel) ?_
  refine g_icmp_eq (pc := 13) 20 dX3_wants_13 (by decide) (by decide) (by decide) (fun _ => ?_) (fun h => absurd (by decide) h)
  refine g_iconst (pc := 20) (v := 0) dX3_wants_20 (by decide +kernel) ?_
  exact g_iret (pc := 21) dX3_wants_21 ⟨mg_narZ (by decide), Or.inr rfl⟩ ⟨rfl, rfl⟩
def qas7 (b : Nat) : mg_F := mg_up (mg_up (mg_up (qms6) 16 0 0 0) 17 0 0 b) 2 0 2 1
set_option maxRecDepth 100000 in
/-- X2_add(r2.0, 0, b[0,100]) at qms6 -/
theorem qa37 (l : Launch) {D : va_G} {E : mg_E} {B : Nat} (b : Nat) (h_b : 0 ≤ b) (k_b : b ≤ 100) : mg_C l (D, E, true, B) mX2_add [rv (D, E, true, B) 2 0, iv 0, iv b] qms6 (fun v g' => v = none ∧ g' = (qas7 b)) := by
  refine mg_C.of (by decide) rfl (Nat.le_of_ble_eq_true rfl) (List.forall_mem_cons.mpr ⟨rfl, (List.forall_mem_cons.mpr ⟨rfl, (List.forall_mem_cons.mpr ⟨rfl, (fun _ h => nomatch h)⟩)⟩)⟩) (fun K => ?_)
  refine g_aload_n (pc := 0) dX2_add_0 rfl ?_
  refine fg_X2_add_18 (pc := 1) (show 0 < 24 by omega) dX2_add_1 ?_
  refine g_top (b := 0) (by decide +kernel) ?_
  refine g_bipush (pc := 4) (v := 24) dX2_add_4 (by decide +kernel) ?_
  refine g_icmp_ne (pc := 6) 10 dX2_add_6 (by decide) (by decide) (by decide) (fun _ => ?_) (fun h => absurd h (by decide))
  refine g_aload_n (pc := 10) dX2_add_10 rfl ?_
  refine fg_X2_add_9 (pc := 11) (show 0 < 24 by omega) dX2_add_11 ?_
  refine g_aload_n (pc := 14) dX2_add_14 rfl ?_
  refine fg_X2_add_18 (pc := 15) (show 0 < 24 by omega) dX2_add_15 ?_
  refine g_top (b := 0) (by decide +kernel) ?_
  refine g_iload_n (pc := 18) dX2_add_18 rfl ?_
  refine g_iastore (pc := 19) (k := 16) (i := 0) (n := 24) (show 0 < 24 by omega) (fun _ => rfl) (by decide) (by decide) dX2_add_19 ?_
  refine g_aload_n (pc := 20) dX2_add_20 rfl ?_
  refine fg_X2_add_15 (pc := 21) (show 0 < 24 by omega) dX2_add_21 ?_
  refine g_aload_n (pc := 24) dX2_add_24 rfl ?_
  refine fg_X2_add_18 (pc := 25) (show 0 < 24 by omega) dX2_add_25 ?_
  refine g_top (b := 0) (by decide +kernel) ?_
  refine g_iload_n (pc := 28) dX2_add_28 rfl ?_
  refine g_iastore (pc := 29) (k := 17) (i := 0) (n := 24) (show 0 < 24 by omega) (fun _ => rfl) (by decide) (by decide) dX2_add_29 ?_
  refine g_aload_n (pc := 30) dX2_add_30 rfl ?_
  refine g_dup (pc := 31) dX2_add_31 rfl ?_
  refine fg_X2_add_18 (pc := 32) (show 0 < 24 by omega) dX2_add_32 ?_
  refine g_top (b := 0) rfl ?_
  refine g_iconst (pc := 35) (v := 1) dX2_add_35 (by decide +kernel) ?_
  refine g_iadd (pc := 36) dX2_add_36 ?_
  refine g_top (b := 1) (by decide +kernel) ?_
  refine fp_X2_add_18 (pc := 37) (show 0 < 24 by omega) dX2_add_37 ?_
  exact g_ret (pc := 40) dX2_add_40 trivial ⟨rfl, rfl⟩
def qas8 (b : Nat) : mg_F := mg_up (mg_up ((qas7 b)) 3 0 9 1) 3 0 10 0
set_option maxRecDepth 100000 in
/-- X4_want(r4.0, 0, b[0,100]) at qms6 -/
theorem qa38 (l : Launch) {D : va_G} {E : mg_E} {B : Nat} (b : Nat) (h_b : 0 ≤ b) (k_b : b ≤ 100) : mg_C l (D, E, true, B) mX4_want [rv (D, E, true, B) 4 0, iv 0, iv b] qms6 (fun v g' => v = some 1 ∧ g' = (qas8 b)) := by
  refine mg_C.of (by decide) rfl (Nat.le_of_ble_eq_true rfl) (List.forall_mem_cons.mpr ⟨rfl, (List.forall_mem_cons.mpr ⟨rfl, (List.forall_mem_cons.mpr ⟨rfl, (fun _ h => nomatch h)⟩)⟩)⟩) (fun K => ?_)
  refine g_aload_n (pc := 0) dX4_want_0 rfl ?_
  refine g_iload_n (pc := 1) dX4_want_1 rfl ?_
  refine g_callVi (pc := 2) (Y' := mX4_isUp) (As := [iv 0]) (st := []) (k := 4) (i := 0) (qa30 K.2.1) gX4_want_X4_isUp rfl (show 0 < 1 by omega) rfl rfl (na := 1) rfl (by decide +kernel) (by decide) (by decide) (Nat.le_of_ble_eq_true rfl) dX4_want_2 (fun r1 g1 hp => ?_)
  obtain ⟨h1, rfl⟩ := hp
  cases h1
  refine g_if_eq (pc := 5) 18 dX4_want_5 (by decide) (by decide) (fun h => absurd h (by decide)) (fun _ => ?_)
  refine g_iload_n (pc := 8) dX4_want_8 rfl ?_
  refine g_sif_lt (pc := 9) 18 dX4_want_9 (by decide) (by omega) (fun h => absurd h (by have q := mg_sgs (a := b) (by omega); omega)) (fun _ => ?_)
  refine g_iload_n (pc := 12) dX4_want_12 rfl ?_
  refine g_bipush (pc := 13) (v := 100) dX4_want_13 (by decide +kernel) ?_
  refine g_icmp_le (pc := 15) 20 dX4_want_15 (by decide) (by omega) (by decide) (fun _ => ?_) (fun h => absurd (by omega) h)
  refine g_aload_n (pc := 20) dX4_want_20 rfl ?_
  refine fg_X4_want_18 (pc := 21) dX4_want_21 ?_
  refine g_iload_n (pc := 24) dX4_want_24 rfl ?_
  refine g_aastation (pc := 25) (a := 0) (by decide) dX4_want_25 ?_
  refine g_astore_n (pc := 26) (ls' := [rv (D, E, true, B) 4 0, iv 0, iv b, rv (D, E, true, B) 3 0]) dX4_want_26 (Nat.le_of_ble_eq_true rfl) (Nat.le_of_ble_eq_true rfl) rfl ?_
  refine g_aload_n (pc := 27) dX4_want_27 rfl ?_
  refine fg_X4_want_111 (pc := 28) (show 0 < 24 by omega) dX4_want_28 ?_
  refine g_top (b := 0) (by decide +kernel) ?_
  refine g_if_ne (pc := 31) 41 dX4_want_31 (by decide) (by decide) (fun h => absurd (by decide) h) (fun _ => ?_)
  refine g_aload_n (pc := 34) dX4_want_34 rfl ?_
  refine g_callVi (pc := 35) (Y' := mX3_wants) (As := []) (st := []) (k := 3) (i := 0) (qa36 K.2.1) gX4_want_X3_wants rfl (show 0 < 24 by omega) rfl rfl (na := 0) rfl (by decide +kernel) (by decide) (by decide) (Nat.le_of_ble_eq_true rfl) dX4_want_35 (fun r1 g1 hp => ?_)
  obtain ⟨h1, rfl⟩ := hp
  cases h1
  refine g_if_eq (pc := 38) 43 dX4_want_38 (by decide) (by decide) (fun _ => ?_) (fun h => absurd (by decide) h)
  refine g_aload_n (pc := 43) dX4_want_43 rfl ?_
  refine fg_X4_want_118 (pc := 44) (show 0 < 24 by omega) dX4_want_44 ?_
  refine g_iload_n (pc := 47) dX4_want_47 rfl ?_
  refine g_iload_n (pc := 48) dX4_want_48 rfl ?_
  refine g_callVv (pc := 49) (Y' := mX2_add) (As := [iv 0, iv b]) (st := []) (k := 2) (i := 0) (qa37 K.2.1 b h_b k_b) gX4_want_X2_add rfl (show 0 < 24 by omega) rfl rfl (na := 2) rfl (by decide +kernel) (by decide) (by decide) (Nat.le_of_ble_eq_true rfl) dX4_want_49 (fun g1 hp => ?_)
  obtain ⟨-, rfl⟩ := hp
  refine g_aload_n (pc := 52) dX4_want_52 rfl ?_
  refine g_iconst (pc := 53) (v := 1) dX4_want_53 (by decide +kernel) ?_
  refine fp_X4_want_127 (pc := 54) (show 0 < 24 by omega) (by decide) dX4_want_54 ?_
  refine g_aload_n (pc := 57) dX4_want_57 rfl ?_
  refine g_iconst (pc := 58) (v := 0) dX4_want_58 (by decide +kernel) ?_
  refine fp_X4_want_130 (pc := 59) (show 0 < 24 by omega) dX4_want_59 ?_
  refine g_aload_n (pc := 62) dX4_want_62 rfl ?_
  refine fg_X4_want_118 (pc := 63) (show 0 < 24 by omega) dX4_want_63 ?_
  refine fg_X4_want_133 (pc := 66) (show 0 < 24 by omega) dX4_want_66 ?_
  refine g_top (b := 1) rfl ?_
  exact g_iret (pc := 69) dX4_want_69 ⟨mg_narI _, Or.inl rfl⟩ ⟨rfl, rfl⟩
def qas9 (b : Nat) : mg_F := (qas8 b)
def qas10 (b : Nat) : mg_F := (qas9 b)
def qas11 (b : Nat) : mg_F := (qas10 b)
set_option maxRecDepth 100000 in
/-- X5_isStation(r5.0, 0) at (qas10 b) -/
theorem qa39 (l : Launch) {D : va_G} {E : mg_E} {B : Nat} (b : Nat) (h_b : 0 ≤ b) (k_b : b ≤ 100) : mg_C l (D, E, true, B) mX5_isStation [rv (D, E, true, B) 5 0, iv 0] (qas10 b) (fun v g' => v = some 1 ∧ g' = (qas11 b)) := by
  refine mg_C.of (by decide) rfl (Nat.le_of_ble_eq_true rfl) (List.forall_mem_cons.mpr ⟨rfl, (List.forall_mem_cons.mpr ⟨rfl, (fun _ h => nomatch h)⟩)⟩) (fun K => ?_)
  refine g_iload_n (pc := 0) dX5_isStation_0 rfl ?_
  refine g_sif_lt (pc := 1) 16 dX5_isStation_1 (by decide) (by decide) (fun h => absurd h (by decide)) (fun _ => ?_)
  refine g_iload_n (pc := 4) dX5_isStation_4 rfl ?_
  refine g_aload_n (pc := 5) dX5_isStation_5 rfl ?_
  refine fg_X5_isStation_101 (pc := 6) (by rfl) dX5_isStation_6 ?_
  refine g_top (b := 2) rfl ?_
  refine g_icmp_ge (pc := 9) 16 dX5_isStation_9 (by decide) (by decide) (by decide) (fun h => absurd h (by decide)) (fun _ => ?_)
  refine g_iconst (pc := 12) (v := 1) dX5_isStation_12 (by decide +kernel) ?_
  refine g_goto (pc := 13) 17 dX5_isStation_13 (by decide) ?_
  exact g_iret (pc := 17) dX5_isStation_17 ⟨mg_narZ (by decide), Or.inr rfl⟩ ⟨rfl, rfl⟩
def qas12 (b : Nat) : mg_F := (qas11 b)
set_option maxRecDepth 100000 in
/-- X5_isUp(r5.0, 0) at (qas9 b) -/
theorem qa40 (l : Launch) {D : va_G} {E : mg_E} {B : Nat} (b : Nat) (h_b : 0 ≤ b) (k_b : b ≤ 100) : mg_C l (D, E, true, B) mX5_isUp [rv (D, E, true, B) 5 0, iv 0] (qas9 b) (fun v g' => v = some 1 ∧ g' = (qas12 b)) := by
  refine mg_C.of (by decide) rfl (Nat.le_of_ble_eq_true rfl) (List.forall_mem_cons.mpr ⟨rfl, (List.forall_mem_cons.mpr ⟨rfl, (fun _ h => nomatch h)⟩)⟩) (fun K => ?_)
  refine g_aload_n (pc := 0) dX5_isUp_0 rfl ?_
  refine fg_X5_isUp_105 (pc := 1) (by rfl) dX5_isUp_1 ?_
  refine g_top (b := 1) rfl ?_
  refine g_if_eq (pc := 4) 28 dX5_isUp_4 (by decide) (by decide) (fun h => absurd h (by decide)) (fun _ => ?_)
  refine g_aload_n (pc := 7) dX5_isUp_7 rfl ?_
  refine g_iload_n (pc := 8) dX5_isUp_8 rfl ?_
  refine g_callVi (pc := 9) (Y' := mX5_isStation) (As := [iv 0]) (st := []) (k := 5) (i := 0) (qa39 K.2.1 b h_b k_b) gX5_isUp_X5_isStation rfl (show 0 < 1 by omega) rfl rfl (na := 1) rfl (by decide +kernel) (by decide) (by decide) (Nat.le_of_ble_eq_true rfl) dX5_isUp_9 (fun r1 g1 hp => ?_)
  obtain ⟨h1, rfl⟩ := hp
  cases h1
  refine g_if_eq (pc := 12) 28 dX5_isUp_12 (by decide) (by decide) (fun h => absurd h (by decide)) (fun _ => ?_)
  refine g_aload_n (pc := 15) dX5_isUp_15 rfl ?_
  refine fg_X5_isUp_23 (pc := 16) (by rfl) dX5_isUp_16 ?_
  refine g_iload_n (pc := 19) dX5_isUp_19 rfl ?_
  refine g_baload (pc := 20) (k := 39) (i := 0) (n := 24) (show 0 < 1 by omega) rfl (by decide) (by decide) dX5_isUp_20 ?_
  refine g_top (b := 0) rfl ?_
  refine g_if_ne (pc := 21) 28 dX5_isUp_21 (by decide) (by decide) (fun h => absurd (by decide) h) (fun _ => ?_)
  refine g_iconst (pc := 24) (v := 1) dX5_isUp_24 (by decide +kernel) ?_
  refine g_goto (pc := 25) 29 dX5_isUp_25 (by decide) ?_
  exact g_iret (pc := 29) dX5_isUp_29 ⟨mg_narZ (by decide), Or.inr rfl⟩ ⟨rfl, rfl⟩
def qas13 (b : Nat) : mg_F := (qas12 b)
def qas14 (b : Nat) : mg_F := (qas13 b)
set_option maxRecDepth 100000 in
/-- X5_placeOf(r5.0, 0, 0) at (qas13 b) -/
theorem qa41 (l : Launch) {D : va_G} {E : mg_E} {B : Nat} (b : Nat) (h_b : 0 ≤ b) (k_b : b ≤ 100) : mg_C l (D, E, true, B) mX5_placeOf [rv (D, E, true, B) 5 0, iv 0, iv 0] (qas13 b) (fun v g' => v = some 4294967295 ∧ g' = (qas14 b)) := by
  refine mg_C.of (by decide) rfl (Nat.le_of_ble_eq_true rfl) (List.forall_mem_cons.mpr ⟨rfl, (List.forall_mem_cons.mpr ⟨rfl, (List.forall_mem_cons.mpr ⟨rfl, (fun _ h => nomatch h)⟩)⟩)⟩) (fun K => ?_)
  refine g_iconst (pc := 0) (v := 4294967295) dX5_placeOf_0 (by decide +kernel) ?_
  refine g_istore_n (pc := 1) (ls' := [rv (D, E, true, B) 5 0, iv 0, iv 0, iv 4294967295]) dX5_placeOf_1 (Nat.le_of_ble_eq_true rfl) (Nat.le_of_ble_eq_true rfl) rfl ?_
  refine g_iconst (pc := 2) (v := 0) dX5_placeOf_2 (by decide +kernel) ?_
  refine g_istore (pc := 3) (ls' := [rv (D, E, true, B) 5 0, iv 0, iv 0, iv 4294967295, iv 0]) dX5_placeOf_3 (Nat.le_of_ble_eq_true rfl) (Nat.le_of_ble_eq_true rfl) rfl ?_
  refine g_iload (pc := 5) dX5_placeOf_5 rfl ?_
  refine g_aload_n (pc := 7) dX5_placeOf_7 rfl ?_
  refine fg_X5_placeOf_41 (pc := 8) (by rfl) dX5_placeOf_8 ?_
  refine g_iload_n (pc := 11) dX5_placeOf_11 rfl ?_
  refine g_iaload (pc := 12) (k := 46) (i := 0) (n := 24) (show 0 < 1 by omega) rfl (by decide) (by decide) dX5_placeOf_12 ?_
  refine g_top (b := 0) rfl ?_
  refine g_icmp_ge (pc := 13) 45 dX5_placeOf_13 (by decide) (by decide) (by decide) (fun _ => ?_) (fun h => absurd (by decide) h)
  refine g_iload_n (pc := 45) dX5_placeOf_45 rfl ?_
  exact g_iret (pc := 46) dX5_placeOf_46 ⟨mg_narI _, Or.inl rfl⟩ ⟨rfl, rfl⟩
def qas15 (b : Nat) : mg_F := (qas14 b)
def qas16 (b : Nat) : mg_F := (qas15 b)
def qas17 (b : Nat) : mg_F := (qas16 b)
set_option maxRecDepth 100000 in
/-- X5_placeOf(r5.0, 0, 0) at (qas16 b) -/
theorem qa42 (l : Launch) {D : va_G} {E : mg_E} {B : Nat} (b : Nat) (h_b : 0 ≤ b) (k_b : b ≤ 100) : mg_C l (D, E, true, B) mX5_placeOf [rv (D, E, true, B) 5 0, iv 0, iv 0] (qas16 b) (fun v g' => v = some 4294967295 ∧ g' = (qas17 b)) := by
  refine mg_C.of (by decide) rfl (Nat.le_of_ble_eq_true rfl) (List.forall_mem_cons.mpr ⟨rfl, (List.forall_mem_cons.mpr ⟨rfl, (List.forall_mem_cons.mpr ⟨rfl, (fun _ h => nomatch h)⟩)⟩)⟩) (fun K => ?_)
  refine g_iconst (pc := 0) (v := 4294967295) dX5_placeOf_0 (by decide +kernel) ?_
  refine g_istore_n (pc := 1) (ls' := [rv (D, E, true, B) 5 0, iv 0, iv 0, iv 4294967295]) dX5_placeOf_1 (Nat.le_of_ble_eq_true rfl) (Nat.le_of_ble_eq_true rfl) rfl ?_
  refine g_iconst (pc := 2) (v := 0) dX5_placeOf_2 (by decide +kernel) ?_
  refine g_istore (pc := 3) (ls' := [rv (D, E, true, B) 5 0, iv 0, iv 0, iv 4294967295, iv 0]) dX5_placeOf_3 (Nat.le_of_ble_eq_true rfl) (Nat.le_of_ble_eq_true rfl) rfl ?_
  refine g_iload (pc := 5) dX5_placeOf_5 rfl ?_
  refine g_aload_n (pc := 7) dX5_placeOf_7 rfl ?_
  refine fg_X5_placeOf_41 (pc := 8) (by rfl) dX5_placeOf_8 ?_
  refine g_iload_n (pc := 11) dX5_placeOf_11 rfl ?_
  refine g_iaload (pc := 12) (k := 46) (i := 0) (n := 24) (show 0 < 1 by omega) rfl (by decide) (by decide) dX5_placeOf_12 ?_
  refine g_top (b := 0) rfl ?_
  refine g_icmp_ge (pc := 13) 45 dX5_placeOf_13 (by decide) (by decide) (by decide) (fun _ => ?_) (fun h => absurd (by decide) h)
  refine g_iload_n (pc := 45) dX5_placeOf_45 rfl ?_
  exact g_iret (pc := 46) dX5_placeOf_46 ⟨mg_narI _, Or.inl rfl⟩ ⟨rfl, rfl⟩
def qas18 (b : Nat) : mg_F := (qas17 b)
def qas19 (b : Nat) : mg_F := (qas18 b)
/-- X5_entry(r5.0, 0, 0) at (qas18 b) -/
theorem qa43 (l : Launch) {D : va_G} {E : mg_E} {B : Nat} (b : Nat) (h_b : 0 ≤ b) (k_b : b ≤ 100) : mg_C l (D, E, true, B) mX5_entry [rv (D, E, true, B) 5 0, iv 0, iv 0] (qas18 b) (fun v g' => v = some 0 ∧ g' = (qas19 b)) := by
  refine mg_C.of (by decide) rfl (Nat.le_of_ble_eq_true rfl) (List.forall_mem_cons.mpr ⟨rfl, (List.forall_mem_cons.mpr ⟨rfl, (List.forall_mem_cons.mpr ⟨rfl, (fun _ h => nomatch h)⟩)⟩)⟩) (fun K => ?_)
  refine g_bipush (pc := 0) (v := 24) dX5_entry_0 (by decide +kernel) ?_
  refine g_iload_n (pc := 2) dX5_entry_2 rfl ?_
  refine g_imul (pc := 3) dX5_entry_3 ?_
  refine g_top (b := 0) (by decide +kernel) ?_
  refine g_iload_n (pc := 4) dX5_entry_4 rfl ?_
  refine g_iadd (pc := 5) dX5_entry_5 ?_
  refine g_top (b := 0) (by decide +kernel) ?_
  exact g_iret (pc := 6) dX5_entry_6 ⟨mg_narI _, Or.inl rfl⟩ ⟨rfl, rfl⟩
def qas20 (b : Nat) : mg_F := mg_up ((qas19 b)) 47 0 0 0
def qas21 (b : Nat) : mg_F := (qas20 b)
/-- X5_entry(r5.0, 0, 0) at (qas20 b) -/
theorem qa44 (l : Launch) {D : va_G} {E : mg_E} {B : Nat} (b : Nat) (h_b : 0 ≤ b) (k_b : b ≤ 100) : mg_C l (D, E, true, B) mX5_entry [rv (D, E, true, B) 5 0, iv 0, iv 0] (qas20 b) (fun v g' => v = some 0 ∧ g' = (qas21 b)) := by
  refine mg_C.of (by decide) rfl (Nat.le_of_ble_eq_true rfl) (List.forall_mem_cons.mpr ⟨rfl, (List.forall_mem_cons.mpr ⟨rfl, (List.forall_mem_cons.mpr ⟨rfl, (fun _ h => nomatch h)⟩)⟩)⟩) (fun K => ?_)
  refine g_bipush (pc := 0) (v := 24) dX5_entry_0 (by decide +kernel) ?_
  refine g_iload_n (pc := 2) dX5_entry_2 rfl ?_
  refine g_imul (pc := 3) dX5_entry_3 ?_
  refine g_top (b := 0) (by decide +kernel) ?_
  refine g_iload_n (pc := 4) dX5_entry_4 rfl ?_
  refine g_iadd (pc := 5) dX5_entry_5 ?_
  refine g_top (b := 0) (by decide +kernel) ?_
  exact g_iret (pc := 6) dX5_entry_6 ⟨mg_narI _, Or.inl rfl⟩ ⟨rfl, rfl⟩
def qas22 (b : Nat) : mg_F := mg_up (mg_up ((qas21 b)) 48 0 0 b) 46 0 0 1
set_option maxRecDepth 100000 in
/-- X5_come(r5.0, 0, 0, b[0,100]) at (qas15 b) -/
theorem qa45 (l : Launch) {D : va_G} {E : mg_E} {B : Nat} (b : Nat) (h_b : 0 ≤ b) (k_b : b ≤ 100) : mg_C l (D, E, true, B) mX5_come [rv (D, E, true, B) 5 0, iv 0, iv 0, iv b] (qas15 b) (fun v g' => v = none ∧ g' = (qas22 b)) := by
  refine mg_C.of (by decide) rfl (Nat.le_of_ble_eq_true rfl) (List.forall_mem_cons.mpr ⟨rfl, (List.forall_mem_cons.mpr ⟨rfl, (List.forall_mem_cons.mpr ⟨rfl, (List.forall_mem_cons.mpr ⟨rfl, (fun _ h => nomatch h)⟩)⟩)⟩)⟩) (fun K => ?_)
  refine g_aload_n (pc := 0) dX5_come_0 rfl ?_
  refine g_iload_n (pc := 1) dX5_come_1 rfl ?_
  refine g_iload_n (pc := 2) dX5_come_2 rfl ?_
  refine g_callVi (pc := 3) (Y' := mX5_placeOf) (As := [iv 0, iv 0]) (st := []) (k := 5) (i := 0) (qa42 K.2.1 b h_b k_b) gX5_come_X5_placeOf rfl (show 0 < 1 by omega) rfl rfl (na := 2) rfl (by decide +kernel) (by decide) (by decide) (Nat.le_of_ble_eq_true rfl) dX5_come_3 (fun r1 g1 hp => ?_)
  obtain ⟨h1, rfl⟩ := hp
  cases h1
  refine g_istore (pc := 6) (ls' := [rv (D, E, true, B) 5 0, iv 0, iv 0, iv b, iv 4294967295]) dX5_come_6 (Nat.le_of_ble_eq_true rfl) (Nat.le_of_ble_eq_true rfl) rfl ?_
  refine g_iload (pc := 8) dX5_come_8 rfl ?_
  refine g_sif_ge (pc := 10) 60 dX5_come_10 (by decide) (by decide) (fun h => absurd h (by decide)) (fun _ => ?_)
  refine g_aload_n (pc := 13) dX5_come_13 rfl ?_
  refine fg_X5_come_41 (pc := 14) (by rfl) dX5_come_14 ?_
  refine g_iload_n (pc := 17) dX5_come_17 rfl ?_
  refine g_iaload (pc := 18) (k := 46) (i := 0) (n := 24) (show 0 < 1 by omega) rfl (by decide) (by decide) dX5_come_18 ?_
  refine g_top (b := 0) rfl ?_
  refine g_istore (pc := 19) (ls' := [rv (D, E, true, B) 5 0, iv 0, iv 0, iv b, iv 0]) dX5_come_19 (Nat.le_of_ble_eq_true rfl) (Nat.le_of_ble_eq_true rfl) rfl ?_
  refine g_aload_n (pc := 21) dX5_come_21 rfl ?_
  refine fg_X5_come_44 (pc := 22) (by rfl) dX5_come_22 ?_
  refine g_aload_n (pc := 25) dX5_come_25 rfl ?_
  refine g_iload_n (pc := 26) dX5_come_26 rfl ?_
  refine g_iload (pc := 27) dX5_come_27 rfl ?_
  refine g_callVi (pc := 29) (Y' := mX5_entry) (As := [iv 0, iv 0]) (st := [rv (D, E, true, B) 47 0]) (k := 5) (i := 0) (qa43 K.2.1 b h_b k_b) gX5_come_X5_entry rfl (show 0 < 1 by omega) rfl rfl (na := 2) rfl (by decide +kernel) (by decide) (by decide) (Nat.le_of_ble_eq_true rfl) dX5_come_29 (fun r1 g1 hp => ?_)
  obtain ⟨h1, rfl⟩ := hp
  cases h1
  refine g_iload_n (pc := 32) dX5_come_32 rfl ?_
  refine g_iastore (pc := 33) (k := 47) (i := 0) (n := 576) (show 0 < 1 by omega) (fun _ => rfl) (by decide) (by decide) dX5_come_33 ?_
  refine g_aload_n (pc := 34) dX5_come_34 rfl ?_
  refine fg_X5_come_47 (pc := 35) (by rfl) dX5_come_35 ?_
  refine g_aload_n (pc := 38) dX5_come_38 rfl ?_
  refine g_iload_n (pc := 39) dX5_come_39 rfl ?_
  refine g_iload (pc := 40) dX5_come_40 rfl ?_
  refine g_callVi (pc := 42) (Y' := mX5_entry) (As := [iv 0, iv 0]) (st := [rv (D, E, true, B) 48 0]) (k := 5) (i := 0) (qa44 K.2.1 b h_b k_b) gX5_come_X5_entry rfl (show 0 < 1 by omega) rfl rfl (na := 2) rfl (by decide +kernel) (by decide) (by decide) (Nat.le_of_ble_eq_true rfl) dX5_come_42 (fun r1 g1 hp => ?_)
  obtain ⟨h1, rfl⟩ := hp
  cases h1
  refine g_iload_n (pc := 45) dX5_come_45 rfl ?_
  refine g_iastore (pc := 46) (k := 48) (i := 0) (n := 576) (show 0 < 1 by omega) (fun _ => rfl) (by decide) (by decide) dX5_come_46 ?_
  refine g_aload_n (pc := 47) dX5_come_47 rfl ?_
  refine fg_X5_come_41 (pc := 48) (by rfl) dX5_come_48 ?_
  refine g_iload_n (pc := 51) dX5_come_51 rfl ?_
  refine g_dup2 (pc := 52) dX5_come_52 rfl rfl ?_
  refine g_iaload (pc := 53) (k := 46) (i := 0) (n := 24) (show 0 < 1 by omega) rfl (by decide) (by decide) dX5_come_53 ?_
  refine g_top (b := 0) rfl ?_
  refine g_iconst (pc := 54) (v := 1) dX5_come_54 (by decide +kernel) ?_
  refine g_iadd (pc := 55) dX5_come_55 ?_
  refine g_top (b := 1) (by decide +kernel) ?_
  refine g_iastore (pc := 56) (k := 46) (i := 0) (n := 24) (show 0 < 1 by omega) (fun _ => rfl) (by decide) (by decide) dX5_come_56 ?_
  refine g_goto (pc := 57) 89 dX5_come_57 (by decide) ?_
  exact g_ret (pc := 89) dX5_come_89 trivial ⟨rfl, rfl⟩
def qas23 (b : Nat) : mg_F := mg_up ((qas22 b)) 43 0 0 0
set_option maxRecDepth 100000 in
/-- X5_want(r5.0, 0, b[0,100]) at (qas8 b) -/
theorem qa46 (l : Launch) {D : va_G} {E : mg_E} {B : Nat} (b : Nat) (h_b : 0 ≤ b) (k_b : b ≤ 100) : mg_C l (D, E, true, B) mX5_want [rv (D, E, true, B) 5 0, iv 0, iv b] (qas8 b) (fun v g' => v = some 1 ∧ g' = (qas23 b)) := by
  refine mg_C.of (by decide) rfl (Nat.le_of_ble_eq_true rfl) (List.forall_mem_cons.mpr ⟨rfl, (List.forall_mem_cons.mpr ⟨rfl, (List.forall_mem_cons.mpr ⟨rfl, (fun _ h => nomatch h)⟩)⟩)⟩) (fun K => ?_)
  refine g_aload_n (pc := 0) dX5_want_0 rfl ?_
  refine g_iload_n (pc := 1) dX5_want_1 rfl ?_
  refine g_callVi (pc := 2) (Y' := mX5_isUp) (As := [iv 0]) (st := []) (k := 5) (i := 0) (qa40 K.2.1 b h_b k_b) gX5_want_X5_isUp rfl (show 0 < 1 by omega) rfl rfl (na := 1) rfl (by decide +kernel) (by decide) (by decide) (Nat.le_of_ble_eq_true rfl) dX5_want_2 (fun r1 g1 hp => ?_)
  obtain ⟨h1, rfl⟩ := hp
  cases h1
  refine g_if_eq (pc := 5) 36 dX5_want_5 (by decide) (by decide) (fun h => absurd h (by decide)) (fun _ => ?_)
  refine g_iload_n (pc := 8) dX5_want_8 rfl ?_
  refine g_sif_lt (pc := 9) 36 dX5_want_9 (by decide) (by omega) (fun h => absurd h (by have q := mg_sgs (a := b) (by omega); omega)) (fun _ => ?_)
  refine g_iload_n (pc := 12) dX5_want_12 rfl ?_
  refine g_bipush (pc := 13) (v := 100) dX5_want_13 (by decide +kernel) ?_
  refine g_icmp_gt (pc := 15) 36 dX5_want_15 (by decide) (by omega) (by decide) (fun h => absurd h (by omega)) (fun _ => ?_)
  refine g_aload_n (pc := 18) dX5_want_18 rfl ?_
  refine fg_X5_want_20 (pc := 19) (by rfl) dX5_want_19 ?_
  refine g_iload_n (pc := 22) dX5_want_22 rfl ?_
  refine g_baload (pc := 23) (k := 38) (i := 0) (n := 24) (show 0 < 1 by omega) rfl (by decide) (by decide) dX5_want_23 ?_
  refine g_top (b := 0) rfl ?_
  refine g_if_ne (pc := 24) 36 dX5_want_24 (by decide) (by decide) (fun h => absurd (by decide) h) (fun _ => ?_)
  refine g_aload_n (pc := 27) dX5_want_27 rfl ?_
  refine g_iload_n (pc := 28) dX5_want_28 rfl ?_
  refine g_iload_n (pc := 29) dX5_want_29 rfl ?_
  refine g_callVi (pc := 30) (Y' := mX5_placeOf) (As := [iv 0, iv 0]) (st := []) (k := 5) (i := 0) (qa41 K.2.1 b h_b k_b) gX5_want_X5_placeOf rfl (show 0 < 1 by omega) rfl rfl (na := 2) rfl (by decide +kernel) (by decide) (by decide) (Nat.le_of_ble_eq_true rfl) dX5_want_30 (fun r1 g1 hp => ?_)
  obtain ⟨h1, rfl⟩ := hp
  cases h1
  refine g_sif_lt (pc := 33) 38 dX5_want_33 (by decide) (by decide) (fun _ => ?_) (fun h => absurd (by decide) h)
  refine g_aload_n (pc := 38) dX5_want_38 rfl ?_
  refine g_iload_n (pc := 39) dX5_want_39 rfl ?_
  refine g_iload_n (pc := 40) dX5_want_40 rfl ?_
  refine g_iload_n (pc := 41) dX5_want_41 rfl ?_
  refine g_callVv (pc := 42) (Y' := mX5_come) (As := [iv 0, iv 0, iv b]) (st := []) (k := 5) (i := 0) (qa45 K.2.1 b h_b k_b) gX5_want_X5_come rfl (show 0 < 1 by omega) rfl rfl (na := 3) rfl (by decide +kernel) (by decide) (by decide) (Nat.le_of_ble_eq_true rfl) dX5_want_42 (fun g1 hp => ?_)
  obtain ⟨-, rfl⟩ := hp
  refine g_aload_n (pc := 45) dX5_want_45 rfl ?_
  refine fg_X5_want_35 (pc := 46) (by rfl) dX5_want_46 ?_
  refine g_iload_n (pc := 49) dX5_want_49 rfl ?_
  refine g_iconst (pc := 50) (v := 0) dX5_want_50 (by decide +kernel) ?_
  refine g_iastore (pc := 51) (k := 43) (i := 0) (n := 24) (show 0 < 1 by omega) (fun _ => rfl) (by decide) (by decide) dX5_want_51 ?_
  refine g_aload_n (pc := 52) dX5_want_52 rfl ?_
  refine fg_X5_want_41 (pc := 53) (by rfl) dX5_want_53 ?_
  refine g_iload_n (pc := 56) dX5_want_56 rfl ?_
  refine g_iaload (pc := 57) (k := 46) (i := 0) (n := 24) (show 0 < 1 by omega) rfl (by decide) (by decide) dX5_want_57 ?_
  refine g_top (b := 1) rfl ?_
  exact g_iret (pc := 58) dX5_want_58 ⟨mg_narI _, Or.inl rfl⟩ ⟨rfl, rfl⟩
/-- X4_want(r4.0, 0, b[101,2147483647]) at qms6 -/
theorem qa47 (l : Launch) {D : va_G} {E : mg_E} {B : Nat} (b : Nat) (h_b : 101 ≤ b) (k_b : b ≤ 2147483647) : mg_C l (D, E, true, B) mX4_want [rv (D, E, true, B) 4 0, iv 0, iv b] qms6 (fun v g' => v = some 4294967295 ∧ g' = qms6) := by
  refine mg_C.of (by decide) rfl (Nat.le_of_ble_eq_true rfl) (List.forall_mem_cons.mpr ⟨rfl, (List.forall_mem_cons.mpr ⟨rfl, (List.forall_mem_cons.mpr ⟨rfl, (fun _ h => nomatch h)⟩)⟩)⟩) (fun K => ?_)
  refine g_aload_n (pc := 0) dX4_want_0 rfl ?_
  refine g_iload_n (pc := 1) dX4_want_1 rfl ?_
  refine g_callVi (pc := 2) (Y' := mX4_isUp) (As := [iv 0]) (st := []) (k := 4) (i := 0) (qa30 K.2.1) gX4_want_X4_isUp rfl (show 0 < 1 by omega) rfl rfl (na := 1) rfl (by decide +kernel) (by decide) (by decide) (Nat.le_of_ble_eq_true rfl) dX4_want_2 (fun r1 g1 hp => ?_)
  obtain ⟨h1, rfl⟩ := hp
  cases h1
  refine g_if_eq (pc := 5) 18 dX4_want_5 (by decide) (by decide) (fun h => absurd h (by decide)) (fun _ => ?_)
  refine g_iload_n (pc := 8) dX4_want_8 rfl ?_
  refine g_sif_lt (pc := 9) 18 dX4_want_9 (by decide) (by omega) (fun h => absurd h (by have q := mg_sgs (a := b) (by omega); omega)) (fun _ => ?_)
  refine g_iload_n (pc := 12) dX4_want_12 rfl ?_
  refine g_bipush (pc := 13) (v := 100) dX4_want_13 (by decide +kernel) ?_
  refine g_icmp_le (pc := 15) 20 dX4_want_15 (by decide) (by omega) (by decide) (fun h => absurd h (by omega)) (fun _ => ?_)
  refine g_iconst (pc := 18) (v := 4294967295) dX4_want_18 (by decide +kernel) ?_
  exact g_iret (pc := 19) dX4_want_19 ⟨mg_narI _, Or.inl rfl⟩ ⟨rfl, rfl⟩
/-- X5_want(r5.0, 0, b[101,2147483647]) at qms6 -/
theorem qa48 (l : Launch) {D : va_G} {E : mg_E} {B : Nat} (b : Nat) (h_b : 101 ≤ b) (k_b : b ≤ 2147483647) : mg_C l (D, E, true, B) mX5_want [rv (D, E, true, B) 5 0, iv 0, iv b] qms6 (fun v g' => v = some 4294967295 ∧ g' = qms6) := by
  refine mg_C.of (by decide) rfl (Nat.le_of_ble_eq_true rfl) (List.forall_mem_cons.mpr ⟨rfl, (List.forall_mem_cons.mpr ⟨rfl, (List.forall_mem_cons.mpr ⟨rfl, (fun _ h => nomatch h)⟩)⟩)⟩) (fun K => ?_)
  refine g_aload_n (pc := 0) dX5_want_0 rfl ?_
  refine g_iload_n (pc := 1) dX5_want_1 rfl ?_
  refine g_callVi (pc := 2) (Y' := mX5_isUp) (As := [iv 0]) (st := []) (k := 5) (i := 0) (qa33 K.2.1) gX5_want_X5_isUp rfl (show 0 < 1 by omega) rfl rfl (na := 1) rfl (by decide +kernel) (by decide) (by decide) (Nat.le_of_ble_eq_true rfl) dX5_want_2 (fun r1 g1 hp => ?_)
  obtain ⟨h1, rfl⟩ := hp
  cases h1
  refine g_if_eq (pc := 5) 36 dX5_want_5 (by decide) (by decide) (fun h => absurd h (by decide)) (fun _ => ?_)
  refine g_iload_n (pc := 8) dX5_want_8 rfl ?_
  refine g_sif_lt (pc := 9) 36 dX5_want_9 (by decide) (by omega) (fun h => absurd h (by have q := mg_sgs (a := b) (by omega); omega)) (fun _ => ?_)
  refine g_iload_n (pc := 12) dX5_want_12 rfl ?_
  refine g_bipush (pc := 13) (v := 100) dX5_want_13 (by decide +kernel) ?_
  refine g_icmp_gt (pc := 15) 36 dX5_want_15 (by decide) (by omega) (by decide) (fun _ => ?_) (fun h => absurd (by omega) h)
  refine g_iconst (pc := 36) (v := 4294967295) dX5_want_36 (by decide +kernel) ?_
  exact g_iret (pc := 37) dX5_want_37 ⟨mg_narI _, Or.inl rfl⟩ ⟨rfl, rfl⟩
/-- X0_has(r0.0, 1) at qms6 -/
theorem qa49 (l : Launch) {D : va_G} {E : mg_E} {B : Nat} : mg_C l (D, E, true, B) mX0_has [rv (D, E, true, B) 0 0, iv 1] qms6 (fun v g' => v = some 1 ∧ g' = qms6) := by
  refine mg_C.of (by decide) rfl (Nat.le_of_ble_eq_true rfl) (List.forall_mem_cons.mpr ⟨rfl, (List.forall_mem_cons.mpr ⟨rfl, (fun _ h => nomatch h)⟩)⟩) (fun K => ?_)
  refine g_iload_n (pc := 0) dX0_has_0 rfl ?_
  refine g_sif_lt (pc := 1) 16 dX0_has_1 (by decide) (by decide) (fun h => absurd h (by decide)) (fun _ => ?_)
  refine g_iload_n (pc := 4) dX0_has_4 rfl ?_
  refine g_aload_n (pc := 5) dX0_has_5 rfl ?_
  refine fg_X0_has_21 (pc := 6) dX0_has_6 ?_
  refine g_top (b := 2) (by decide +kernel) ?_
  refine g_icmp_ge (pc := 9) 16 dX0_has_9 (by decide) (by decide) (by decide) (fun h => absurd h (by decide)) (fun _ => ?_)
  refine g_iconst (pc := 12) (v := 1) dX0_has_12 (by decide +kernel) ?_
  refine g_goto (pc := 13) 17 dX0_has_13 (by decide) ?_
  exact g_iret (pc := 17) dX0_has_17 ⟨mg_narZ (by decide), Or.inr rfl⟩ ⟨rfl, rfl⟩
/-- X4_isStation(r4.0, 1) at qms6 -/
theorem qa50 (l : Launch) {D : va_G} {E : mg_E} {B : Nat} : mg_C l (D, E, true, B) mX4_isStation [rv (D, E, true, B) 4 0, iv 1] qms6 (fun v g' => v = some 1 ∧ g' = qms6) := by
  refine mg_C.of (by decide) rfl (Nat.le_of_ble_eq_true rfl) (List.forall_mem_cons.mpr ⟨rfl, (List.forall_mem_cons.mpr ⟨rfl, (fun _ h => nomatch h)⟩)⟩) (fun K => ?_)
  refine g_aload_n (pc := 0) dX4_isStation_0 rfl ?_
  refine fg_X4_isStation_55 (pc := 1) dX4_isStation_1 ?_
  refine g_top (b := 1) (by decide +kernel) ?_
  refine g_if_eq (pc := 4) 22 dX4_isStation_4 (by decide) (by decide) (fun h => absurd h (by decide)) (fun _ => ?_)
  refine g_aload_n (pc := 7) dX4_isStation_7 rfl ?_
  refine fg_X4_isStation_10 (pc := 8) dX4_isStation_8 ?_
  refine g_iload_n (pc := 11) dX4_isStation_11 rfl ?_
  refine g_callVi (pc := 12) (Y' := mX0_has) (As := [iv 1]) (st := []) (k := 0) (i := 0) (qa49 K.2.1) gX4_isStation_X0_has rfl (show 0 < 1 by omega) rfl rfl (na := 1) rfl (by decide +kernel) (by decide) (by decide) (Nat.le_of_ble_eq_true rfl) dX4_isStation_12 (fun r1 g1 hp => ?_)
  obtain ⟨h1, rfl⟩ := hp
  cases h1
  refine g_if_eq (pc := 15) 22 dX4_isStation_15 (by decide) (by decide) (fun h => absurd h (by decide)) (fun _ => ?_)
  refine g_iconst (pc := 18) (v := 1) dX4_isStation_18 (by decide +kernel) ?_
  refine g_goto (pc := 19) 23 dX4_isStation_19 (by decide) ?_
  exact g_iret (pc := 23) dX4_isStation_23 ⟨mg_narZ (by decide), Or.inr rfl⟩ ⟨rfl, rfl⟩
/-- X4_isUp(r4.0, 1) at qms6 -/
theorem qa51 (l : Launch) {D : va_G} {E : mg_E} {B : Nat} : mg_C l (D, E, true, B) mX4_isUp [rv (D, E, true, B) 4 0, iv 1] qms6 (fun v g' => v = some 1 ∧ g' = qms6) := by
  refine mg_C.of (by decide) rfl (Nat.le_of_ble_eq_true rfl) (List.forall_mem_cons.mpr ⟨rfl, (List.forall_mem_cons.mpr ⟨rfl, (fun _ h => nomatch h)⟩)⟩) (fun K => ?_)
  refine g_aload_n (pc := 0) dX4_isUp_0 rfl ?_
  refine g_iload_n (pc := 1) dX4_isUp_1 rfl ?_
  refine g_callVi (pc := 2) (Y' := mX4_isStation) (As := [iv 1]) (st := []) (k := 4) (i := 0) (qa50 K.2.1) gX4_isUp_X4_isStation rfl (show 0 < 1 by omega) rfl rfl (na := 1) rfl (by decide +kernel) (by decide) (by decide) (Nat.le_of_ble_eq_true rfl) dX4_isUp_2 (fun r1 g1 hp => ?_)
  obtain ⟨h1, rfl⟩ := hp
  cases h1
  refine g_if_eq (pc := 5) 24 dX4_isUp_5 (by decide) (by decide) (fun h => absurd h (by decide)) (fun _ => ?_)
  refine g_aload_n (pc := 8) dX4_isUp_8 rfl ?_
  refine fg_X4_isUp_18 (pc := 9) dX4_isUp_9 ?_
  refine g_iload_n (pc := 12) dX4_isUp_12 rfl ?_
  refine g_aastation (pc := 13) (a := 1) (by decide) dX4_isUp_13 ?_
  refine fg_X4_isUp_211 (pc := 14) (show 1 < 24 by omega) dX4_isUp_14 ?_
  refine g_top (b := 0) (by decide +kernel) ?_
  refine g_if_ne (pc := 17) 24 dX4_isUp_17 (by decide) (by decide) (fun h => absurd (by decide) h) (fun _ => ?_)
  refine g_iconst (pc := 20) (v := 1) dX4_isUp_20 (by decide +kernel) ?_
  refine g_goto (pc := 21) 25 dX4_isUp_21 (by decide) ?_
  exact g_iret (pc := 25) dX4_isUp_25 ⟨mg_narZ (by decide), Or.inr rfl⟩ ⟨rfl, rfl⟩
/-- X4_want(r4.0, 1, b[2147483648,4294967295]) at qms6 -/
theorem qa52 (l : Launch) {D : va_G} {E : mg_E} {B : Nat} (b : Nat) (h_b : 2147483648 ≤ b) (k_b : b ≤ 4294967295) : mg_C l (D, E, true, B) mX4_want [rv (D, E, true, B) 4 0, iv 1, iv b] qms6 (fun v g' => v = some 4294967295 ∧ g' = qms6) := by
  refine mg_C.of (by decide) rfl (Nat.le_of_ble_eq_true rfl) (List.forall_mem_cons.mpr ⟨rfl, (List.forall_mem_cons.mpr ⟨rfl, (List.forall_mem_cons.mpr ⟨rfl, (fun _ h => nomatch h)⟩)⟩)⟩) (fun K => ?_)
  refine g_aload_n (pc := 0) dX4_want_0 rfl ?_
  refine g_iload_n (pc := 1) dX4_want_1 rfl ?_
  refine g_callVi (pc := 2) (Y' := mX4_isUp) (As := [iv 1]) (st := []) (k := 4) (i := 0) (qa51 K.2.1) gX4_want_X4_isUp rfl (show 0 < 1 by omega) rfl rfl (na := 1) rfl (by decide +kernel) (by decide) (by decide) (Nat.le_of_ble_eq_true rfl) dX4_want_2 (fun r1 g1 hp => ?_)
  obtain ⟨h1, rfl⟩ := hp
  cases h1
  refine g_if_eq (pc := 5) 18 dX4_want_5 (by decide) (by decide) (fun h => absurd h (by decide)) (fun _ => ?_)
  refine g_iload_n (pc := 8) dX4_want_8 rfl ?_
  refine g_sif_lt (pc := 9) 18 dX4_want_9 (by decide) (by omega) (fun _ => ?_) (fun h => absurd (by have q := mg_sgn h_b (by omega : b < 4294967296); omega) h)
  refine g_iconst (pc := 18) (v := 4294967295) dX4_want_18 (by decide +kernel) ?_
  exact g_iret (pc := 19) dX4_want_19 ⟨mg_narI _, Or.inl rfl⟩ ⟨rfl, rfl⟩
/-- X5_isStation(r5.0, 1) at qms6 -/
theorem qa53 (l : Launch) {D : va_G} {E : mg_E} {B : Nat} : mg_C l (D, E, true, B) mX5_isStation [rv (D, E, true, B) 5 0, iv 1] qms6 (fun v g' => v = some 1 ∧ g' = qms6) := by
  refine mg_C.of (by decide) rfl (Nat.le_of_ble_eq_true rfl) (List.forall_mem_cons.mpr ⟨rfl, (List.forall_mem_cons.mpr ⟨rfl, (fun _ h => nomatch h)⟩)⟩) (fun K => ?_)
  refine g_iload_n (pc := 0) dX5_isStation_0 rfl ?_
  refine g_sif_lt (pc := 1) 16 dX5_isStation_1 (by decide) (by decide) (fun h => absurd h (by decide)) (fun _ => ?_)
  refine g_iload_n (pc := 4) dX5_isStation_4 rfl ?_
  refine g_aload_n (pc := 5) dX5_isStation_5 rfl ?_
  refine fg_X5_isStation_101 (pc := 6) (by rfl) dX5_isStation_6 ?_
  refine g_top (b := 2) (by decide +kernel) ?_
  refine g_icmp_ge (pc := 9) 16 dX5_isStation_9 (by decide) (by decide) (by decide) (fun h => absurd h (by decide)) (fun _ => ?_)
  refine g_iconst (pc := 12) (v := 1) dX5_isStation_12 (by decide +kernel) ?_
  refine g_goto (pc := 13) 17 dX5_isStation_13 (by decide) ?_
  exact g_iret (pc := 17) dX5_isStation_17 ⟨mg_narZ (by decide), Or.inr rfl⟩ ⟨rfl, rfl⟩
/-- X5_isUp(r5.0, 1) at qms6 -/
theorem qa54 (l : Launch) {D : va_G} {E : mg_E} {B : Nat} : mg_C l (D, E, true, B) mX5_isUp [rv (D, E, true, B) 5 0, iv 1] qms6 (fun v g' => v = some 1 ∧ g' = qms6) := by
  refine mg_C.of (by decide) rfl (Nat.le_of_ble_eq_true rfl) (List.forall_mem_cons.mpr ⟨rfl, (List.forall_mem_cons.mpr ⟨rfl, (fun _ h => nomatch h)⟩)⟩) (fun K => ?_)
  refine g_aload_n (pc := 0) dX5_isUp_0 rfl ?_
  refine fg_X5_isUp_105 (pc := 1) (by rfl) dX5_isUp_1 ?_
  refine g_top (b := 1) (by decide +kernel) ?_
  refine g_if_eq (pc := 4) 28 dX5_isUp_4 (by decide) (by decide) (fun h => absurd h (by decide)) (fun _ => ?_)
  refine g_aload_n (pc := 7) dX5_isUp_7 rfl ?_
  refine g_iload_n (pc := 8) dX5_isUp_8 rfl ?_
  refine g_callVi (pc := 9) (Y' := mX5_isStation) (As := [iv 1]) (st := []) (k := 5) (i := 0) (qa53 K.2.1) gX5_isUp_X5_isStation rfl (show 0 < 1 by omega) rfl rfl (na := 1) rfl (by decide +kernel) (by decide) (by decide) (Nat.le_of_ble_eq_true rfl) dX5_isUp_9 (fun r1 g1 hp => ?_)
  obtain ⟨h1, rfl⟩ := hp
  cases h1
  refine g_if_eq (pc := 12) 28 dX5_isUp_12 (by decide) (by decide) (fun h => absurd h (by decide)) (fun _ => ?_)
  refine g_aload_n (pc := 15) dX5_isUp_15 rfl ?_
  refine fg_X5_isUp_23 (pc := 16) (by rfl) dX5_isUp_16 ?_
  refine g_iload_n (pc := 19) dX5_isUp_19 rfl ?_
  refine g_baload (pc := 20) (k := 39) (i := 0) (n := 24) (show 0 < 1 by omega) rfl (by decide) (by decide) dX5_isUp_20 ?_
  refine g_top (b := 0) (by decide +kernel) ?_
  refine g_if_ne (pc := 21) 28 dX5_isUp_21 (by decide) (by decide) (fun h => absurd (by decide) h) (fun _ => ?_)
  refine g_iconst (pc := 24) (v := 1) dX5_isUp_24 (by decide +kernel) ?_
  refine g_goto (pc := 25) 29 dX5_isUp_25 (by decide) ?_
  exact g_iret (pc := 29) dX5_isUp_29 ⟨mg_narZ (by decide), Or.inr rfl⟩ ⟨rfl, rfl⟩
/-- X5_want(r5.0, 1, b[2147483648,4294967295]) at qms6 -/
theorem qa55 (l : Launch) {D : va_G} {E : mg_E} {B : Nat} (b : Nat) (h_b : 2147483648 ≤ b) (k_b : b ≤ 4294967295) : mg_C l (D, E, true, B) mX5_want [rv (D, E, true, B) 5 0, iv 1, iv b] qms6 (fun v g' => v = some 4294967295 ∧ g' = qms6) := by
  refine mg_C.of (by decide) rfl (Nat.le_of_ble_eq_true rfl) (List.forall_mem_cons.mpr ⟨rfl, (List.forall_mem_cons.mpr ⟨rfl, (List.forall_mem_cons.mpr ⟨rfl, (fun _ h => nomatch h)⟩)⟩)⟩) (fun K => ?_)
  refine g_aload_n (pc := 0) dX5_want_0 rfl ?_
  refine g_iload_n (pc := 1) dX5_want_1 rfl ?_
  refine g_callVi (pc := 2) (Y' := mX5_isUp) (As := [iv 1]) (st := []) (k := 5) (i := 0) (qa54 K.2.1) gX5_want_X5_isUp rfl (show 0 < 1 by omega) rfl rfl (na := 1) rfl (by decide +kernel) (by decide) (by decide) (Nat.le_of_ble_eq_true rfl) dX5_want_2 (fun r1 g1 hp => ?_)
  obtain ⟨h1, rfl⟩ := hp
  cases h1
  refine g_if_eq (pc := 5) 36 dX5_want_5 (by decide) (by decide) (fun h => absurd h (by decide)) (fun _ => ?_)
  refine g_iload_n (pc := 8) dX5_want_8 rfl ?_
  refine g_sif_lt (pc := 9) 36 dX5_want_9 (by decide) (by omega) (fun _ => ?_) (fun h => absurd (by have q := mg_sgn h_b (by omega : b < 4294967296); omega) h)
  refine g_iconst (pc := 36) (v := 4294967295) dX5_want_36 (by decide +kernel) ?_
  exact g_iret (pc := 37) dX5_want_37 ⟨mg_narI _, Or.inl rfl⟩ ⟨rfl, rfl⟩
/-- X2_placeOf(r2.1, 1) at qms6 -/
theorem qa56 (l : Launch) {D : va_G} {E : mg_E} {B : Nat} : mg_C l (D, E, true, B) mX2_placeOf [rv (D, E, true, B) 2 1, iv 1] qms6 (fun v g' => v = some 4294967294 ∧ g' = qms6) := by
  refine mg_C.of (by decide) rfl (Nat.le_of_ble_eq_true rfl) (List.forall_mem_cons.mpr ⟨rfl, (List.forall_mem_cons.mpr ⟨rfl, (fun _ h => nomatch h)⟩)⟩) (fun K => ?_)
  refine g_iconst (pc := 0) (v := 0) dX2_placeOf_0 (by decide +kernel) ?_
  refine g_istore_n (pc := 1) (ls' := [rv (D, E, true, B) 2 1, iv 1, iv 0]) dX2_placeOf_1 (Nat.le_of_ble_eq_true rfl) (Nat.le_of_ble_eq_true rfl) rfl ?_
  refine g_iload_n (pc := 2) dX2_placeOf_2 rfl ?_
  refine g_aload_n (pc := 3) dX2_placeOf_3 rfl ?_
  refine fg_X2_placeOf_18 (pc := 4) (show 1 < 24 by omega) dX2_placeOf_4 ?_
  refine g_top (b := 0) (by decide +kernel) ?_
  refine g_icmp_ge (pc := 7) 28 dX2_placeOf_7 (by decide) (by decide) (by decide) (fun _ => ?_) (fun h => absurd (by decide) h)
  refine g_bipush (pc := 28) (v := 4294967294) dX2_placeOf_28 (by decide +kernel) ?_
  exact g_iret (pc := 30) dX2_placeOf_30 ⟨mg_narI _, Or.inl rfl⟩ ⟨rfl, rfl⟩
/-- X3_wants(r3.1) at qms6 -/
theorem qa57 (l : Launch) {D : va_G} {E : mg_E} {B : Nat} : mg_C l (D, E, true, B) mX3_wants [rv (D, E, true, B) 3 1] qms6 (fun v g' => v = some 0 ∧ g' = qms6) := by
  refine mg_C.of (by decide) rfl (Nat.le_of_ble_eq_true rfl) (List.forall_mem_cons.mpr ⟨rfl, (fun _ h => nomatch h)⟩) (fun K => ?_)
  refine g_aload_n (pc := 0) dX3_wants_0 rfl ?_
  refine fg_X3_wants_12 (pc := 1) (show 1 < 24 by omega) dX3_wants_1 ?_
  refine g_aload_n (pc := 4) dX3_wants_4 rfl ?_
  refine fg_X3_wants_18 (pc := 5) (show 1 < 24 by omega) dX3_wants_5 ?_
  refine g_callVi (pc := 8) (Y' := mX2_placeOf) (As := [iv 1]) (st := []) (k := 2) (i := 1) (qa56 K.2.1) gX3_wants_X2_placeOf rfl (show 1 < 24 by omega) rfl rfl (na := 1) rfl (by decide +kernel) (by decide) (by decide) (Nat.le_of_ble_eq_true rfl) dX3_wants_8 (fun r1 g1 hp => ?_)
  obtain ⟨h1, rfl⟩ := hp
  cases h1
  refine g_bipush (pc := 11) (v := 4294967294) dX3_wants_11 (by decide +kernel) ?_
  refine g_icmp_eq (pc := 13) 20 dX3_wants_13 (by decide) (by decide) (by decide) (fun _ => ?_) (fun h => absurd (by decide) h)
  refine g_iconst (pc := 20) (v := 0) dX3_wants_20 (by decide +kernel) ?_
  exact g_iret (pc := 21) dX3_wants_21 ⟨mg_narZ (by decide), Or.inr rfl⟩ ⟨rfl, rfl⟩
def qas24 (b : Nat) : mg_F := mg_up (mg_up (mg_up (qms6) 16 1 0 1) 17 1 0 b) 2 1 2 1
set_option maxRecDepth 100000 in
/-- X2_add(r2.1, 1, b[0,100]) at qms6 -/
theorem qa58 (l : Launch) {D : va_G} {E : mg_E} {B : Nat} (b : Nat) (h_b : 0 ≤ b) (k_b : b ≤ 100) : mg_C l (D, E, true, B) mX2_add [rv (D, E, true, B) 2 1, iv 1, iv b] qms6 (fun v g' => v = none ∧ g' = (qas24 b)) := by
  refine mg_C.of (by decide) rfl (Nat.le_of_ble_eq_true rfl) (List.forall_mem_cons.mpr ⟨rfl, (List.forall_mem_cons.mpr ⟨rfl, (List.forall_mem_cons.mpr ⟨rfl, (fun _ h => nomatch h)⟩)⟩)⟩) (fun K => ?_)
  refine g_aload_n (pc := 0) dX2_add_0 rfl ?_
  refine fg_X2_add_18 (pc := 1) (show 1 < 24 by omega) dX2_add_1 ?_
  refine g_top (b := 0) (by decide +kernel) ?_
  refine g_bipush (pc := 4) (v := 24) dX2_add_4 (by decide +kernel) ?_
  refine g_icmp_ne (pc := 6) 10 dX2_add_6 (by decide) (by decide) (by decide) (fun _ => ?_) (fun h => absurd h (by decide))
  refine g_aload_n (pc := 10) dX2_add_10 rfl ?_
  refine fg_X2_add_9 (pc := 11) (show 1 < 24 by omega) dX2_add_11 ?_
  refine g_aload_n (pc := 14) dX2_add_14 rfl ?_
  refine fg_X2_add_18 (pc := 15) (show 1 < 24 by omega) dX2_add_15 ?_
  refine g_top (b := 0) (by decide +kernel) ?_
  refine g_iload_n (pc := 18) dX2_add_18 rfl ?_
  refine g_iastore (pc := 19) (k := 16) (i := 1) (n := 24) (show 1 < 24 by omega) (fun _ => rfl) (by decide) (by decide) dX2_add_19 ?_
  refine g_aload_n (pc := 20) dX2_add_20 rfl ?_
  refine fg_X2_add_15 (pc := 21) (show 1 < 24 by omega) dX2_add_21 ?_
  refine g_aload_n (pc := 24) dX2_add_24 rfl ?_
  refine fg_X2_add_18 (pc := 25) (show 1 < 24 by omega) dX2_add_25 ?_
  refine g_top (b := 0) (by decide +kernel) ?_
  refine g_iload_n (pc := 28) dX2_add_28 rfl ?_
  refine g_iastore (pc := 29) (k := 17) (i := 1) (n := 24) (show 1 < 24 by omega) (fun _ => rfl) (by decide) (by decide) dX2_add_29 ?_
  refine g_aload_n (pc := 30) dX2_add_30 rfl ?_
  refine g_dup (pc := 31) dX2_add_31 rfl ?_
  refine fg_X2_add_18 (pc := 32) (show 1 < 24 by omega) dX2_add_32 ?_
  refine g_top (b := 0) rfl ?_
  refine g_iconst (pc := 35) (v := 1) dX2_add_35 (by decide +kernel) ?_
  refine g_iadd (pc := 36) dX2_add_36 ?_
  refine g_top (b := 1) (by decide +kernel) ?_
  refine fp_X2_add_18 (pc := 37) (show 1 < 24 by omega) dX2_add_37 ?_
  exact g_ret (pc := 40) dX2_add_40 trivial ⟨rfl, rfl⟩
def qas25 (b : Nat) : mg_F := mg_up (mg_up ((qas24 b)) 3 1 9 1) 3 1 10 0
