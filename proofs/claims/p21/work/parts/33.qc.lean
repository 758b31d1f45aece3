/-! ===== canal(2), link(0, 1), open(0, 0, 1) of the class, all cells being 0 ===== -/
def mg_z : mg_F := fun _ _ _ => 0
def qcs1 : mg_F := mg_up (mg_z) 4 0 6 0
def qcs2 : mg_F := mg_upr qcs1 10 0 (mg_fl (qcs1 10 0) 24 0)
def qcs3 : mg_F := mg_up (mg_up (qcs2) 0 0 1 2) 0 0 2 0
/-- X0_clear(r0.0, 2) at qcs1 -/
theorem qc1 (l : Launch) {Z : mg_Zt} : mg_C l Z mX0_clear [rv Z 0 0, iv 2] qcs1 (fun v g' => v = none ∧ g' = qcs3) := by
  refine mg_C.of (by decide) rfl (Nat.le_of_ble_eq_true rfl) (List.forall_mem_cons.mpr ⟨rfl, (List.forall_mem_cons.mpr ⟨rfl, (fun _ h => nomatch h)⟩)⟩) (fun K => ?_)
  refine g_aload_n (pc := 0) dX0_clear_0 rfl ?_
  refine fg_X0_clear_9 (pc := 1) dX0_clear_1 ?_
  refine g_iconst (pc := 4) (v := 0) dX0_clear_4 (by decide +kernel) ?_
  refine g_callSv (pc := 5) (Y' := mJ7_fill_53178) (As := [rv Z 10 0, iv 0]) (st := []) (c_fill K.2.1 (k := 10) (i := 0) (n := 24) (v := 0) (show 0 < 1 by omega) (fun _ => rfl) (by decide)) gX0_clear_J7_fill_53178 rfl (na := 2) rfl (by decide +kernel) (by decide) (by decide) (Nat.le_of_ble_eq_true rfl) dX0_clear_5 (fun g1 hp => ?_)
  obtain ⟨-, rfl⟩ := hp
  refine g_aload_n (pc := 8) dX0_clear_8 rfl ?_
  refine g_iload_n (pc := 9) dX0_clear_9 rfl ?_
  refine fp_X0_clear_21 (pc := 10) dX0_clear_10 ?_
  refine g_aload_n (pc := 13) dX0_clear_13 rfl ?_
  refine g_iconst (pc := 14) (v := 0) dX0_clear_14 (by decide +kernel) ?_
  refine fp_X0_clear_25 (pc := 15) dX0_clear_15 ?_
  exact g_ret (pc := 18) dX0_clear_18 trivial ⟨rfl, rfl⟩
/-- X4_canal(r4.0, 2) at mg_z -/
theorem qc2 (l : Launch) {Z : mg_Zt} : mg_C l Z mX4_canal [rv Z 4 0, iv 2] mg_z (fun v g' => v = some 0 ∧ g' = qcs3) := by
  refine mg_C.of (by decide) rfl (Nat.le_of_ble_eq_true rfl) (List.forall_mem_cons.mpr ⟨rfl, (List.forall_mem_cons.mpr ⟨rfl, (fun _ h => nomatch h)⟩)⟩) (fun K => ?_)
  refine g_iload_n (pc := 0) dX4_canal_0 rfl ?_
  refine g_iconst (pc := 1) (v := 2) dX4_canal_1 (by decide +kernel) ?_
  refine g_icmp_lt (pc := 2) 11 dX4_canal_2 (by decide) (by decide) (by decide) (fun h => absurd h (by decide)) (fun _ => ?_)
  refine g_iload_n (pc := 5) dX4_canal_5 rfl ?_
  refine g_bipush (pc := 6) (v := 24) dX4_canal_6 (by decide +kernel) ?_
  refine g_icmp_le (pc := 8) 13 dX4_canal_8 (by decide) (by decide) (by decide) (fun _ => ?_) (fun h => absurd (by decide) h)
  refine g_aload_n (pc := 13) dX4_canal_13 rfl ?_
  refine g_iconst (pc := 14) (v := 0) dX4_canal_14 (by decide +kernel) ?_
  refine fp_X4_canal_55 (pc := 15) (by decide) dX4_canal_15 ?_
  refine g_aload_n (pc := 18) dX4_canal_18 rfl ?_
  refine fg_X4_canal_10 (pc := 19) dX4_canal_19 ?_
  refine g_iload_n (pc := 22) dX4_canal_22 rfl ?_
  refine g_callVv (pc := 23) (Y' := mX0_clear) (As := [iv 2]) (st := []) (k := 0) (i := 0) (qc1 K.2.1) gX4_canal_X0_clear rfl (show 0 < 1 by omega) rfl rfl (na := 1) rfl (by decide +kernel) (by decide) (by decide) (Nat.le_of_ble_eq_true rfl) dX4_canal_23 (fun g1 hp => ?_)
  obtain ⟨-, rfl⟩ := hp
  refine g_iconst (pc := 26) (v := 0) dX4_canal_26 (by decide +kernel) ?_
  exact g_iret (pc := 27) dX4_canal_27 ⟨mg_narI _, Or.inl rfl⟩ ⟨rfl, rfl⟩
/-- X0_has(r0.0, 0) at qcs3 -/
theorem qc3 (l : Launch) {Z : mg_Zt} : mg_C l Z mX0_has [rv Z 0 0, iv 0] qcs3 (fun v g' => v = some 1 ∧ g' = qcs3) := by
  refine mg_C.of (by decide) rfl (Nat.le_of_ble_eq_true rfl) (List.forall_mem_cons.mpr ⟨rfl, (List.forall_mem_cons.mpr ⟨rfl, (fun _ h => nomatch h)⟩)⟩) (fun K => ?_)
  refine g_iload_n (pc := 0) dX0_has_0 rfl ?_
  refine g_sif_lt (pc := 1) 16 dX0_has_1 (by decide) (by decide) (fun h => absurd h (by decide)) (fun _ => ?_)
  refine g_iload_n (pc := 4) dX0_has_4 rfl ?_
  refine g_aload_n (pc := 5) dX0_has_5 rfl ?_
  refine fg_X0_has_21 (pc := 6) dX0_has_6 ?_
  refine g_top (b := 2) (by decide +kernel) ?_
  refine g_icmp_ge (pc := 9) 16 dX0_has_9 (by decide) (by decide) (by decide) (fun h => absurd h (by decide)) (fun _ => ?_)
  refine g_iconst (pc := 12) (v := 1) dX0_has_12 (by decide +kernel) ?_
  refine g_goto (pc := 13) 17 dX0_has_13 (by decide) ?_
  exact g_iret (pc := 17) dX0_has_17 ⟨mg_narZ (by decide), Or.inr rfl⟩ ⟨rfl, rfl⟩
/-- X0_has(r0.0, 1) at qcs3 -/
theorem qc4 (l : Launch) {Z : mg_Zt} : mg_C l Z mX0_has [rv Z 0 0, iv 1] qcs3 (fun v g' => v = some 1 ∧ g' = qcs3) := by
  refine mg_C.of (by decide) rfl (Nat.le_of_ble_eq_true rfl) (List.forall_mem_cons.mpr ⟨rfl, (List.forall_mem_cons.mpr ⟨rfl, (fun _ h => nomatch h)⟩)⟩) (fun K => ?_)
  refine g_iload_n (pc := 0) dX0_has_0 rfl ?_
  refine g_sif_lt (pc := 1) 16 dX0_has_1 (by decide) (by decide) (fun h => absurd h (by decide)) (fun _ => ?_)
  refine g_iload_n (pc := 4) dX0_has_4 rfl ?_
  refine g_aload_n (pc := 5) dX0_has_5 rfl ?_
  refine fg_X0_has_21 (pc := 6) dX0_has_6 ?_
  refine g_top (b := 2) (by decide +kernel) ?_
  refine g_icmp_ge (pc := 9) 16 dX0_has_9 (by decide) (by decide) (by decide) (fun h => absurd h (by decide)) (fun _ => ?_)
  refine g_iconst (pc := 12) (v := 1) dX0_has_12 (by decide +kernel) ?_
  refine g_goto (pc := 13) 17 dX0_has_13 (by decide) ?_
  exact g_iret (pc := 17) dX0_has_17 ⟨mg_narZ (by decide), Or.inr rfl⟩ ⟨rfl, rfl⟩
/-- X4_contains(1, 0) at qcs3 -/
theorem qc5 (l : Launch) {Z : mg_Zt} : mg_C l Z mX4_contains [iv 1, iv 0] qcs3 (fun v g' => v = some 1 ∧ g' = qcs3) := by
  refine mg_C.of (by decide) rfl (Nat.le_of_ble_eq_true rfl) (List.forall_mem_cons.mpr ⟨rfl, (List.forall_mem_cons.mpr ⟨rfl, (fun _ h => nomatch h)⟩)⟩) (fun K => ?_)
  refine g_iload_n (pc := 0) dX4_contains_0 rfl ?_
  refine g_iconst (pc := 1) (v := 1) dX4_contains_1 (by decide +kernel) ?_
  refine g_iload_n (pc := 2) dX4_contains_2 rfl ?_
  refine g_ishl (pc := 3) (by decide) dX4_contains_3 ?_
  refine g_top (b := 1) (by decide +kernel) ?_
  refine g_iand (pc := 4) dX4_contains_4 ?_
  refine g_top (b := 1) (by decide +kernel) ?_
  refine g_if_eq (pc := 5) 12 dX4_contains_5 (by decide) (by decide) (fun h => absurd h (by decide)) (fun _ => ?_)
  refine g_iconst (pc := 8) (v := 1) dX4_contains_8 (by decide +kernel) ?_
  refine g_goto (pc := 9) 13 dX4_contains_9 (by decide) ?_
  exact g_iret (pc := 13) dX4_contains_13 ⟨mg_narZ (by decide), Or.inr rfl⟩ ⟨rfl, rfl⟩
/-- X4_contains(1, 1) at qcs3 -/
theorem qc6 (l : Launch) {Z : mg_Zt} : mg_C l Z mX4_contains [iv 1, iv 1] qcs3 (fun v g' => v = some 0 ∧ g' = qcs3) := by
  refine mg_C.of (by decide) rfl (Nat.le_of_ble_eq_true rfl) (List.forall_mem_cons.mpr ⟨rfl, (List.forall_mem_cons.mpr ⟨rfl, (fun _ h => nomatch h)⟩)⟩) (fun K => ?_)
  refine g_iload_n (pc := 0) dX4_contains_0 rfl ?_
  refine g_iconst (pc := 1) (v := 1) dX4_contains_1 (by decide +kernel) ?_
  refine g_iload_n (pc := 2) dX4_contains_2 rfl ?_
  refine g_ishl (pc := 3) (by decide) dX4_contains_3 ?_
  refine g_top (b := 2) (by decide +kernel) ?_
  refine g_iand (pc := 4) dX4_contains_4 ?_
  refine g_top (b := 0) (by decide +kernel) ?_
  refine g_if_eq (pc := 5) 12 dX4_contains_5 (by decide) (by decide) (fun _ => ?_) (fun h => absurd (by decide) h)
  refine g_iconst (pc := 12) (v := 0) dX4_contains_12 (by decide +kernel) ?_
  exact g_iret (pc := 13) dX4_contains_13 ⟨mg_narZ (by decide), Or.inr rfl⟩ ⟨rfl, rfl⟩
/-- X0_partOf(r0.0, 0) at qcs3 -/
theorem qc7 (l : Launch) {Z : mg_Zt} : mg_C l Z mX0_partOf [rv Z 0 0, iv 0] qcs3 (fun v g' => v = some 1 ∧ g' = qcs3) := by
  refine mg_C.of (by decide) rfl (Nat.le_of_ble_eq_true rfl) (List.forall_mem_cons.mpr ⟨rfl, (List.forall_mem_cons.mpr ⟨rfl, (fun _ h => nomatch h)⟩)⟩) (fun K => ?_)
  refine g_iconst (pc := 0) (v := 1) dX0_partOf_0 (by decide +kernel) ?_
  refine g_iload_n (pc := 1) dX0_partOf_1 rfl ?_
  refine g_ishl (pc := 2) (by decide) dX0_partOf_2 ?_
  refine g_top (b := 1) (by decide +kernel) ?_
  refine g_istore_n (pc := 3) (ls' := [rv Z 0 0, iv 0, iv 1]) dX0_partOf_3 (Nat.le_of_ble_eq_true rfl) (Nat.le_of_ble_eq_true rfl) rfl ?_
  refine g_iconst (pc := 4) (v := 1) dX0_partOf_4 (by decide +kernel) ?_
  refine g_istore_n (pc := 5) (ls' := [rv Z 0 0, iv 0, iv 1, iv 1]) dX0_partOf_5 (Nat.le_of_ble_eq_true rfl) (Nat.le_of_ble_eq_true rfl) rfl ?_
  refine g_iload_n (pc := 6) dX0_partOf_6 rfl ?_
  refine g_aload_n (pc := 7) dX0_partOf_7 rfl ?_
  refine fg_X0_partOf_21 (pc := 8) dX0_partOf_8 ?_
  refine g_top (b := 2) (by decide +kernel) ?_
  refine g_icmp_ge (pc := 11) 57 dX0_partOf_11 (by decide) (by decide) (by decide) (fun h => absurd h (by decide)) (fun _ => ?_)
  refine g_iconst (pc := 14) (v := 0) dX0_partOf_14 (by decide +kernel) ?_
  refine g_istore (pc := 15) (ls' := [rv Z 0 0, iv 0, iv 1, iv 1, iv 0]) dX0_partOf_15 (Nat.le_of_ble_eq_true rfl) (Nat.le_of_ble_eq_true rfl) rfl ?_
  refine g_iload (pc := 17) dX0_partOf_17 rfl ?_
  refine g_aload_n (pc := 19) dX0_partOf_19 rfl ?_
  refine fg_X0_partOf_21 (pc := 20) dX0_partOf_20 ?_
  refine g_top (b := 2) (by decide +kernel) ?_
  refine g_icmp_ge (pc := 23) 51 dX0_partOf_23 (by decide) (by decide) (by decide) (fun h => absurd h (by decide)) (fun _ => ?_)
  refine g_iload_n (pc := 26) dX0_partOf_26 rfl ?_
  refine g_iload (pc := 27) dX0_partOf_27 rfl ?_
  refine g_callNi (pc := 29) (Y' := mX4_contains) (As := [iv 1, iv 0]) (st := []) (qc5 K.2.1) gX0_partOf_X4_contains_n28 rfl (fun _ h => h.2.2.1) (by decide +kernel) (by decide +kernel) (na := 2) rfl (by decide +kernel) (by decide) (by decide) (Nat.le_of_ble_eq_true rfl) dX0_partOf_29 (fun r1 g1 hp => ?_)
  obtain ⟨h1, rfl⟩ := hp
  cases h1
  refine g_if_eq (pc := 32) 45 dX0_partOf_32 (by decide) (by decide) (fun h => absurd h (by decide)) (fun _ => ?_)
  refine g_iload_n (pc := 35) dX0_partOf_35 rfl ?_
  refine g_aload_n (pc := 36) dX0_partOf_36 rfl ?_
  refine fg_X0_partOf_9 (pc := 37) dX0_partOf_37 ?_
  refine g_iload (pc := 40) dX0_partOf_40 rfl ?_
  refine g_iaload (pc := 42) (k := 10) (i := 0) (n := 24) (show 0 < 1 by omega) rfl (by decide) (by decide) dX0_partOf_42 ?_
  refine g_top (b := 0) (by decide +kernel) ?_
  refine g_ior (pc := 43) dX0_partOf_43 ?_
  refine g_top (b := 1) (by decide +kernel) ?_
  refine g_istore_n (pc := 44) (ls' := [rv Z 0 0, iv 0, iv 1, iv 1, iv 0]) dX0_partOf_44 (Nat.le_of_ble_eq_true rfl) (Nat.le_of_ble_eq_true rfl) rfl ?_
  refine g_iinc (pc := 45) (v := 1) (ls' := [rv Z 0 0, iv 0, iv 1, iv 1, iv 1]) dX0_partOf_45 (Nat.le_of_ble_eq_true rfl) rfl (by decide +kernel) rfl ?_
  refine g_goto (pc := 48) 17 dX0_partOf_48 (by decide) ?_
  refine g_iload (pc := 17) dX0_partOf_17 rfl ?_
  refine g_aload_n (pc := 19) dX0_partOf_19 rfl ?_
  refine fg_X0_partOf_21 (pc := 20) dX0_partOf_20 ?_
  refine g_top (b := 2) (by decide +kernel) ?_
  refine g_icmp_ge (pc := 23) 51 dX0_partOf_23 (by decide) (by decide) (by decide) (fun h => absurd h (by decide)) (fun _ => ?_)
  refine g_iload_n (pc := 26) dX0_partOf_26 rfl ?_
  refine g_iload (pc := 27) dX0_partOf_27 rfl ?_
  refine g_callNi (pc := 29) (Y' := mX4_contains) (As := [iv 1, iv 1]) (st := []) (qc6 K.2.1) gX0_partOf_X4_contains_n28 rfl (fun _ h => h.2.2.1) (by decide +kernel) (by decide +kernel) (na := 2) rfl (by decide +kernel) (by decide) (by decide) (Nat.le_of_ble_eq_true rfl) dX0_partOf_29 (fun r1 g1 hp => ?_)
  obtain ⟨h1, rfl⟩ := hp
  cases h1
  refine g_if_eq (pc := 32) 45 dX0_partOf_32 (by decide) (by decide) (fun _ => ?_) (fun h => absurd (by decide) h)
  refine g_iinc (pc := 45) (v := 2) (ls' := [rv Z 0 0, iv 0, iv 1, iv 1, iv 2]) dX0_partOf_45 (Nat.le_of_ble_eq_true rfl) rfl (by decide +kernel) rfl ?_
  refine g_goto (pc := 48) 17 dX0_partOf_48 (by decide) ?_
  refine g_iload (pc := 17) dX0_partOf_17 rfl ?_
  refine g_aload_n (pc := 19) dX0_partOf_19 rfl ?_
  refine fg_X0_partOf_21 (pc := 20) dX0_partOf_20 ?_
  refine g_top (b := 2) (by decide +kernel) ?_
  refine g_icmp_ge (pc := 23) 51 dX0_partOf_23 (by decide) (by decide) (by decide) (fun _ => ?_) (fun h => absurd (by decide) h)
  refine g_iinc (pc := 51) (v := 2) (ls' := [rv Z 0 0, iv 0, iv 1, iv 2, iv 2]) dX0_partOf_51 (Nat.le_of_ble_eq_true rfl) rfl (by decide +kernel) rfl ?_
  refine g_goto (pc := 54) 6 dX0_partOf_54 (by decide) ?_
  refine g_iload_n (pc := 6) dX0_partOf_6 rfl ?_
  refine g_aload_n (pc := 7) dX0_partOf_7 rfl ?_
  refine fg_X0_partOf_21 (pc := 8) dX0_partOf_8 ?_
  refine g_top (b := 2) (by decide +kernel) ?_
  refine g_icmp_ge (pc := 11) 57 dX0_partOf_11 (by decide) (by decide) (by decide) (fun _ => ?_) (fun h => absurd (by decide) h)
  refine g_iload_n (pc := 57) dX0_partOf_57 rfl ?_
  exact g_iret (pc := 58) dX0_partOf_58 ⟨mg_narI _, Or.inl rfl⟩ ⟨rfl, rfl⟩
def qcs4 : mg_F := mg_up (mg_up (mg_up (qcs3) 10 0 0 2) 10 0 1 1) 0 0 2 1
/-- X0_tie(r0.0, 0, 1) at qcs3 -/
theorem qc8 (l : Launch) {Z : mg_Zt} : mg_C l Z mX0_tie [rv Z 0 0, iv 0, iv 1] qcs3 (fun v g' => v = none ∧ g' = qcs4) := by
  refine mg_C.of (by decide) rfl (Nat.le_of_ble_eq_true rfl) (List.forall_mem_cons.mpr ⟨rfl, (List.forall_mem_cons.mpr ⟨rfl, (List.forall_mem_cons.mpr ⟨rfl, (fun _ h => nomatch h)⟩)⟩)⟩) (fun K => ?_)
  refine g_aload_n (pc := 0) dX0_tie_0 rfl ?_
  refine fg_X0_tie_9 (pc := 1) dX0_tie_1 ?_
  refine g_iload_n (pc := 4) dX0_tie_4 rfl ?_
  refine g_dup2 (pc := 5) dX0_tie_5 rfl rfl ?_
  refine g_iaload (pc := 6) (k := 10) (i := 0) (n := 24) (show 0 < 1 by omega) rfl (by decide) (by decide) dX0_tie_6 ?_
  refine g_top (b := 0) (by decide +kernel) ?_
  refine g_iconst (pc := 7) (v := 1) dX0_tie_7 (by decide +kernel) ?_
  refine g_iload_n (pc := 8) dX0_tie_8 rfl ?_
  refine g_ishl (pc := 9) (by decide) dX0_tie_9 ?_
  refine g_top (b := 2) (by decide +kernel) ?_
  refine g_ior (pc := 10) dX0_tie_10 ?_
  refine g_top (b := 2) (by decide +kernel) ?_
  refine g_iastore (pc := 11) (k := 10) (i := 0) (n := 24) (show 0 < 1 by omega) (fun _ => rfl) (by decide) (by decide) dX0_tie_11 ?_
  refine g_aload_n (pc := 12) dX0_tie_12 rfl ?_
  refine fg_X0_tie_9 (pc := 13) dX0_tie_13 ?_
  refine g_iload_n (pc := 16) dX0_tie_16 rfl ?_
  refine g_dup2 (pc := 17) dX0_tie_17 rfl rfl ?_
  refine g_iaload (pc := 18) (k := 10) (i := 0) (n := 24) (show 0 < 1 by omega) rfl (by decide) (by decide) dX0_tie_18 ?_
  refine g_top (b := 0) (by decide +kernel) ?_
  refine g_iconst (pc := 19) (v := 1) dX0_tie_19 (by decide +kernel) ?_
  refine g_iload_n (pc := 20) dX0_tie_20 rfl ?_
  refine g_ishl (pc := 21) (by decide) dX0_tie_21 ?_
  refine g_top (b := 1) (by decide +kernel) ?_
  refine g_ior (pc := 22) dX0_tie_22 ?_
  refine g_top (b := 1) (by decide +kernel) ?_
  refine g_iastore (pc := 23) (k := 10) (i := 0) (n := 24) (show 0 < 1 by omega) (fun _ => rfl) (by decide) (by decide) dX0_tie_23 ?_
  refine g_aload_n (pc := 24) dX0_tie_24 rfl ?_
  refine g_dup (pc := 25) dX0_tie_25 rfl ?_
  refine fg_X0_tie_25 (pc := 26) dX0_tie_26 ?_
  refine g_top (b := 0) (by decide +kernel) ?_
  refine g_iconst (pc := 29) (v := 1) dX0_tie_29 (by decide +kernel) ?_
  refine g_iadd (pc := 30) dX0_tie_30 ?_
  refine g_top (b := 1) (by decide +kernel) ?_
  refine fp_X0_tie_25 (pc := 31) dX0_tie_31 ?_
  exact g_ret (pc := 34) dX0_tie_34 trivial ⟨rfl, rfl⟩
/-- X4_link(r4.0, 0, 1) at qcs3 -/
theorem qc9 (l : Launch) {Z : mg_Zt} : mg_C l Z mX4_link [rv Z 4 0, iv 0, iv 1] qcs3 (fun v g' => v = some 1 ∧ g' = qcs4) := by
  refine mg_C.of (by decide) rfl (Nat.le_of_ble_eq_true rfl) (List.forall_mem_cons.mpr ⟨rfl, (List.forall_mem_cons.mpr ⟨rfl, (List.forall_mem_cons.mpr ⟨rfl, (fun _ h => nomatch h)⟩)⟩)⟩) (fun K => ?_)
  refine g_aload_n (pc := 0) dX4_link_0 rfl ?_
  refine fg_X4_link_55 (pc := 1) dX4_link_1 ?_
  refine g_top (b := 0) (by decide +kernel) ?_
  refine g_if_ne (pc := 4) 44 dX4_link_4 (by decide) (by decide) (fun h => absurd (by decide) h) (fun _ => ?_)
  refine g_aload_n (pc := 7) dX4_link_7 rfl ?_
  refine fg_X4_link_10 (pc := 8) dX4_link_8 ?_
  refine g_iload_n (pc := 11) dX4_link_11 rfl ?_
  refine g_callVi (pc := 12) (Y' := mX0_has) (As := [iv 0]) (st := []) (k := 0) (i := 0) (qc3 K.2.1) gX4_link_X0_has rfl (show 0 < 1 by omega) rfl rfl (na := 1) rfl (by decide +kernel) (by decide) (by decide) (Nat.le_of_ble_eq_true rfl) dX4_link_12 (fun r1 g1 hp => ?_)
  obtain ⟨h1, rfl⟩ := hp
  cases h1
  refine g_if_eq (pc := 15) 44 dX4_link_15 (by decide) (by decide) (fun h => absurd h (by decide)) (fun _ => ?_)
  refine g_aload_n (pc := 18) dX4_link_18 rfl ?_
  refine fg_X4_link_10 (pc := 19) dX4_link_19 ?_
  refine g_iload_n (pc := 22) dX4_link_22 rfl ?_
  refine g_callVi (pc := 23) (Y' := mX0_has) (As := [iv 1]) (st := []) (k := 0) (i := 0) (qc4 K.2.1) gX4_link_X0_has rfl (show 0 < 1 by omega) rfl rfl (na := 1) rfl (by decide +kernel) (by decide) (by decide) (Nat.le_of_ble_eq_true rfl) dX4_link_23 (fun r1 g1 hp => ?_)
  obtain ⟨h1, rfl⟩ := hp
  cases h1
  refine g_if_eq (pc := 26) 44 dX4_link_26 (by decide) (by decide) (fun h => absurd h (by decide)) (fun _ => ?_)
  refine g_aload_n (pc := 29) dX4_link_29 rfl ?_
  refine fg_X4_link_10 (pc := 30) dX4_link_30 ?_
  refine g_iload_n (pc := 33) dX4_link_33 rfl ?_
  refine g_callVi (pc := 34) (Y' := mX0_partOf) (As := [iv 0]) (st := []) (k := 0) (i := 0) (qc7 K.2.1) gX4_link_X0_partOf rfl (show 0 < 1 by omega) rfl rfl (na := 1) rfl (by decide +kernel) (by decide) (by decide) (Nat.le_of_ble_eq_true rfl) dX4_link_34 (fun r1 g1 hp => ?_)
  obtain ⟨h1, rfl⟩ := hp
  cases h1
  refine g_iload_n (pc := 37) dX4_link_37 rfl ?_
  refine g_callSi (pc := 38) (Y' := mX4_contains) (As := [iv 1, iv 1]) (st := []) (qc6 K.2.1) gX4_link_X4_contains rfl (na := 2) rfl (by decide +kernel) (by decide) (by decide) (Nat.le_of_ble_eq_true rfl) dX4_link_38 (fun r1 g1 hp => ?_)
  obtain ⟨h1, rfl⟩ := hp
  cases h1
  refine g_if_eq (pc := 41) 46 dX4_link_41 (by decide) (by decide) (fun _ => ?_) (fun h => absurd (by decide) h)
  refine g_aload_n (pc := 46) dX4_link_46 rfl ?_
  refine fg_X4_link_10 (pc := 47) dX4_link_47 ?_
  refine g_iload_n (pc := 50) dX4_link_50 rfl ?_
  refine g_iload_n (pc := 51) dX4_link_51 rfl ?_
  refine g_callVv (pc := 52) (Y' := mX0_tie) (As := [iv 0, iv 1]) (st := []) (k := 0) (i := 0) (qc8 K.2.1) gX4_link_X0_tie rfl (show 0 < 1 by omega) rfl rfl (na := 2) rfl (by decide +kernel) (by decide) (by decide) (Nat.le_of_ble_eq_true rfl) dX4_link_52 (fun g1 hp => ?_)
  obtain ⟨-, rfl⟩ := hp
  refine g_aload_n (pc := 55) dX4_link_55 rfl ?_
  refine fg_X4_link_10 (pc := 56) dX4_link_56 ?_
  refine fg_X4_link_77 (pc := 59) dX4_link_59 ?_
  refine g_top (b := 1) (by decide +kernel) ?_
  exact g_iret (pc := 62) dX4_link_62 ⟨mg_narI _, Or.inl rfl⟩ ⟨rfl, rfl⟩
/-- X0_has(r0.0, 0) at qcs4 -/
theorem qc10 (l : Launch) {Z : mg_Zt} : mg_C l Z mX0_has [rv Z 0 0, iv 0] qcs4 (fun v g' => v = some 1 ∧ g' = qcs4) := by
  refine mg_C.of (by decide) rfl (Nat.le_of_ble_eq_true rfl) (List.forall_mem_cons.mpr ⟨rfl, (List.forall_mem_cons.mpr ⟨rfl, (fun _ h => nomatch h)⟩)⟩) (fun K => ?_)
  refine g_iload_n (pc := 0) dX0_has_0 rfl ?_
  refine g_sif_lt (pc := 1) 16 dX0_has_1 (by decide) (by decide) (fun h => absurd h (by decide)) (fun _ => ?_)
  refine g_iload_n (pc := 4) dX0_has_4 rfl ?_
  refine g_aload_n (pc := 5) dX0_has_5 rfl ?_
  refine fg_X0_has_21 (pc := 6) dX0_has_6 ?_
  refine g_top (b := 2) (by decide +kernel) ?_
  refine g_icmp_ge (pc := 9) 16 dX0_has_9 (by decide) (by decide) (by decide) (fun h => absurd h (by decide)) (fun _ => ?_)
  refine g_iconst (pc := 12) (v := 1) dX0_has_12 (by decide +kernel) ?_
  refine g_goto (pc := 13) 17 dX0_has_13 (by decide) ?_
  exact g_iret (pc := 17) dX0_has_17 ⟨mg_narZ (by decide), Or.inr rfl⟩ ⟨rfl, rfl⟩
/-- X0_parts(r0.0) at qcs4 -/
theorem qc11 (l : Launch) {Z : mg_Zt} : mg_C l Z mX0_parts [rv Z 0 0] qcs4 (fun v g' => v = some 1 ∧ g' = qcs4) := by
  refine mg_C.of (by decide) rfl (Nat.le_of_ble_eq_true rfl) (List.forall_mem_cons.mpr ⟨rfl, (fun _ h => nomatch h)⟩) (fun K => ?_)
  refine g_aload_n (pc := 0) dX0_parts_0 rfl ?_
  refine fg_X0_parts_21 (pc := 1) dX0_parts_1 ?_
  refine g_top (b := 2) (by decide +kernel) ?_
  refine g_aload_n (pc := 4) dX0_parts_4 rfl ?_
  refine fg_X0_parts_25 (pc := 5) dX0_parts_5 ?_
  refine g_top (b := 1) (by decide +kernel) ?_
  refine g_isub (pc := 8) (by decide) dX0_parts_8 ?_
  refine g_top (b := 1) (by decide +kernel) ?_
  exact g_iret (pc := 9) dX0_parts_9 ⟨mg_narI _, Or.inl rfl⟩ ⟨rfl, rfl⟩
def qcs5 : mg_F := mg_up (mg_up (mg_up (mg_up (mg_up (qcs4) 4 0 7 0) 4 0 8 1) 4 0 9 0) 1 0 5 0) 1 1 5 0
def qcs6 : mg_F := mg_up (mg_up (mg_up (mg_up (mg_up (mg_up (mg_up (mg_up (mg_up (mg_up (mg_up (qcs5) 2 0 2 0) 3 0 2 4294967294) 3 0 3 0) 3 0 4 0) 3 0 5 0) 3 0 6 0) 3 0 7 0) 3 0 8 0) 3 0 9 0) 3 0 10 0) 3 0 11 0
/-- X3_clear(r3.0) at qcs5 -/
theorem qc12 (l : Launch) {Z : mg_Zt} : mg_C l Z mX3_clear [rv Z 3 0] qcs5 (fun v g' => v = none ∧ g' = qcs6) := by
  refine mg_C.of (by decide) rfl (Nat.le_of_ble_eq_true rfl) (List.forall_mem_cons.mpr ⟨rfl, (fun _ h => nomatch h)⟩) (fun K => ?_)
  refine g_aload_n (pc := 0) dX3_clear_0 rfl ?_
  refine fg_X3_clear_12 (pc := 1) (show 0 < 24 by omega) dX3_clear_1 ?_
  refine g_iconst (pc := 4) (v := 0) dX3_clear_4 (by decide +kernel) ?_
  refine fp_X3_clear_22 (pc := 5) (show 0 < 24 by omega) dX3_clear_5 ?_
  refine g_aload_n (pc := 8) dX3_clear_8 rfl ?_
  refine g_bipush (pc := 9) (v := 4294967294) dX3_clear_9 (by decide +kernel) ?_
  refine fp_X3_clear_25 (pc := 11) (show 0 < 24 by omega) dX3_clear_11 ?_
  refine g_aload_n (pc := 14) dX3_clear_14 rfl ?_
  refine g_iconst (pc := 15) (v := 0) dX3_clear_15 (by decide +kernel) ?_
  refine fp_X3_clear_28 (pc := 16) (show 0 < 24 by omega) (by decide) dX3_clear_16 ?_
  refine g_aload_n (pc := 19) dX3_clear_19 rfl ?_
  refine g_iconst (pc := 20) (v := 0) dX3_clear_20 (by decide +kernel) ?_
  refine fp_X3_clear_32 (pc := 21) (show 0 < 24 by omega) dX3_clear_21 ?_
  refine g_aload_n (pc := 24) dX3_clear_24 rfl ?_
  refine g_iconst (pc := 25) (v := 0) dX3_clear_25 (by decide +kernel) ?_
  refine fp_X3_clear_35 (pc := 26) (show 0 < 24 by omega) (by decide) dX3_clear_26 ?_
  refine g_aload_n (pc := 29) dX3_clear_29 rfl ?_
  refine g_iconst (pc := 30) (v := 0) dX3_clear_30 (by decide +kernel) ?_
  refine fp_X3_clear_38 (pc := 31) (show 0 < 24 by omega) (by decide) dX3_clear_31 ?_
  refine g_aload_n (pc := 34) dX3_clear_34 rfl ?_
  refine g_iconst (pc := 35) (v := 0) dX3_clear_35 (by decide +kernel) ?_
  refine fp_X3_clear_41 (pc := 36) (show 0 < 24 by omega) dX3_clear_36 ?_
  refine g_aload_n (pc := 39) dX3_clear_39 rfl ?_
  refine g_iconst (pc := 40) (v := 0) dX3_clear_40 (by decide +kernel) ?_
  refine fp_X3_clear_44 (pc := 41) (show 0 < 24 by omega) dX3_clear_41 ?_
  refine g_aload_n (pc := 44) dX3_clear_44 rfl ?_
  refine g_iconst (pc := 45) (v := 0) dX3_clear_45 (by decide +kernel) ?_
  refine fp_X3_clear_47 (pc := 46) (show 0 < 24 by omega) (by decide) dX3_clear_46 ?_
  refine g_aload_n (pc := 49) dX3_clear_49 rfl ?_
  refine g_iconst (pc := 50) (v := 0) dX3_clear_50 (by decide +kernel) ?_
  refine fp_X3_clear_50 (pc := 51) (show 0 < 24 by omega) dX3_clear_51 ?_
  refine g_aload_n (pc := 54) dX3_clear_54 rfl ?_
  refine g_iconst (pc := 55) (v := 0) dX3_clear_55 (by decide +kernel) ?_
  refine fp_X3_clear_53 (pc := 56) (show 0 < 24 by omega) dX3_clear_56 ?_
  exact g_ret (pc := 59) dX3_clear_59 trivial ⟨rfl, rfl⟩
def qcs7 : mg_F := mg_upr qcs6 21 0 (mg_fl (qcs6 21 0) 24 0)
def qcs8 : mg_F := mg_upr qcs7 22 0 (mg_fl (qcs7 22 0) 24 0)
def qcs9 : mg_F := mg_up (mg_up (mg_up (mg_up (mg_up (mg_up (mg_up (mg_up (mg_up (mg_up (mg_up (qcs8) 2 1 2 0) 3 1 2 4294967294) 3 1 3 0) 3 1 4 0) 3 1 5 0) 3 1 6 0) 3 1 7 0) 3 1 8 0) 3 1 9 0) 3 1 10 0) 3 1 11 0
/-- X3_clear(r3.1) at qcs8 -/
theorem qc13 (l : Launch) {Z : mg_Zt} : mg_C l Z mX3_clear [rv Z 3 1] qcs8 (fun v g' => v = none ∧ g' = qcs9) := by
  refine mg_C.of (by decide) rfl (Nat.le_of_ble_eq_true rfl) (List.forall_mem_cons.mpr ⟨rfl, (fun _ h => nomatch h)⟩) (fun K => ?_)
  refine g_aload_n (pc := 0) dX3_clear_0 rfl ?_
  refine fg_X3_clear_12 (pc := 1) (show 1 < 24 by omega) dX3_clear_1 ?_
  refine g_iconst (pc := 4) (v := 0) dX3_clear_4 (by decide +kernel) ?_
  refine fp_X3_clear_22 (pc := 5) (show 1 < 24 by omega) dX3_clear_5 ?_
  refine g_aload_n (pc := 8) dX3_clear_8 rfl ?_
  refine g_bipush (pc := 9) (v := 4294967294) dX3_clear_9 (by decide +kernel) ?_
  refine fp_X3_clear_25 (pc := 11) (show 1 < 24 by omega) dX3_clear_11 ?_
  refine g_aload_n (pc := 14) dX3_clear_14 rfl ?_
  refine g_iconst (pc := 15) (v := 0) dX3_clear_15 (by decide +kernel) ?_
  refine fp_X3_clear_28 (pc := 16) (show 1 < 24 by omega) (by decide) dX3_clear_16 ?_
  refine g_aload_n (pc := 19) dX3_clear_19 rfl ?_
  refine g_iconst (pc := 20) (v := 0) dX3_clear_20 (by decide +kernel) ?_
  refine fp_X3_clear_32 (pc := 21) (show 1 < 24 by omega) dX3_clear_21 ?_
  refine g_aload_n (pc := 24) dX3_clear_24 rfl ?_
  refine g_iconst (pc := 25) (v := 0) dX3_clear_25 (by decide +kernel) ?_
  refine fp_X3_clear_35 (pc := 26) (show 1 < 24 by omega) (by decide) dX3_clear_26 ?_
  refine g_aload_n (pc := 29) dX3_clear_29 rfl ?_
  refine g_iconst (pc := 30) (v := 0) dX3_clear_30 (by decide +kernel) ?_
  refine fp_X3_clear_38 (pc := 31) (show 1 < 24 by omega) (by decide) dX3_clear_31 ?_
  refine g_aload_n (pc := 34) dX3_clear_34 rfl ?_
  refine g_iconst (pc := 35) (v := 0) dX3_clear_35 (by decide +kernel) ?_
  refine fp_X3_clear_41 (pc := 36) (show 1 < 24 by omega) dX3_clear_36 ?_
  refine g_aload_n (pc := 39) dX3_clear_39 rfl ?_
  refine g_iconst (pc := 40) (v := 0) dX3_clear_40 (by decide +kernel) ?_
  refine fp_X3_clear_44 (pc := 41) (show 1 < 24 by omega) dX3_clear_41 ?_
  refine g_aload_n (pc := 44) dX3_clear_44 rfl ?_
  refine g_iconst (pc := 45) (v := 0) dX3_clear_45 (by decide +kernel) ?_
  refine fp_X3_clear_47 (pc := 46) (show 1 < 24 by omega) (by decide) dX3_clear_46 ?_
  refine g_aload_n (pc := 49) dX3_clear_49 rfl ?_
  refine g_iconst (pc := 50) (v := 0) dX3_clear_50 (by decide +kernel) ?_
  refine fp_X3_clear_50 (pc := 51) (show 1 < 24 by omega) dX3_clear_51 ?_
  refine g_aload_n (pc := 54) dX3_clear_54 rfl ?_
  refine g_iconst (pc := 55) (v := 0) dX3_clear_55 (by decide +kernel) ?_
  refine fp_X3_clear_53 (pc := 56) (show 1 < 24 by omega) dX3_clear_56 ?_
  exact g_ret (pc := 59) dX3_clear_59 trivial ⟨rfl, rfl⟩
def qcs10 : mg_F := mg_upr qcs9 21 1 (mg_fl (qcs9 21 1) 24 0)
def qcs11 : mg_F := mg_upr qcs10 22 1 (mg_fl (qcs10 22 1) 24 0)
def qcs12 : mg_F := mg_up (mg_up (mg_up (mg_up (mg_up (mg_up (mg_up (mg_up (mg_up (mg_up (mg_up (qcs11) 2 2 2 0) 3 2 2 4294967294) 3 2 3 0) 3 2 4 0) 3 2 5 0) 3 2 6 0) 3 2 7 0) 3 2 8 0) 3 2 9 0) 3 2 10 0) 3 2 11 0
/-- X3_clear(r3.2) at qcs11 -/
theorem qc14 (l : Launch) {Z : mg_Zt} : mg_C l Z mX3_clear [rv Z 3 2] qcs11 (fun v g' => v = none ∧ g' = qcs12) := by
  refine mg_C.of (by decide) rfl (Nat.le_of_ble_eq_true rfl) (List.forall_mem_cons.mpr ⟨rfl, (fun _ h => nomatch h)⟩) (fun K => ?_)
  refine g_aload_n (pc := 0) dX3_clear_0 rfl ?_
  refine fg_X3_clear_12 (pc := 1) (show 2 < 24 by omega) dX3_clear_1 ?_
  refine g_iconst (pc := 4) (v := 0) dX3_clear_4 (by decide +kernel) ?_
  refine fp_X3_clear_22 (pc := 5) (show 2 < 24 by omega) dX3_clear_5 ?_
  refine g_aload_n (pc := 8) dX3_clear_8 rfl ?_
  refine g_bipush (pc := 9) (v := 4294967294) dX3_clear_9 (by decide +kernel) ?_
  refine fp_X3_clear_25 (pc := 11) (show 2 < 24 by omega) dX3_clear_11 ?_
  refine g_aload_n (pc := 14) dX3_clear_14 rfl ?_
  refine g_iconst (pc := 15) (v := 0) dX3_clear_15 (by decide +kernel) ?_
  refine fp_X3_clear_28 (pc := 16) (show 2 < 24 by omega) (by decide) dX3_clear_16 ?_
  refine g_aload_n (pc := 19) dX3_clear_19 rfl ?_
  refine g_iconst (pc := 20) (v := 0) dX3_clear_20 (by decide +kernel) ?_
  refine fp_X3_clear_32 (pc := 21) (show 2 < 24 by omega) dX3_clear_21 ?_
  refine g_aload_n (pc := 24) dX3_clear_24 rfl ?_
  refine g_iconst (pc := 25) (v := 0) dX3_clear_25 (by decide +kernel) ?_
  refine fp_X3_clear_35 (pc := 26) (show 2 < 24 by omega) (by decide) dX3_clear_26 ?_
  refine g_aload_n (pc := 29) dX3_clear_29 rfl ?_
  refine g_iconst (pc := 30) (v := 0) dX3_clear_30 (by decide +kernel) ?_
  refine fp_X3_clear_38 (pc := 31) (show 2 < 24 by omega) (by decide) dX3_clear_31 ?_
  refine g_aload_n (pc := 34) dX3_clear_34 rfl ?_
  refine g_iconst (pc := 35) (v := 0) dX3_clear_35 (by decide +kernel) ?_
  refine fp_X3_clear_41 (pc := 36) (show 2 < 24 by omega) dX3_clear_36 ?_
  refine g_aload_n (pc := 39) dX3_clear_39 rfl ?_
  refine g_iconst (pc := 40) (v := 0) dX3_clear_40 (by decide +kernel) ?_
  refine fp_X3_clear_44 (pc := 41) (show 2 < 24 by omega) dX3_clear_41 ?_
  refine g_aload_n (pc := 44) dX3_clear_44 rfl ?_
  refine g_iconst (pc := 45) (v := 0) dX3_clear_45 (by decide +kernel) ?_
  refine fp_X3_clear_47 (pc := 46) (show 2 < 24 by omega) (by decide) dX3_clear_46 ?_
  refine g_aload_n (pc := 49) dX3_clear_49 rfl ?_
  refine g_iconst (pc := 50) (v := 0) dX3_clear_50 (by decide +kernel) ?_
  refine fp_X3_clear_50 (pc := 51) (show 2 < 24 by omega) dX3_clear_51 ?_
  refine g_aload_n (pc := 54) dX3_clear_54 rfl ?_
  refine g_iconst (pc := 55) (v := 0) dX3_clear_55 (by decide +kernel) ?_
  refine fp_X3_clear_53 (pc := 56) (show 2 < 24 by omega) dX3_clear_56 ?_
  exact g_ret (pc := 59) dX3_clear_59 trivial ⟨rfl, rfl⟩
def qcs13 : mg_F := mg_upr qcs12 21 2 (mg_fl (qcs12 21 2) 24 0)
def qcs14 : mg_F := mg_upr qcs13 22 2 (mg_fl (qcs13 22 2) 24 0)
def qcs15 : mg_F := mg_up (mg_up (mg_up (mg_up (mg_up (mg_up (mg_up (mg_up (mg_up (mg_up (mg_up (qcs14) 2 3 2 0) 3 3 2 4294967294) 3 3 3 0) 3 3 4 0) 3 3 5 0) 3 3 6 0) 3 3 7 0) 3 3 8 0) 3 3 9 0) 3 3 10 0) 3 3 11 0
/-- X3_clear(r3.3) at qcs14 -/
theorem qc15 (l : Launch) {Z : mg_Zt} : mg_C l Z mX3_clear [rv Z 3 3] qcs14 (fun v g' => v = none ∧ g' = qcs15) := by
  refine mg_C.of (by decide) rfl (Nat.le_of_ble_eq_true rfl) (List.forall_mem_cons.mpr ⟨rfl, (fun _ h => nomatch h)⟩) (fun K => ?_)
  refine g_aload_n (pc := 0) dX3_clear_0 rfl ?_
  refine fg_X3_clear_12 (pc := 1) (show 3 < 24 by omega) dX3_clear_1 ?_
  refine g_iconst (pc := 4) (v := 0) dX3_clear_4 (by decide +kernel) ?_
  refine fp_X3_clear_22 (pc := 5) (show 3 < 24 by omega) dX3_clear_5 ?_
  refine g_aload_n (pc := 8) dX3_clear_8 rfl ?_
  refine g_bipush (pc := 9) (v := 4294967294) dX3_clear_9 (by decide +kernel) ?_
  refine fp_X3_clear_25 (pc := 11) (show 3 < 24 by omega) dX3_clear_11 ?_
  refine g_aload_n (pc := 14) dX3_clear_14 rfl ?_
  refine g_iconst (pc := 15) (v := 0) dX3_clear_15 (by decide +kernel) ?_
  refine fp_X3_clear_28 (pc := 16) (show 3 < 24 by omega) (by decide) dX3_clear_16 ?_
  refine g_aload_n (pc := 19) dX3_clear_19 rfl ?_
  refine g_iconst (pc := 20) (v := 0) dX3_clear_20 (by decide +kernel) ?_
  refine fp_X3_clear_32 (pc := 21) (show 3 < 24 by omega) dX3_clear_21 ?_
  refine g_aload_n (pc := 24) dX3_clear_24 rfl ?_
  refine g_iconst (pc := 25) (v := 0) dX3_clear_25 (by decide +kernel) ?_
  refine fp_X3_clear_35 (pc := 26) (show 3 < 24 by omega) (by decide) dX3_clear_26 ?_
  refine g_aload_n (pc := 29) dX3_clear_29 rfl ?_
  refine g_iconst (pc := 30) (v := 0) dX3_clear_30 (by decide +kernel) ?_
  refine fp_X3_clear_38 (pc := 31) (show 3 < 24 by omega) (by decide) dX3_clear_31 ?_
  refine g_aload_n (pc := 34) dX3_clear_34 rfl ?_
  refine g_iconst (pc := 35) (v := 0) dX3_clear_35 (by decide +kernel) ?_
  refine fp_X3_clear_41 (pc := 36) (show 3 < 24 by omega) dX3_clear_36 ?_
  refine g_aload_n (pc := 39) dX3_clear_39 rfl ?_
  refine g_iconst (pc := 40) (v := 0) dX3_clear_40 (by decide +kernel) ?_
  refine fp_X3_clear_44 (pc := 41) (show 3 < 24 by omega) dX3_clear_41 ?_
  refine g_aload_n (pc := 44) dX3_clear_44 rfl ?_
  refine g_iconst (pc := 45) (v := 0) dX3_clear_45 (by decide +kernel) ?_
  refine fp_X3_clear_47 (pc := 46) (show 3 < 24 by omega) (by decide) dX3_clear_46 ?_
  refine g_aload_n (pc := 49) dX3_clear_49 rfl ?_
  refine g_iconst (pc := 50) (v := 0) dX3_clear_50 (by decide +kernel) ?_
  refine fp_X3_clear_50 (pc := 51) (show 3 < 24 by omega) dX3_clear_51 ?_
  refine g_aload_n (pc := 54) dX3_clear_54 rfl ?_
  refine g_iconst (pc := 55) (v := 0) dX3_clear_55 (by decide +kernel) ?_
  refine fp_X3_clear_53 (pc := 56) (show 3 < 24 by omega) dX3_clear_56 ?_
  exact g_ret (pc := 59) dX3_clear_59 trivial ⟨rfl, rfl⟩
def qcs16 : mg_F := mg_upr qcs15 21 3 (mg_fl (qcs15 21 3) 24 0)
def qcs17 : mg_F := mg_upr qcs16 22 3 (mg_fl (qcs16 22 3) 24 0)
def qcs18 : mg_F := mg_up (mg_up (mg_up (mg_up (mg_up (mg_up (mg_up (mg_up (mg_up (mg_up (mg_up (qcs17) 2 4 2 0) 3 4 2 4294967294) 3 4 3 0) 3 4 4 0) 3 4 5 0) 3 4 6 0) 3 4 7 0) 3 4 8 0) 3 4 9 0) 3 4 10 0) 3 4 11 0
/-- X3_clear(r3.4) at qcs17 -/
theorem qc16 (l : Launch) {Z : mg_Zt} : mg_C l Z mX3_clear [rv Z 3 4] qcs17 (fun v g' => v = none ∧ g' = qcs18) := by
  refine mg_C.of (by decide) rfl (Nat.le_of_ble_eq_true rfl) (List.forall_mem_cons.mpr ⟨rfl, (fun _ h => nomatch h)⟩) (fun K => ?_)
  refine g_aload_n (pc := 0) dX3_clear_0 rfl ?_
  refine fg_X3_clear_12 (pc := 1) (show 4 < 24 by omega) dX3_clear_1 ?_
  refine g_iconst (pc := 4) (v := 0) dX3_clear_4 (by decide +kernel) ?_
  refine fp_X3_clear_22 (pc := 5) (show 4 < 24 by omega) dX3_clear_5 ?_
  refine g_aload_n (pc := 8) dX3_clear_8 rfl ?_
  refine g_bipush (pc := 9) (v := 4294967294) dX3_clear_9 (by decide +kernel) ?_
  refine fp_X3_clear_25 (pc := 11) (show 4 < 24 by omega) dX3_clear_11 ?_
  refine g_aload_n (pc := 14) dX3_clear_14 rfl ?_
  refine g_iconst (pc := 15) (v := 0) dX3_clear_15 (by decide +kernel) ?_
  refine fp_X3_clear_28 (pc := 16) (show 4 < 24 by omega) (by decide) dX3_clear_16 ?_
  refine g_aload_n (pc := 19) dX3_clear_19 rfl ?_
  refine g_iconst (pc := 20) (v := 0) dX3_clear_20 (by decide +kernel) ?_
  refine fp_X3_clear_32 (pc := 21) (show 4 < 24 by omega) dX3_clear_21 ?_
  refine g_aload_n (pc := 24) dX3_clear_24 rfl ?_
  refine g_iconst (pc := 25) (v := 0) dX3_clear_25 (by decide +kernel) ?_
  refine fp_X3_clear_35 (pc := 26) (show 4 < 24 by omega) (by decide) dX3_clear_26 ?_
  refine g_aload_n (pc := 29) dX3_clear_29 rfl ?_
  refine g_iconst (pc := 30) (v := 0) dX3_clear_30 (by decide +kernel) ?_
  refine fp_X3_clear_38 (pc := 31) (show 4 < 24 by omega) (by decide) dX3_clear_31 ?_
  refine g_aload_n (pc := 34) dX3_clear_34 rfl ?_
  refine g_iconst (pc := 35) (v := 0) dX3_clear_35 (by decide +kernel) ?_
  refine fp_X3_clear_41 (pc := 36) (show 4 < 24 by omega) dX3_clear_36 ?_
  refine g_aload_n (pc := 39) dX3_clear_39 rfl ?_
  refine g_iconst (pc := 40) (v := 0) dX3_clear_40 (by decide +kernel) ?_
  refine fp_X3_clear_44 (pc := 41) (show 4 < 24 by omega) dX3_clear_41 ?_
  refine g_aload_n (pc := 44) dX3_clear_44 rfl ?_
  refine g_iconst (pc := 45) (v := 0) dX3_clear_45 (by decide +kernel) ?_
  refine fp_X3_clear_47 (pc := 46) (show 4 < 24 by omega) (by decide) dX3_clear_46 ?_
  refine g_aload_n (pc := 49) dX3_clear_49 rfl ?_
  refine g_iconst (pc := 50) (v := 0) dX3_clear_50 (by decide +kernel) ?_
  refine fp_X3_clear_50 (pc := 51) (show 4 < 24 by omega) dX3_clear_51 ?_
  refine g_aload_n (pc := 54) dX3_clear_54 rfl ?_
  refine g_iconst (pc := 55) (v := 0) dX3_clear_55 (by decide +kernel) ?_
  refine fp_X3_clear_53 (pc := 56) (show 4 < 24 by omega) dX3_clear_56 ?_
  exact g_ret (pc := 59) dX3_clear_59 trivial ⟨rfl, rfl⟩
def qcs19 : mg_F := mg_upr qcs18 21 4 (mg_fl (qcs18 21 4) 24 0)
def qcs20 : mg_F := mg_upr qcs19 22 4 (mg_fl (qcs19 22 4) 24 0)
def qcs21 : mg_F := mg_up (mg_up (mg_up (mg_up (mg_up (mg_up (mg_up (mg_up (mg_up (mg_up (mg_up (qcs20) 2 5 2 0) 3 5 2 4294967294) 3 5 3 0) 3 5 4 0) 3 5 5 0) 3 5 6 0) 3 5 7 0) 3 5 8 0) 3 5 9 0) 3 5 10 0) 3 5 11 0
/-- X3_clear(r3.5) at qcs20 -/
theorem qc17 (l : Launch) {Z : mg_Zt} : mg_C l Z mX3_clear [rv Z 3 5] qcs20 (fun v g' => v = none ∧ g' = qcs21) := by
  refine mg_C.of (by decide) rfl (Nat.le_of_ble_eq_true rfl) (List.forall_mem_cons.mpr ⟨rfl, (fun _ h => nomatch h)⟩) (fun K => ?_)
  refine g_aload_n (pc := 0) dX3_clear_0 rfl ?_
  refine fg_X3_clear_12 (pc := 1) (show 5 < 24 by omega) dX3_clear_1 ?_
  refine g_iconst (pc := 4) (v := 0) dX3_clear_4 (by decide +kernel) ?_
  refine fp_X3_clear_22 (pc := 5) (show 5 < 24 by omega) dX3_clear_5 ?_
  refine g_aload_n (pc := 8) dX3_clear_8 rfl ?_
  refine g_bipush (pc := 9) (v := 4294967294) dX3_clear_9 (by decide +kernel) ?_
  refine fp_X3_clear_25 (pc := 11) (show 5 < 24 by omega) dX3_clear_11 ?_
  refine g_aload_n (pc := 14) dX3_clear_14 rfl ?_
  refine g_iconst (pc := 15) (v := 0) dX3_clear_15 (by decide +kernel) ?_
  refine fp_X3_clear_28 (pc := 16) (show 5 < 24 by omega) (by decide) dX3_clear_16 ?_
  refine g_aload_n (pc := 19) dX3_clear_19 rfl ?_
  refine g_iconst (pc := 20) (v := 0) dX3_clear_20 (by decide +kernel) ?_
  refine fp_X3_clear_32 (pc := 21) (show 5 < 24 by omega) dX3_clear_21 ?_
  refine g_aload_n (pc := 24) dX3_clear_24 rfl ?_
  refine g_iconst (pc := 25) (v := 0) dX3_clear_25 (by decide +kernel) ?_
  refine fp_X3_clear_35 (pc := 26) (show 5 < 24 by omega) (by decide) dX3_clear_26 ?_
  refine g_aload_n (pc := 29) dX3_clear_29 rfl ?_
  refine g_iconst (pc := 30) (v := 0) dX3_clear_30 (by decide +kernel) ?_
  refine fp_X3_clear_38 (pc := 31) (show 5 < 24 by omega) (by decide) dX3_clear_31 ?_
  refine g_aload_n (pc := 34) dX3_clear_34 rfl ?_
  refine g_iconst (pc := 35) (v := 0) dX3_clear_35 (by decide +kernel) ?_
  refine fp_X3_clear_41 (pc := 36) (show 5 < 24 by omega) dX3_clear_36 ?_
  refine g_aload_n (pc := 39) dX3_clear_39 rfl ?_
  refine g_iconst (pc := 40) (v := 0) dX3_clear_40 (by decide +kernel) ?_
  refine fp_X3_clear_44 (pc := 41) (show 5 < 24 by omega) dX3_clear_41 ?_
  refine g_aload_n (pc := 44) dX3_clear_44 rfl ?_
  refine g_iconst (pc := 45) (v := 0) dX3_clear_45 (by decide +kernel) ?_
  refine fp_X3_clear_47 (pc := 46) (show 5 < 24 by omega) (by decide) dX3_clear_46 ?_
  refine g_aload_n (pc := 49) dX3_clear_49 rfl ?_
  refine g_iconst (pc := 50) (v := 0) dX3_clear_50 (by decide +kernel) ?_
  refine fp_X3_clear_50 (pc := 51) (show 5 < 24 by omega) dX3_clear_51 ?_
  refine g_aload_n (pc := 54) dX3_clear_54 rfl ?_
  refine g_iconst (pc := 55) (v := 0) dX3_clear_55 (by decide +kernel) ?_
  refine fp_X3_clear_53 (pc := 56) (show 5 < 24 by omega) dX3_clear_56 ?_
  exact g_ret (pc := 59) dX3_clear_59 trivial ⟨rfl, rfl⟩
def qcs22 : mg_F := mg_upr qcs21 21 5 (mg_fl (qcs21 21 5) 24 0)
def qcs23 : mg_F := mg_upr qcs22 22 5 (mg_fl (qcs22 22 5) 24 0)
def qcs24 : mg_F := mg_up (mg_up (mg_up (mg_up (mg_up (mg_up (mg_up (mg_up (mg_up (mg_up (mg_up (qcs23) 2 6 2 0) 3 6 2 4294967294) 3 6 3 0) 3 6 4 0) 3 6 5 0) 3 6 6 0) 3 6 7 0) 3 6 8 0) 3 6 9 0) 3 6 10 0) 3 6 11 0
/-- X3_clear(r3.6) at qcs23 -/
theorem qc18 (l : Launch) {Z : mg_Zt} : mg_C l Z mX3_clear [rv Z 3 6] qcs23 (fun v g' => v = none ∧ g' = qcs24) := by
  refine mg_C.of (by decide) rfl (Nat.le_of_ble_eq_true rfl) (List.forall_mem_cons.mpr ⟨rfl, (fun _ h => nomatch h)⟩) (fun K => ?_)
  refine g_aload_n (pc := 0) dX3_clear_0 rfl ?_
  refine fg_X3_clear_12 (pc := 1) (show 6 < 24 by omega) dX3_clear_1 ?_
  refine g_iconst (pc := 4) (v := 0) dX3_clear_4 (by decide +kernel) ?_
  refine fp_X3_clear_22 (pc := 5) (show 6 < 24 by omega) dX3_clear_5 ?_
  refine g_aload_n (pc := 8) dX3_clear_8 rfl ?_
  refine g_bipush (pc := 9) (v := 4294967294) dX3_clear_9 (by decide +kernel) ?_
  refine fp_X3_clear_25 (pc := 11) (show 6 < 24 by omega) dX3_clear_11 ?_
  refine g_aload_n (pc := 14) dX3_clear_14 rfl ?_
  refine g_iconst (pc := 15) (v := 0) dX3_clear_15 (by decide +kernel) ?_
  refine fp_X3_clear_28 (pc := 16) (show 6 < 24 by omega) (by decide) dX3_clear_16 ?_
  refine g_aload_n (pc := 19) dX3_clear_19 rfl ?_
  refine g_iconst (pc := 20) (v := 0) dX3_clear_20 (by decide +kernel) ?_
  refine fp_X3_clear_32 (pc := 21) (show 6 < 24 by omega) dX3_clear_21 ?_
  refine g_aload_n (pc := 24) dX3_clear_24 rfl ?_
  refine g_iconst (pc := 25) (v := 0) dX3_clear_25 (by decide +kernel) ?_
  refine fp_X3_clear_35 (pc := 26) (show 6 < 24 by omega) (by decide) dX3_clear_26 ?_
  refine g_aload_n (pc := 29) dX3_clear_29 rfl ?_
  refine g_iconst (pc := 30) (v := 0) dX3_clear_30 (by decide +kernel) ?_
  refine fp_X3_clear_38 (pc := 31) (show 6 < 24 by omega) (by decide) dX3_clear_31 ?_
  refine g_aload_n (pc := 34) dX3_clear_34 rfl ?_
  refine g_iconst (pc := 35) (v := 0) dX3_clear_35 (by decide +kernel) ?_
  refine fp_X3_clear_41 (pc := 36) (show 6 < 24 by omega) dX3_clear_36 ?_
  refine g_aload_n (pc := 39) dX3_clear_39 rfl ?_
  refine g_iconst (pc := 40) (v := 0) dX3_clear_40 (by decide +kernel) ?_
  refine fp_X3_clear_44 (pc := 41) (show 6 < 24 by omega) dX3_clear_41 ?_
  refine g_aload_n (pc := 44) dX3_clear_44 rfl ?_
  refine g_iconst (pc := 45) (v := 0) dX3_clear_45 (by decide +kernel) ?_
  refine fp_X3_clear_47 (pc := 46) (show 6 < 24 by omega) (by decide) dX3_clear_46 ?_
  refine g_aload_n (pc := 49) dX3_clear_49 rfl ?_
  refine g_iconst (pc := 50) (v := 0) dX3_clear_50 (by decide +kernel) ?_
  refine fp_X3_clear_50 (pc := 51) (show 6 < 24 by omega) dX3_clear_51 ?_
  refine g_aload_n (pc := 54) dX3_clear_54 rfl ?_
  refine g_iconst (pc := 55) (v := 0) dX3_clear_55 (by decide +kernel) ?_
  refine fp_X3_clear_53 (pc := 56) (show 6 < 24 by omega) dX3_clear_56 ?_
  exact g_ret (pc := 59) dX3_clear_59 trivial ⟨rfl, rfl⟩
def qcs25 : mg_F := mg_upr qcs24 21 6 (mg_fl (qcs24 21 6) 24 0)
def qcs26 : mg_F := mg_upr qcs25 22 6 (mg_fl (qcs25 22 6) 24 0)
def qcs27 : mg_F := mg_up (mg_up (mg_up (mg_up (mg_up (mg_up (mg_up (mg_up (mg_up (mg_up (mg_up (qcs26) 2 7 2 0) 3 7 2 4294967294) 3 7 3 0) 3 7 4 0) 3 7 5 0) 3 7 6 0) 3 7 7 0) 3 7 8 0) 3 7 9 0) 3 7 10 0) 3 7 11 0
/-- X3_clear(r3.7) at qcs26 -/
theorem qc19 (l : Launch) {Z : mg_Zt} : mg_C l Z mX3_clear [rv Z 3 7] qcs26 (fun v g' => v = none ∧ g' = qcs27) := by
  refine mg_C.of (by decide) rfl (Nat.le_of_ble_eq_true rfl) (List.forall_mem_cons.mpr ⟨rfl, (fun _ h => nomatch h)⟩) (fun K => ?_)
  refine g_aload_n (pc := 0) dX3_clear_0 rfl ?_
  refine fg_X3_clear_12 (pc := 1) (show 7 < 24 by omega) dX3_clear_1 ?_
  refine g_iconst (pc := 4) (v := 0) dX3_clear_4 (by decide +kernel) ?_
  refine fp_X3_clear_22 (pc := 5) (show 7 < 24 by omega) dX3_clear_5 ?_
  refine g_aload_n (pc := 8) dX3_clear_8 rfl ?_
  refine g_bipush (pc := 9) (v := 4294967294) dX3_clear_9 (by decide +kernel) ?_
  refine fp_X3_clear_25 (pc := 11) (show 7 < 24 by omega) dX3_clear_11 ?_
  refine g_aload_n (pc := 14) dX3_clear_14 rfl ?_
  refine g_iconst (pc := 15) (v := 0) dX3_clear_15 (by decide +kernel) ?_
  refine fp_X3_clear_28 (pc := 16) (show 7 < 24 by omega) (by decide) dX3_clear_16 ?_
  refine g_aload_n (pc := 19) dX3_clear_19 rfl ?_
  refine g_iconst (pc := 20) (v := 0) dX3_clear_20 (by decide +kernel) ?_
  refine fp_X3_clear_32 (pc := 21) (show 7 < 24 by omega) dX3_clear_21 ?_
  refine g_aload_n (pc := 24) dX3_clear_24 rfl ?_
  refine g_iconst (pc := 25) (v := 0) dX3_clear_25 (by decide +kernel) ?_
  refine fp_X3_clear_35 (pc := 26) (show 7 < 24 by omega) (by decide) dX3_clear_26 ?_
  refine g_aload_n (pc := 29) dX3_clear_29 rfl ?_
  refine g_iconst (pc := 30) (v := 0) dX3_clear_30 (by decide +kernel) ?_
  refine fp_X3_clear_38 (pc := 31) (show 7 < 24 by omega) (by decide) dX3_clear_31 ?_
  refine g_aload_n (pc := 34) dX3_clear_34 rfl ?_
  refine g_iconst (pc := 35) (v := 0) dX3_clear_35 (by decide +kernel) ?_
  refine fp_X3_clear_41 (pc := 36) (show 7 < 24 by omega) dX3_clear_36 ?_
  refine g_aload_n (pc := 39) dX3_clear_39 rfl ?_
  refine g_iconst (pc := 40) (v := 0) dX3_clear_40 (by decide +kernel) ?_
  refine fp_X3_clear_44 (pc := 41) (show 7 < 24 by omega) dX3_clear_41 ?_
  refine g_aload_n (pc := 44) dX3_clear_44 rfl ?_
  refine g_iconst (pc := 45) (v := 0) dX3_clear_45 (by decide +kernel) ?_
  refine fp_X3_clear_47 (pc := 46) (show 7 < 24 by omega) (by decide) dX3_clear_46 ?_
  refine g_aload_n (pc := 49) dX3_clear_49 rfl ?_
  refine g_iconst (pc := 50) (v := 0) dX3_clear_50 (by decide +kernel) ?_
  refine fp_X3_clear_50 (pc := 51) (show 7 < 24 by omega) dX3_clear_51 ?_
  refine g_aload_n (pc := 54) dX3_clear_54 rfl ?_
  refine g_iconst (pc := 55) (v := 0) dX3_clear_55 (by decide +kernel) ?_
  refine fp_X3_clear_53 (pc := 56) (show 7 < 24 by omega) dX3_clear_56 ?_
  exact g_ret (pc := 59) dX3_clear_59 trivial ⟨rfl, rfl⟩
def qcs28 : mg_F := mg_upr qcs27 21 7 (mg_fl (qcs27 21 7) 24 0)
def qcs29 : mg_F := mg_upr qcs28 22 7 (mg_fl (qcs28 22 7) 24 0)
def qcs30 : mg_F := mg_up (mg_up (mg_up (mg_up (mg_up (mg_up (mg_up (mg_up (mg_up (mg_up (mg_up (qcs29) 2 8 2 0) 3 8 2 4294967294) 3 8 3 0) 3 8 4 0) 3 8 5 0) 3 8 6 0) 3 8 7 0) 3 8 8 0) 3 8 9 0) 3 8 10 0) 3 8 11 0
/-- X3_clear(r3.8) at qcs29 -/
theorem qc20 (l : Launch) {Z : mg_Zt} : mg_C l Z mX3_clear [rv Z 3 8] qcs29 (fun v g' => v = none ∧ g' = qcs30) := by
  refine mg_C.of (by decide) rfl (Nat.le_of_ble_eq_true rfl) (List.forall_mem_cons.mpr ⟨rfl, (fun _ h => nomatch h)⟩) (fun K => ?_)
  refine g_aload_n (pc := 0) dX3_clear_0 rfl ?_
  refine fg_X3_clear_12 (pc := 1) (show 8 < 24 by omega) dX3_clear_1 ?_
  refine g_iconst (pc := 4) (v := 0) dX3_clear_4 (by decide +kernel) ?_
  refine fp_X3_clear_22 (pc := 5) (show 8 < 24 by omega) dX3_clear_5 ?_
  refine g_aload_n (pc := 8) dX3_clear_8 rfl ?_
  refine g_bipush (pc := 9) (v := 4294967294) dX3_clear_9 (by decide +kernel) ?_
  refine fp_X3_clear_25 (pc := 11) (show 8 < 24 by omega) dX3_clear_11 ?_
  refine g_aload_n (pc := 14) dX3_clear_14 rfl ?_
  refine g_iconst (pc := 15) (v := 0) dX3_clear_15 (by decide +kernel) ?_
  refine fp_X3_clear_28 (pc := 16) (show 8 < 24 by omega) (by decide) dX3_clear_16 ?_
  refine g_aload_n (pc := 19) dX3_clear_19 rfl ?_
  refine g_iconst (pc := 20) (v := 0) dX3_clear_20 (by decide +kernel) ?_
  refine fp_X3_clear_32 (pc := 21) (show 8 < 24 by omega) dX3_clear_21 ?_
  refine g_aload_n (pc := 24) dX3_clear_24 rfl ?_
  refine g_iconst (pc := 25) (v := 0) dX3_clear_25 (by decide +kernel) ?_
  refine fp_X3_clear_35 (pc := 26) (show 8 < 24 by omega) (by decide) dX3_clear_26 ?_
  refine g_aload_n (pc := 29) dX3_clear_29 rfl ?_
  refine g_iconst (pc := 30) (v := 0) dX3_clear_30 (by decide +kernel) ?_
  refine fp_X3_clear_38 (pc := 31) (show 8 < 24 by omega) (by decide) dX3_clear_31 ?_
  refine g_aload_n (pc := 34) dX3_clear_34 rfl ?_
  refine g_iconst (pc := 35) (v := 0) dX3_clear_35 (by decide +kernel) ?_
  refine fp_X3_clear_41 (pc := 36) (show 8 < 24 by omega) dX3_clear_36 ?_
  refine g_aload_n (pc := 39) dX3_clear_39 rfl ?_
  refine g_iconst (pc := 40) (v := 0) dX3_clear_40 (by decide +kernel) ?_
  refine fp_X3_clear_44 (pc := 41) (show 8 < 24 by omega) dX3_clear_41 ?_
  refine g_aload_n (pc := 44) dX3_clear_44 rfl ?_
  refine g_iconst (pc := 45) (v := 0) dX3_clear_45 (by decide +kernel) ?_
  refine fp_X3_clear_47 (pc := 46) (show 8 < 24 by omega) (by decide) dX3_clear_46 ?_
  refine g_aload_n (pc := 49) dX3_clear_49 rfl ?_
  refine g_iconst (pc := 50) (v := 0) dX3_clear_50 (by decide +kernel) ?_
  refine fp_X3_clear_50 (pc := 51) (show 8 < 24 by omega) dX3_clear_51 ?_
  refine g_aload_n (pc := 54) dX3_clear_54 rfl ?_
  refine g_iconst (pc := 55) (v := 0) dX3_clear_55 (by decide +kernel) ?_
  refine fp_X3_clear_53 (pc := 56) (show 8 < 24 by omega) dX3_clear_56 ?_
  exact g_ret (pc := 59) dX3_clear_59 trivial ⟨rfl, rfl⟩
def qcs31 : mg_F := mg_upr qcs30 21 8 (mg_fl (qcs30 21 8) 24 0)
def qcs32 : mg_F := mg_upr qcs31 22 8 (mg_fl (qcs31 22 8) 24 0)
def qcs33 : mg_F := mg_up (mg_up (mg_up (mg_up (mg_up (mg_up (mg_up (mg_up (mg_up (mg_up (mg_up (qcs32) 2 9 2 0) 3 9 2 4294967294) 3 9 3 0) 3 9 4 0) 3 9 5 0) 3 9 6 0) 3 9 7 0) 3 9 8 0) 3 9 9 0) 3 9 10 0) 3 9 11 0
/-- X3_clear(r3.9) at qcs32 -/
theorem qc21 (l : Launch) {Z : mg_Zt} : mg_C l Z mX3_clear [rv Z 3 9] qcs32 (fun v g' => v = none ∧ g' = qcs33) := by
  refine mg_C.of (by decide) rfl (Nat.le_of_ble_eq_true rfl) (List.forall_mem_cons.mpr ⟨rfl, (fun _ h => nomatch h)⟩) (fun K => ?_)
  refine g_aload_n (pc := 0) dX3_clear_0 rfl ?_
  refine fg_X3_clear_12 (pc := 1) (show 9 < 24 by omega) dX3_clear_1 ?_
  refine g_iconst (pc := 4) (v := 0) dX3_clear_4 (by decide +kernel) ?_
  refine fp_X3_clear_22 (pc := 5) (show 9 < 24 by omega) dX3_clear_5 ?_
  refine g_aload_n (pc := 8) dX3_clear_8 rfl ?_
  refine g_bipush (pc := 9) (v := 4294967294) dX3_clear_9 (by decide +kernel) ?_
  refine fp_X3_clear_25 (pc := 11) (show 9 < 24 by omega) dX3_clear_11 ?_
  refine g_aload_n (pc := 14) dX3_clear_14 rfl ?_
  refine g_iconst (pc := 15) (v := 0) dX3_clear_15 (by decide +kernel) ?_
  refine fp_X3_clear_28 (pc := 16) (show 9 < 24 by omega) (by decide) dX3_clear_16 ?_
  refine g_aload_n (pc := 19) dX3_clear_19 rfl ?_
  refine g_iconst (pc := 20) (v := 0) dX3_clear_20 (by decide +kernel) ?_
  refine fp_X3_clear_32 (pc := 21) (show 9 < 24 by omega) dX3_clear_21 ?_
  refine g_aload_n (pc := 24) dX3_clear_24 rfl ?_
  refine g_iconst (pc := 25) (v := 0) dX3_clear_25 (by decide +kernel) ?_
  refine fp_X3_clear_35 (pc := 26) (show 9 < 24 by omega) (by decide) dX3_clear_26 ?_
  refine g_aload_n (pc := 29) dX3_clear_29 rfl ?_
  refine g_iconst (pc := 30) (v := 0) dX3_clear_30 (by decide +kernel) ?_
  refine fp_X3_clear_38 (pc := 31) (show 9 < 24 by omega) (by decide) dX3_clear_31 ?_
  refine g_aload_n (pc := 34) dX3_clear_34 rfl ?_
  refine g_iconst (pc := 35) (v := 0) dX3_clear_35 (by decide +kernel) ?_
  refine fp_X3_clear_41 (pc := 36) (show 9 < 24 by omega) dX3_clear_36 ?_
  refine g_aload_n (pc := 39) dX3_clear_39 rfl ?_
  refine g_iconst (pc := 40) (v := 0) dX3_clear_40 (by decide +kernel) ?_
  refine fp_X3_clear_44 (pc := 41) (show 9 < 24 by omega) dX3_clear_41 ?_
  refine g_aload_n (pc := 44) dX3_clear_44 rfl ?_
  refine g_iconst (pc := 45) (v := 0) dX3_clear_45 (by decide +kernel) ?_
  refine fp_X3_clear_47 (pc := 46) (show 9 < 24 by omega) (by decide) dX3_clear_46 ?_
  refine g_aload_n (pc := 49) dX3_clear_49 rfl ?_
  refine g_iconst (pc := 50) (v := 0) dX3_clear_50 (by decide +kernel) ?_
  refine fp_X3_clear_50 (pc := 51) (show 9 < 24 by omega) dX3_clear_51 ?_
  refine g_aload_n (pc := 54) dX3_clear_54 rfl ?_
  refine g_iconst (pc := 55) (v := 0) dX3_clear_55 (by decide +kernel) ?_
  refine fp_X3_clear_53 (pc := 56) (show 9 < 24 by omega) dX3_clear_56 ?_
  exact g_ret (pc := 59) dX3_clear_59 trivial ⟨rfl, rfl⟩
def qcs34 : mg_F := mg_upr qcs33 21 9 (mg_fl (qcs33 21 9) 24 0)
def qcs35 : mg_F := mg_upr qcs34 22 9 (mg_fl (qcs34 22 9) 24 0)
def qcs36 : mg_F := mg_up (mg_up (mg_up (mg_up (mg_up (mg_up (mg_up (mg_up (mg_up (mg_up (mg_up (qcs35) 2 10 2 0) 3 10 2 4294967294) 3 10 3 0) 3 10 4 0) 3 10 5 0) 3 10 6 0) 3 10 7 0) 3 10 8 0) 3 10 9 0) 3 10 10 0) 3 10 11 0
/-- X3_clear(r3.10) at qcs35 -/
theorem qc22 (l : Launch) {Z : mg_Zt} : mg_C l Z mX3_clear [rv Z 3 10] qcs35 (fun v g' => v = none ∧ g' = qcs36) := by
  refine mg_C.of (by decide) rfl (Nat.le_of_ble_eq_true rfl) (List.forall_mem_cons.mpr ⟨rfl, (fun _ h => nomatch h)⟩) (fun K => ?_)
  refine g_aload_n (pc := 0) dX3_clear_0 rfl ?_
  refine fg_X3_clear_12 (pc := 1) (show 10 < 24 by omega) dX3_clear_1 ?_
  refine g_iconst (pc := 4) (v := 0) dX3_clear_4 (by decide +kernel) ?_
  refine fp_X3_clear_22 (pc := 5) (show 10 < 24 by omega) dX3_clear_5 ?_
  refine g_aload_n (pc := 8) dX3_clear_8 rfl ?_
  refine g_bipush (pc := 9) (v := 4294967294) dX3_clear_9 (by decide +kernel) ?_
  refine fp_X3_clear_25 (pc := 11) (show 10 < 24 by omega) dX3_clear_11 ?_
  refine g_aload_n (pc := 14) dX3_clear_14 rfl ?_
  refine g_iconst (pc := 15) (v := 0) dX3_clear_15 (by decide +kernel) ?_
  refine fp_X3_clear_28 (pc := 16) (show 10 < 24 by omega) (by decide) dX3_clear_16 ?_
  refine g_aload_n (pc := 19) dX3_clear_19 rfl ?_
  refine g_iconst (pc := 20) (v := 0) dX3_clear_20 (by decide +kernel) ?_
  refine fp_X3_clear_32 (pc := 21) (show 10 < 24 by omega) dX3_clear_21 ?_
  refine g_aload_n (pc := 24) dX3_clear_24 rfl ?_
  refine g_iconst (pc := 25) (v := 0) dX3_clear_25 (by decide +kernel) ?_
  refine fp_X3_clear_35 (pc := 26) (show 10 < 24 by omega) (by decide) dX3_clear_26 ?_
  refine g_aload_n (pc := 29) dX3_clear_29 rfl ?_
  refine g_iconst (pc := 30) (v := 0) dX3_clear_30 (by decide +kernel) ?_
  refine fp_X3_clear_38 (pc := 31) (show 10 < 24 by omega) (by decide) dX3_clear_31 ?_
  refine g_aload_n (pc := 34) dX3_clear_34 rfl ?_
  refine g_iconst (pc := 35) (v := 0) dX3_clear_35 (by decide +kernel) ?_
  refine fp_X3_clear_41 (pc := 36) (show 10 < 24 by omega) dX3_clear_36 ?_
  refine g_aload_n (pc := 39) dX3_clear_39 rfl ?_
  refine g_iconst (pc := 40) (v := 0) dX3_clear_40 (by decide +kernel) ?_
  refine fp_X3_clear_44 (pc := 41) (show 10 < 24 by omega) dX3_clear_41 ?_
  refine g_aload_n (pc := 44) dX3_clear_44 rfl ?_
  refine g_iconst (pc := 45) (v := 0) dX3_clear_45 (by decide +kernel) ?_
  refine fp_X3_clear_47 (pc := 46) (show 10 < 24 by omega) (by decide) dX3_clear_46 ?_
  refine g_aload_n (pc := 49) dX3_clear_49 rfl ?_
  refine g_iconst (pc := 50) (v := 0) dX3_clear_50 (by decide +kernel) ?_
  refine fp_X3_clear_50 (pc := 51) (show 10 < 24 by omega) dX3_clear_51 ?_
  refine g_aload_n (pc := 54) dX3_clear_54 rfl ?_
  refine g_iconst (pc := 55) (v := 0) dX3_clear_55 (by decide +kernel) ?_
  refine fp_X3_clear_53 (pc := 56) (show 10 < 24 by omega) dX3_clear_56 ?_
  exact g_ret (pc := 59) dX3_clear_59 trivial ⟨rfl, rfl⟩
def qcs37 : mg_F := mg_upr qcs36 21 10 (mg_fl (qcs36 21 10) 24 0)
def qcs38 : mg_F := mg_upr qcs37 22 10 (mg_fl (qcs37 22 10) 24 0)
def qcs39 : mg_F := mg_up (mg_up (mg_up (mg_up (mg_up (mg_up (mg_up (mg_up (mg_up (mg_up (mg_up (qcs38) 2 11 2 0) 3 11 2 4294967294) 3 11 3 0) 3 11 4 0) 3 11 5 0) 3 11 6 0) 3 11 7 0) 3 11 8 0) 3 11 9 0) 3 11 10 0) 3 11 11 0
/-- X3_clear(r3.11) at qcs38 -/
theorem qc23 (l : Launch) {Z : mg_Zt} : mg_C l Z mX3_clear [rv Z 3 11] qcs38 (fun v g' => v = none ∧ g' = qcs39) := by
  refine mg_C.of (by decide) rfl (Nat.le_of_ble_eq_true rfl) (List.forall_mem_cons.mpr ⟨rfl, (fun _ h => nomatch h)⟩) (fun K => ?_)
  refine g_aload_n (pc := 0) dX3_clear_0 rfl ?_
  refine fg_X3_clear_12 (pc := 1) (show 11 < 24 by omega) dX3_clear_1 ?_
  refine g_iconst (pc := 4) (v := 0) dX3_clear_4 (by decide +kernel) ?_
  refine fp_X3_clear_22 (pc := 5) (show 11 < 24 by omega) dX3_clear_5 ?_
  refine g_aload_n (pc := 8) dX3_clear_8 rfl ?_
  refine g_bipush (pc := 9) (v := 4294967294) dX3_clear_9 (by decide +kernel) ?_
  refine fp_X3_clear_25 (pc := 11) (show 11 < 24 by omega) dX3_clear_11 ?_
  refine g_aload_n (pc := 14) dX3_clear_14 rfl ?_
  refine g_iconst (pc := 15) (v := 0) dX3_clear_15 (by decide +kernel) ?_
  refine fp_X3_clear_28 (pc := 16) (show 11 < 24 by omega) (by decide) dX3_clear_16 ?_
  refine g_aload_n (pc := 19) dX3_clear_19 rfl ?_
  refine g_iconst (pc := 20) (v := 0) dX3_clear_20 (by decide +kernel) ?_
  refine fp_X3_clear_32 (pc := 21) (show 11 < 24 by omega) dX3_clear_21 ?_
  refine g_aload_n (pc := 24) dX3_clear_24 rfl ?_
  refine g_iconst (pc := 25) (v := 0) dX3_clear_25 (by decide +kernel) ?_
  refine fp_X3_clear_35 (pc := 26) (show 11 < 24 by omega) (by decide) dX3_clear_26 ?_
  refine g_aload_n (pc := 29) dX3_clear_29 rfl ?_
  refine g_iconst (pc := 30) (v := 0) dX3_clear_30 (by decide +kernel) ?_
  refine fp_X3_clear_38 (pc := 31) (show 11 < 24 by omega) (by decide) dX3_clear_31 ?_
  refine g_aload_n (pc := 34) dX3_clear_34 rfl ?_
  refine g_iconst (pc := 35) (v := 0) dX3_clear_35 (by decide +kernel) ?_
  refine fp_X3_clear_41 (pc := 36) (show 11 < 24 by omega) dX3_clear_36 ?_
  refine g_aload_n (pc := 39) dX3_clear_39 rfl ?_
  refine g_iconst (pc := 40) (v := 0) dX3_clear_40 (by decide +kernel) ?_
  refine fp_X3_clear_44 (pc := 41) (show 11 < 24 by omega) dX3_clear_41 ?_
  refine g_aload_n (pc := 44) dX3_clear_44 rfl ?_
  refine g_iconst (pc := 45) (v := 0) dX3_clear_45 (by decide +kernel) ?_
  refine fp_X3_clear_47 (pc := 46) (show 11 < 24 by omega) (by decide) dX3_clear_46 ?_
  refine g_aload_n (pc := 49) dX3_clear_49 rfl ?_
  refine g_iconst (pc := 50) (v := 0) dX3_clear_50 (by decide +kernel) ?_
  refine fp_X3_clear_50 (pc := 51) (show 11 < 24 by omega) dX3_clear_51 ?_
  refine g_aload_n (pc := 54) dX3_clear_54 rfl ?_
  refine g_iconst (pc := 55) (v := 0) dX3_clear_55 (by decide +kernel) ?_
  refine fp_X3_clear_53 (pc := 56) (show 11 < 24 by omega) dX3_clear_56 ?_
  exact g_ret (pc := 59) dX3_clear_59 trivial ⟨rfl, rfl⟩
def qcs40 : mg_F := mg_upr qcs39 21 11 (mg_fl (qcs39 21 11) 24 0)
def qcs41 : mg_F := mg_upr qcs40 22 11 (mg_fl (qcs40 22 11) 24 0)
def qcs42 : mg_F := mg_up (mg_up (mg_up (mg_up (mg_up (mg_up (mg_up (mg_up (mg_up (mg_up (mg_up (qcs41) 2 12 2 0) 3 12 2 4294967294) 3 12 3 0) 3 12 4 0) 3 12 5 0) 3 12 6 0) 3 12 7 0) 3 12 8 0) 3 12 9 0) 3 12 10 0) 3 12 11 0
/-- X3_clear(r3.12) at qcs41 -/
theorem qc24 (l : Launch) {Z : mg_Zt} : mg_C l Z mX3_clear [rv Z 3 12] qcs41 (fun v g' => v = none ∧ g' = qcs42) := by
  refine mg_C.of (by decide) rfl (Nat.le_of_ble_eq_true rfl) (List.forall_mem_cons.mpr ⟨rfl, (fun _ h => nomatch h)⟩) (fun K => ?_)
  refine g_aload_n (pc := 0) dX3_clear_0 rfl ?_
  refine fg_X3_clear_12 (pc := 1) (show 12 < 24 by omega) dX3_clear_1 ?_
  refine g_iconst (pc := 4) (v := 0) dX3_clear_4 (by decide +kernel) ?_
  refine fp_X3_clear_22 (pc := 5) (show 12 < 24 by omega) dX3_clear_5 ?_
  refine g_aload_n (pc := 8) dX3_clear_8 rfl ?_
  refine g_bipush (pc := 9) (v := 4294967294) dX3_clear_9 (by decide +kernel) ?_
  refine fp_X3_clear_25 (pc := 11) (show 12 < 24 by omega) dX3_clear_11 ?_
  refine g_aload_n (pc := 14) dX3_clear_14 rfl ?_
  refine g_iconst (pc := 15) (v := 0) dX3_clear_15 (by decide +kernel) ?_
  refine fp_X3_clear_28 (pc := 16) (show 12 < 24 by omega) (by decide) dX3_clear_16 ?_
  refine g_aload_n (pc := 19) dX3_clear_19 rfl ?_
  refine g_iconst (pc := 20) (v := 0) dX3_clear_20 (by decide +kernel) ?_
  refine fp_X3_clear_32 (pc := 21) (show 12 < 24 by omega) dX3_clear_21 ?_
  refine g_aload_n (pc := 24) dX3_clear_24 rfl ?_
  refine g_iconst (pc := 25) (v := 0) dX3_clear_25 (by decide +kernel) ?_
  refine fp_X3_clear_35 (pc := 26) (show 12 < 24 by omega) (by decide) dX3_clear_26 ?_
  refine g_aload_n (pc := 29) dX3_clear_29 rfl ?_
  refine g_iconst (pc := 30) (v := 0) dX3_clear_30 (by decide +kernel) ?_
  refine fp_X3_clear_38 (pc := 31) (show 12 < 24 by omega) (by decide) dX3_clear_31 ?_
  refine g_aload_n (pc := 34) dX3_clear_34 rfl ?_
  refine g_iconst (pc := 35) (v := 0) dX3_clear_35 (by decide +kernel) ?_
  refine fp_X3_clear_41 (pc := 36) (show 12 < 24 by omega) dX3_clear_36 ?_
  refine g_aload_n (pc := 39) dX3_clear_39 rfl ?_
  refine g_iconst (pc := 40) (v := 0) dX3_clear_40 (by decide +kernel) ?_
  refine fp_X3_clear_44 (pc := 41) (show 12 < 24 by omega) dX3_clear_41 ?_
  refine g_aload_n (pc := 44) dX3_clear_44 rfl ?_
  refine g_iconst (pc := 45) (v := 0) dX3_clear_45 (by decide +kernel) ?_
  refine fp_X3_clear_47 (pc := 46) (show 12 < 24 by omega) (by decide) dX3_clear_46 ?_
  refine g_aload_n (pc := 49) dX3_clear_49 rfl ?_
  refine g_iconst (pc := 50) (v := 0) dX3_clear_50 (by decide +kernel) ?_
  refine fp_X3_clear_50 (pc := 51) (show 12 < 24 by omega) dX3_clear_51 ?_
  refine g_aload_n (pc := 54) dX3_clear_54 rfl ?_
  refine g_iconst (pc := 55) (v := 0) dX3_clear_55 (by decide +kernel) ?_
  refine fp_X3_clear_53 (pc := 56) (show 12 < 24 by omega) dX3_clear_56 ?_
  exact g_ret (pc := 59) dX3_clear_59 trivial ⟨rfl, rfl⟩
def qcs43 : mg_F := mg_upr qcs42 21 12 (mg_fl (qcs42 21 12) 24 0)
def qcs44 : mg_F := mg_upr qcs43 22 12 (mg_fl (qcs43 22 12) 24 0)
def qcs45 : mg_F := mg_up (mg_up (mg_up (mg_up (mg_up (mg_up (mg_up (mg_up (mg_up (mg_up (mg_up (qcs44) 2 13 2 0) 3 13 2 4294967294) 3 13 3 0) 3 13 4 0) 3 13 5 0) 3 13 6 0) 3 13 7 0) 3 13 8 0) 3 13 9 0) 3 13 10 0) 3 13 11 0
/-- X3_clear(r3.13) at qcs44 -/
theorem qc25 (l : Launch) {Z : mg_Zt} : mg_C l Z mX3_clear [rv Z 3 13] qcs44 (fun v g' => v = none ∧ g' = qcs45) := by
  refine mg_C.of (by decide) rfl (Nat.le_of_ble_eq_true rfl) (List.forall_mem_cons.mpr ⟨rfl, (fun _ h => nomatch h)⟩) (fun K => ?_)
  refine g_aload_n (pc := 0) dX3_clear_0 rfl ?_
  refine fg_X3_clear_12 (pc := 1) (show 13 < 24 by omega) dX3_clear_1 ?_
  refine g_iconst (pc := 4) (v := 0) dX3_clear_4 (by decide +kernel) ?_
  refine fp_X3_clear_22 (pc := 5) (show 13 < 24 by omega) dX3_clear_5 ?_
  refine g_aload_n (pc := 8) dX3_clear_8 rfl ?_
  refine g_bipush (pc := 9) (v := 4294967294) dX3_clear_9 (by decide +kernel) ?_
  refine fp_X3_clear_25 (pc := 11) (show 13 < 24 by omega) dX3_clear_11 ?_
  refine g_aload_n (pc := 14) dX3_clear_14 rfl ?_
  refine g_iconst (pc := 15) (v := 0) dX3_clear_15 (by decide +kernel) ?_
  refine fp_X3_clear_28 (pc := 16) (show 13 < 24 by omega) (by decide) dX3_clear_16 ?_
  refine g_aload_n (pc := 19) dX3_clear_19 rfl ?_
  refine g_iconst (pc := 20) (v := 0) dX3_clear_20 (by decide +kernel) ?_
  refine fp_X3_clear_32 (pc := 21) (show 13 < 24 by omega) dX3_clear_21 ?_
  refine g_aload_n (pc := 24) dX3_clear_24 rfl ?_
  refine g_iconst (pc := 25) (v := 0) dX3_clear_25 (by decide +kernel) ?_
  refine fp_X3_clear_35 (pc := 26) (show 13 < 24 by omega) (by decide) dX3_clear_26 ?_
  refine g_aload_n (pc := 29) dX3_clear_29 rfl ?_
  refine g_iconst (pc := 30) (v := 0) dX3_clear_30 (by decide +kernel) ?_
  refine fp_X3_clear_38 (pc := 31) (show 13 < 24 by omega) (by decide) dX3_clear_31 ?_
  refine g_aload_n (pc := 34) dX3_clear_34 rfl ?_
  refine g_iconst (pc := 35) (v := 0) dX3_clear_35 (by decide +kernel) ?_
  refine fp_X3_clear_41 (pc := 36) (show 13 < 24 by omega) dX3_clear_36 ?_
  refine g_aload_n (pc := 39) dX3_clear_39 rfl ?_
  refine g_iconst (pc := 40) (v := 0) dX3_clear_40 (by decide +kernel) ?_
  refine fp_X3_clear_44 (pc := 41) (show 13 < 24 by omega) dX3_clear_41 ?_
  refine g_aload_n (pc := 44) dX3_clear_44 rfl ?_
  refine g_iconst (pc := 45) (v := 0) dX3_clear_45 (by decide +kernel) ?_
  refine fp_X3_clear_47 (pc := 46) (show 13 < 24 by omega) (by decide) dX3_clear_46 ?_
  refine g_aload_n (pc := 49) dX3_clear_49 rfl ?_
  refine g_iconst (pc := 50) (v := 0) dX3_clear_50 (by decide +kernel) ?_
  refine fp_X3_clear_50 (pc := 51) (show 13 < 24 by omega) dX3_clear_51 ?_
  refine g_aload_n (pc := 54) dX3_clear_54 rfl ?_
  refine g_iconst (pc := 55) (v := 0) dX3_clear_55 (by decide +kernel) ?_
  refine fp_X3_clear_53 (pc := 56) (show 13 < 24 by omega) dX3_clear_56 ?_
  exact g_ret (pc := 59) dX3_clear_59 trivial ⟨rfl, rfl⟩
def qcs46 : mg_F := mg_upr qcs45 21 13 (mg_fl (qcs45 21 13) 24 0)
def qcs47 : mg_F := mg_upr qcs46 22 13 (mg_fl (qcs46 22 13) 24 0)
def qcs48 : mg_F := mg_up (mg_up (mg_up (mg_up (mg_up (mg_up (mg_up (mg_up (mg_up (mg_up (mg_up (qcs47) 2 14 2 0) 3 14 2 4294967294) 3 14 3 0) 3 14 4 0) 3 14 5 0) 3 14 6 0) 3 14 7 0) 3 14 8 0) 3 14 9 0) 3 14 10 0) 3 14 11 0
/-- X3_clear(r3.14) at qcs47 -/
theorem qc26 (l : Launch) {Z : mg_Zt} : mg_C l Z mX3_clear [rv Z 3 14] qcs47 (fun v g' => v = none ∧ g' = qcs48) := by
  refine mg_C.of (by decide) rfl (Nat.le_of_ble_eq_true rfl) (List.forall_mem_cons.mpr ⟨rfl, (fun _ h => nomatch h)⟩) (fun K => ?_)
  refine g_aload_n (pc := 0) dX3_clear_0 rfl ?_
  refine fg_X3_clear_12 (pc := 1) (show 14 < 24 by omega) dX3_clear_1 ?_
  refine g_iconst (pc := 4) (v := 0) dX3_clear_4 (by decide +kernel) ?_
  refine fp_X3_clear_22 (pc := 5) (show 14 < 24 by omega) dX3_clear_5 ?_
  refine g_aload_n (pc := 8) dX3_clear_8 rfl ?_
  refine g_bipush (pc := 9) (v := 4294967294) dX3_clear_9 (by decide +kernel) ?_
  refine fp_X3_clear_25 (pc := 11) (show 14 < 24 by omega) dX3_clear_11 ?_
  refine g_aload_n (pc := 14) dX3_clear_14 rfl ?_
  refine g_iconst (pc := 15) (v := 0) dX3_clear_15 (by decide +kernel) ?_
  refine fp_X3_clear_28 (pc := 16) (show 14 < 24 by omega) (by decide) dX3_clear_16 ?_
  refine g_aload_n (pc := 19) dX3_clear_19 rfl ?_
  refine g_iconst (pc := 20) (v := 0) dX3_clear_20 (by decide +kernel) ?_
  refine fp_X3_clear_32 (pc := 21) (show 14 < 24 by omega) dX3_clear_21 ?_
  refine g_aload_n (pc := 24) dX3_clear_24 rfl ?_
  refine g_iconst (pc := 25) (v := 0) dX3_clear_25 (by decide +kernel) ?_
  refine fp_X3_clear_35 (pc := 26) (show 14 < 24 by omega) (by decide) dX3_clear_26 ?_
  refine g_aload_n (pc := 29) dX3_clear_29 rfl ?_
  refine g_iconst (pc := 30) (v := 0) dX3_clear_30 (by decide +kernel) ?_
  refine fp_X3_clear_38 (pc := 31) (show 14 < 24 by omega) (by decide) dX3_clear_31 ?_
  refine g_aload_n (pc := 34) dX3_clear_34 rfl ?_
  refine g_iconst (pc := 35) (v := 0) dX3_clear_35 (by decide +kernel) ?_
  refine fp_X3_clear_41 (pc := 36) (show 14 < 24 by omega) dX3_clear_36 ?_
  refine g_aload_n (pc := 39) dX3_clear_39 rfl ?_
  refine g_iconst (pc := 40) (v := 0) dX3_clear_40 (by decide +kernel) ?_
  refine fp_X3_clear_44 (pc := 41) (show 14 < 24 by omega) dX3_clear_41 ?_
  refine g_aload_n (pc := 44) dX3_clear_44 rfl ?_
  refine g_iconst (pc := 45) (v := 0) dX3_clear_45 (by decide +kernel) ?_
  refine fp_X3_clear_47 (pc := 46) (show 14 < 24 by omega) (by decide) dX3_clear_46 ?_
  refine g_aload_n (pc := 49) dX3_clear_49 rfl ?_
  refine g_iconst (pc := 50) (v := 0) dX3_clear_50 (by decide +kernel) ?_
  refine fp_X3_clear_50 (pc := 51) (show 14 < 24 by omega) dX3_clear_51 ?_
  refine g_aload_n (pc := 54) dX3_clear_54 rfl ?_
  refine g_iconst (pc := 55) (v := 0) dX3_clear_55 (by decide +kernel) ?_
  refine fp_X3_clear_53 (pc := 56) (show 14 < 24 by omega) dX3_clear_56 ?_
  exact g_ret (pc := 59) dX3_clear_59 trivial ⟨rfl, rfl⟩
def qcs49 : mg_F := mg_upr qcs48 21 14 (mg_fl (qcs48 21 14) 24 0)
def qcs50 : mg_F := mg_upr qcs49 22 14 (mg_fl (qcs49 22 14) 24 0)
def qcs51 : mg_F := mg_up (mg_up (mg_up (mg_up (mg_up (mg_up (mg_up (mg_up (mg_up (mg_up (mg_up (qcs50) 2 15 2 0) 3 15 2 4294967294) 3 15 3 0) 3 15 4 0) 3 15 5 0) 3 15 6 0) 3 15 7 0) 3 15 8 0) 3 15 9 0) 3 15 10 0) 3 15 11 0
/-- X3_clear(r3.15) at qcs50 -/
theorem qc27 (l : Launch) {Z : mg_Zt} : mg_C l Z mX3_clear [rv Z 3 15] qcs50 (fun v g' => v = none ∧ g' = qcs51) := by
  refine mg_C.of (by decide) rfl (Nat.le_of_ble_eq_true rfl) (List.forall_mem_cons.mpr ⟨rfl, (fun _ h => nomatch h)⟩) (fun K => ?_)
  refine g_aload_n (pc := 0) dX3_clear_0 rfl ?_
  refine fg_X3_clear_12 (pc := 1) (show 15 < 24 by omega) dX3_clear_1 ?_
  refine g_iconst (pc := 4) (v := 0) dX3_clear_4 (by decide +kernel) ?_
  refine fp_X3_clear_22 (pc := 5) (show 15 < 24 by omega) dX3_clear_5 ?_
  refine g_aload_n (pc := 8) dX3_clear_8 rfl ?_
  refine g_bipush (pc := 9) (v := 4294967294) dX3_clear_9 (by decide +kernel) ?_
  refine fp_X3_clear_25 (pc := 11) (show 15 < 24 by omega) dX3_clear_11 ?_
  refine g_aload_n (pc := 14) dX3_clear_14 rfl ?_
  refine g_iconst (pc := 15) (v := 0) dX3_clear_15 (by decide +kernel) ?_
  refine fp_X3_clear_28 (pc := 16) (show 15 < 24 by omega) (by decide) dX3_clear_16 ?_
  refine g_aload_n (pc := 19) dX3_clear_19 rfl ?_
  refine g_iconst (pc := 20) (v := 0) dX3_clear_20 (by decide +kernel) ?_
  refine fp_X3_clear_32 (pc := 21) (show 15 < 24 by omega) dX3_clear_21 ?_
  refine g_aload_n (pc := 24) dX3_clear_24 rfl ?_
  refine g_iconst (pc := 25) (v := 0) dX3_clear_25 (by decide +kernel) ?_
  refine fp_X3_clear_35 (pc := 26) (show 15 < 24 by omega) (by decide) dX3_clear_26 ?_
  refine g_aload_n (pc := 29) dX3_clear_29 rfl ?_
  refine g_iconst (pc := 30) (v := 0) dX3_clear_30 (by decide +kernel) ?_
  refine fp_X3_clear_38 (pc := 31) (show 15 < 24 by omega) (by decide) dX3_clear_31 ?_
  refine g_aload_n (pc := 34) dX3_clear_34 rfl ?_
  refine g_iconst (pc := 35) (v := 0) dX3_clear_35 (by decide +kernel) ?_
  refine fp_X3_clear_41 (pc := 36) (show 15 < 24 by omega) dX3_clear_36 ?_
  refine g_aload_n (pc := 39) dX3_clear_39 rfl ?_
  refine g_iconst (pc := 40) (v := 0) dX3_clear_40 (by decide +kernel) ?_
  refine fp_X3_clear_44 (pc := 41) (show 15 < 24 by omega) dX3_clear_41 ?_
  refine g_aload_n (pc := 44) dX3_clear_44 rfl ?_
  refine g_iconst (pc := 45) (v := 0) dX3_clear_45 (by decide +kernel) ?_
  refine fp_X3_clear_47 (pc := 46) (show 15 < 24 by omega) (by decide) dX3_clear_46 ?_
  refine g_aload_n (pc := 49) dX3_clear_49 rfl ?_
  refine g_iconst (pc := 50) (v := 0) dX3_clear_50 (by decide +kernel) ?_
  refine fp_X3_clear_50 (pc := 51) (show 15 < 24 by omega) dX3_clear_51 ?_
  refine g_aload_n (pc := 54) dX3_clear_54 rfl ?_
  refine g_iconst (pc := 55) (v := 0) dX3_clear_55 (by decide +kernel) ?_
  refine fp_X3_clear_53 (pc := 56) (show 15 < 24 by omega) dX3_clear_56 ?_
  exact g_ret (pc := 59) dX3_clear_59 trivial ⟨rfl, rfl⟩
def qcs52 : mg_F := mg_upr qcs51 21 15 (mg_fl (qcs51 21 15) 24 0)
def qcs53 : mg_F := mg_upr qcs52 22 15 (mg_fl (qcs52 22 15) 24 0)
def qcs54 : mg_F := mg_up (mg_up (mg_up (mg_up (mg_up (mg_up (mg_up (mg_up (mg_up (mg_up (mg_up (qcs53) 2 16 2 0) 3 16 2 4294967294) 3 16 3 0) 3 16 4 0) 3 16 5 0) 3 16 6 0) 3 16 7 0) 3 16 8 0) 3 16 9 0) 3 16 10 0) 3 16 11 0
/-- X3_clear(r3.16) at qcs53 -/
theorem qc28 (l : Launch) {Z : mg_Zt} : mg_C l Z mX3_clear [rv Z 3 16] qcs53 (fun v g' => v = none ∧ g' = qcs54) := by
  refine mg_C.of (by decide) rfl (Nat.le_of_ble_eq_true rfl) (List.forall_mem_cons.mpr ⟨rfl, (fun _ h => nomatch h)⟩) (fun K => ?_)
  refine g_aload_n (pc := 0) dX3_clear_0 rfl ?_
  refine fg_X3_clear_12 (pc := 1) (show 16 < 24 by omega) dX3_clear_1 ?_
  refine g_iconst (pc := 4) (v := 0) dX3_clear_4 (by decide +kernel) ?_
  refine fp_X3_clear_22 (pc := 5) (show 16 < 24 by omega) dX3_clear_5 ?_
  refine g_aload_n (pc := 8) dX3_clear_8 rfl ?_
  refine g_bipush (pc := 9) (v := 4294967294) dX3_clear_9 (by decide +kernel) ?_
  refine fp_X3_clear_25 (pc := 11) (show 16 < 24 by omega) dX3_clear_11 ?_
  refine g_aload_n (pc := 14) dX3_clear_14 rfl ?_
  refine g_iconst (pc := 15) (v := 0) dX3_clear_15 (by decide +kernel) ?_
  refine fp_X3_clear_28 (pc := 16) (show 16 < 24 by omega) (by decide) dX3_clear_16 ?_
  refine g_aload_n (pc := 19) dX3_clear_19 rfl ?_
  refine g_iconst (pc := 20) (v := 0) dX3_clear_20 (by decide +kernel) ?_
  refine fp_X3_clear_32 (pc := 21) (show 16 < 24 by omega) dX3_clear_21 ?_
  refine g_aload_n (pc := 24) dX3_clear_24 rfl ?_
  refine g_iconst (pc := 25) (v := 0) dX3_clear_25 (by decide +kernel) ?_
  refine fp_X3_clear_35 (pc := 26) (show 16 < 24 by omega) (by decide) dX3_clear_26 ?_
  refine g_aload_n (pc := 29) dX3_clear_29 rfl ?_
  refine g_iconst (pc := 30) (v := 0) dX3_clear_30 (by decide +kernel) ?_
  refine fp_X3_clear_38 (pc := 31) (show 16 < 24 by omega) (by decide) dX3_clear_31 ?_
  refine g_aload_n (pc := 34) dX3_clear_34 rfl ?_
  refine g_iconst (pc := 35) (v := 0) dX3_clear_35 (by decide +kernel) ?_
  refine fp_X3_clear_41 (pc := 36) (show 16 < 24 by omega) dX3_clear_36 ?_
  refine g_aload_n (pc := 39) dX3_clear_39 rfl ?_
  refine g_iconst (pc := 40) (v := 0) dX3_clear_40 (by decide +kernel) ?_
  refine fp_X3_clear_44 (pc := 41) (show 16 < 24 by omega) dX3_clear_41 ?_
  refine g_aload_n (pc := 44) dX3_clear_44 rfl ?_
  refine g_iconst (pc := 45) (v := 0) dX3_clear_45 (by decide +kernel) ?_
  refine fp_X3_clear_47 (pc := 46) (show 16 < 24 by omega) (by decide) dX3_clear_46 ?_
  refine g_aload_n (pc := 49) dX3_clear_49 rfl ?_
  refine g_iconst (pc := 50) (v := 0) dX3_clear_50 (by decide +kernel) ?_
  refine fp_X3_clear_50 (pc := 51) (show 16 < 24 by omega) dX3_clear_51 ?_
  refine g_aload_n (pc := 54) dX3_clear_54 rfl ?_
  refine g_iconst (pc := 55) (v := 0) dX3_clear_55 (by decide +kernel) ?_
  refine fp_X3_clear_53 (pc := 56) (show 16 < 24 by omega) dX3_clear_56 ?_
  exact g_ret (pc := 59) dX3_clear_59 trivial ⟨rfl, rfl⟩
def qcs55 : mg_F := mg_upr qcs54 21 16 (mg_fl (qcs54 21 16) 24 0)
def qcs56 : mg_F := mg_upr qcs55 22 16 (mg_fl (qcs55 22 16) 24 0)
def qcs57 : mg_F := mg_up (mg_up (mg_up (mg_up (mg_up (mg_up (mg_up (mg_up (mg_up (mg_up (mg_up (qcs56) 2 17 2 0) 3 17 2 4294967294) 3 17 3 0) 3 17 4 0) 3 17 5 0) 3 17 6 0) 3 17 7 0) 3 17 8 0) 3 17 9 0) 3 17 10 0) 3 17 11 0
/-- X3_clear(r3.17) at qcs56 -/
theorem qc29 (l : Launch) {Z : mg_Zt} : mg_C l Z mX3_clear [rv Z 3 17] qcs56 (fun v g' => v = none ∧ g' = qcs57) := by
  refine mg_C.of (by decide) rfl (Nat.le_of_ble_eq_true rfl) (List.forall_mem_cons.mpr ⟨rfl, (fun _ h => nomatch h)⟩) (fun K => ?_)
  refine g_aload_n (pc := 0) dX3_clear_0 rfl ?_
  refine fg_X3_clear_12 (pc := 1) (show 17 < 24 by omega) dX3_clear_1 ?_
  refine g_iconst (pc := 4) (v := 0) dX3_clear_4 (by decide +kernel) ?_
  refine fp_X3_clear_22 (pc := 5) (show 17 < 24 by omega) dX3_clear_5 ?_
  refine g_aload_n (pc := 8) dX3_clear_8 rfl ?_
  refine g_bipush (pc := 9) (v := 4294967294) dX3_clear_9 (by decide +kernel) ?_
  refine fp_X3_clear_25 (pc := 11) (show 17 < 24 by omega) dX3_clear_11 ?_
  refine g_aload_n (pc := 14) dX3_clear_14 rfl ?_
  refine g_iconst (pc := 15) (v := 0) dX3_clear_15 (by decide +kernel) ?_
  refine fp_X3_clear_28 (pc := 16) (show 17 < 24 by omega) (by decide) dX3_clear_16 ?_
  refine g_aload_n (pc := 19) dX3_clear_19 rfl ?_
  refine g_iconst (pc := 20) (v := 0) dX3_clear_20 (by decide +kernel) ?_
  refine fp_X3_clear_32 (pc := 21) (show 17 < 24 by omega) dX3_clear_21 ?_
  refine g_aload_n (pc := 24) dX3_clear_24 rfl ?_
  refine g_iconst (pc := 25) (v := 0) dX3_clear_25 (by decide +kernel) ?_
  refine fp_X3_clear_35 (pc := 26) (show 17 < 24 by omega) (by decide) dX3_clear_26 ?_
  refine g_aload_n (pc := 29) dX3_clear_29 rfl ?_
  refine g_iconst (pc := 30) (v := 0) dX3_clear_30 (by decide +kernel) ?_
  refine fp_X3_clear_38 (pc := 31) (show 17 < 24 by omega) (by decide) dX3_clear_31 ?_
  refine g_aload_n (pc := 34) dX3_clear_34 rfl ?_
  refine g_iconst (pc := 35) (v := 0) dX3_clear_35 (by decide +kernel) ?_
  refine fp_X3_clear_41 (pc := 36) (show 17 < 24 by omega) dX3_clear_36 ?_
  refine g_aload_n (pc := 39) dX3_clear_39 rfl ?_
  refine g_iconst (pc := 40) (v := 0) dX3_clear_40 (by decide +kernel) ?_
  refine fp_X3_clear_44 (pc := 41) (show 17 < 24 by omega) dX3_clear_41 ?_
  refine g_aload_n (pc := 44) dX3_clear_44 rfl ?_
  refine g_iconst (pc := 45) (v := 0) dX3_clear_45 (by decide +kernel) ?_
  refine fp_X3_clear_47 (pc := 46) (show 17 < 24 by omega) (by decide) dX3_clear_46 ?_
  refine g_aload_n (pc := 49) dX3_clear_49 rfl ?_
  refine g_iconst (pc := 50) (v := 0) dX3_clear_50 (by decide +kernel) ?_
  refine fp_X3_clear_50 (pc := 51) (show 17 < 24 by omega) dX3_clear_51 ?_
  refine g_aload_n (pc := 54) dX3_clear_54 rfl ?_
  refine g_iconst (pc := 55) (v := 0) dX3_clear_55 (by decide +kernel) ?_
  refine fp_X3_clear_53 (pc := 56) (show 17 < 24 by omega) dX3_clear_56 ?_
  exact g_ret (pc := 59) dX3_clear_59 trivial ⟨rfl, rfl⟩
def qcs58 : mg_F := mg_upr qcs57 21 17 (mg_fl (qcs57 21 17) 24 0)
def qcs59 : mg_F := mg_upr qcs58 22 17 (mg_fl (qcs58 22 17) 24 0)
def qcs60 : mg_F := mg_up (mg_up (mg_up (mg_up (mg_up (mg_up (mg_up (mg_up (mg_up (mg_up (mg_up (qcs59) 2 18 2 0) 3 18 2 4294967294) 3 18 3 0) 3 18 4 0) 3 18 5 0) 3 18 6 0) 3 18 7 0) 3 18 8 0) 3 18 9 0) 3 18 10 0) 3 18 11 0
/-- X3_clear(r3.18) at qcs59 -/
theorem qc30 (l : Launch) {Z : mg_Zt} : mg_C l Z mX3_clear [rv Z 3 18] qcs59 (fun v g' => v = none ∧ g' = qcs60) := by
  refine mg_C.of (by decide) rfl (Nat.le_of_ble_eq_true rfl) (List.forall_mem_cons.mpr ⟨rfl, (fun _ h => nomatch h)⟩) (fun K => ?_)
  refine g_aload_n (pc := 0) dX3_clear_0 rfl ?_
  refine fg_X3_clear_12 (pc := 1) (show 18 < 24 by omega) dX3_clear_1 ?_
  refine g_iconst (pc := 4) (v := 0) dX3_clear_4 (by decide +kernel) ?_
  refine fp_X3_clear_22 (pc := 5) (show 18 < 24 by omega) dX3_clear_5 ?_
  refine g_aload_n (pc := 8) dX3_clear_8 rfl ?_
  refine g_bipush (pc := 9) (v := 4294967294) dX3_clear_9 (by decide +kernel) ?_
  refine fp_X3_clear_25 (pc := 11) (show 18 < 24 by omega) dX3_clear_11 ?_
  refine g_aload_n (pc := 14) dX3_clear_14 rfl ?_
  refine g_iconst (pc := 15) (v := 0) dX3_clear_15 (by decide +kernel) ?_
  refine fp_X3_clear_28 (pc := 16) (show 18 < 24 by omega) (by decide) dX3_clear_16 ?_
  refine g_aload_n (pc := 19) dX3_clear_19 rfl ?_
  refine g_iconst (pc := 20) (v := 0) dX3_clear_20 (by decide +kernel) ?_
  refine fp_X3_clear_32 (pc := 21) (show 18 < 24 by omega) dX3_clear_21 ?_
  refine g_aload_n (pc := 24) dX3_clear_24 rfl ?_
  refine g_iconst (pc := 25) (v := 0) dX3_clear_25 (by decide +kernel) ?_
  refine fp_X3_clear_35 (pc := 26) (show 18 < 24 by omega) (by decide) dX3_clear_26 ?_
  refine g_aload_n (pc := 29) dX3_clear_29 rfl ?_
  refine g_iconst (pc := 30) (v := 0) dX3_clear_30 (by decide +kernel) ?_
  refine fp_X3_clear_38 (pc := 31) (show 18 < 24 by omega) (by decide) dX3_clear_31 ?_
  refine g_aload_n (pc := 34) dX3_clear_34 rfl ?_
  refine g_iconst (pc := 35) (v := 0) dX3_clear_35 (by decide +kernel) ?_
  refine fp_X3_clear_41 (pc := 36) (show 18 < 24 by omega) dX3_clear_36 ?_
  refine g_aload_n (pc := 39) dX3_clear_39 rfl ?_
  refine g_iconst (pc := 40) (v := 0) dX3_clear_40 (by decide +kernel) ?_
  refine fp_X3_clear_44 (pc := 41) (show 18 < 24 by omega) dX3_clear_41 ?_
  refine g_aload_n (pc := 44) dX3_clear_44 rfl ?_
  refine g_iconst (pc := 45) (v := 0) dX3_clear_45 (by decide +kernel) ?_
  refine fp_X3_clear_47 (pc := 46) (show 18 < 24 by omega) (by decide) dX3_clear_46 ?_
  refine g_aload_n (pc := 49) dX3_clear_49 rfl ?_
  refine g_iconst (pc := 50) (v := 0) dX3_clear_50 (by decide +kernel) ?_
  refine fp_X3_clear_50 (pc := 51) (show 18 < 24 by omega) dX3_clear_51 ?_
  refine g_aload_n (pc := 54) dX3_clear_54 rfl ?_
  refine g_iconst (pc := 55) (v := 0) dX3_clear_55 (by decide +kernel) ?_
  refine fp_X3_clear_53 (pc := 56) (show 18 < 24 by omega) dX3_clear_56 ?_
  exact g_ret (pc := 59) dX3_clear_59 trivial ⟨rfl, rfl⟩
def qcs61 : mg_F := mg_upr qcs60 21 18 (mg_fl (qcs60 21 18) 24 0)
def qcs62 : mg_F := mg_upr qcs61 22 18 (mg_fl (qcs61 22 18) 24 0)
def qcs63 : mg_F := mg_up (mg_up (mg_up (mg_up (mg_up (mg_up (mg_up (mg_up (mg_up (mg_up (mg_up (qcs62) 2 19 2 0) 3 19 2 4294967294) 3 19 3 0) 3 19 4 0) 3 19 5 0) 3 19 6 0) 3 19 7 0) 3 19 8 0) 3 19 9 0) 3 19 10 0) 3 19 11 0
/-- X3_clear(r3.19) at qcs62 -/
theorem qc31 (l : Launch) {Z : mg_Zt} : mg_C l Z mX3_clear [rv Z 3 19] qcs62 (fun v g' => v = none ∧ g' = qcs63) := by
  refine mg_C.of (by decide) rfl (Nat.le_of_ble_eq_true rfl) (List.forall_mem_cons.mpr ⟨rfl, (fun _ h => nomatch h)⟩) (fun K => ?_)
  refine g_aload_n (pc := 0) dX3_clear_0 rfl ?_
  refine fg_X3_clear_12 (pc := 1) (show 19 < 24 by omega) dX3_clear_1 ?_
  refine g_iconst (pc := 4) (v := 0) dX3_clear_4 (by decide +kernel) ?_
  refine fp_X3_clear_22 (pc := 5) (show 19 < 24 by omega) dX3_clear_5 ?_
  refine g_aload_n (pc := 8) dX3_clear_8 rfl ?_
  refine g_bipush (pc := 9) (v := 4294967294) dX3_clear_9 (by decide +kernel) ?_
  refine fp_X3_clear_25 (pc := 11) (show 19 < 24 by omega) dX3_clear_11 ?_
  refine g_aload_n (pc := 14) dX3_clear_14 rfl ?_
  refine g_iconst (pc := 15) (v := 0) dX3_clear_15 (by decide +kernel) ?_
  refine fp_X3_clear_28 (pc := 16) (show 19 < 24 by omega) (by decide) dX3_clear_16 ?_
  refine g_aload_n (pc := 19) dX3_clear_19 rfl ?_
  refine g_iconst (pc := 20) (v := 0) dX3_clear_20 (by decide +kernel) ?_
  refine fp_X3_clear_32 (pc := 21) (show 19 < 24 by omega) dX3_clear_21 ?_
  refine g_aload_n (pc := 24) dX3_clear_24 rfl ?_
  refine g_iconst (pc := 25) (v := 0) dX3_clear_25 (by decide +kernel) ?_
  refine fp_X3_clear_35 (pc := 26) (show 19 < 24 by omega) (by decide) dX3_clear_26 ?_
  refine g_aload_n (pc := 29) dX3_clear_29 rfl ?_
  refine g_iconst (pc := 30) (v := 0) dX3_clear_30 (by decide +kernel) ?_
  refine fp_X3_clear_38 (pc := 31) (show 19 < 24 by omega) (by decide) dX3_clear_31 ?_
  refine g_aload_n (pc := 34) dX3_clear_34 rfl ?_
  refine g_iconst (pc := 35) (v := 0) dX3_clear_35 (by decide +kernel) ?_
  refine fp_X3_clear_41 (pc := 36) (show 19 < 24 by omega) dX3_clear_36 ?_
  refine g_aload_n (pc := 39) dX3_clear_39 rfl ?_
  refine g_iconst (pc := 40) (v := 0) dX3_clear_40 (by decide +kernel) ?_
  refine fp_X3_clear_44 (pc := 41) (show 19 < 24 by omega) dX3_clear_41 ?_
  refine g_aload_n (pc := 44) dX3_clear_44 rfl ?_
  refine g_iconst (pc := 45) (v := 0) dX3_clear_45 (by decide +kernel) ?_
  refine fp_X3_clear_47 (pc := 46) (show 19 < 24 by omega) (by decide) dX3_clear_46 ?_
  refine g_aload_n (pc := 49) dX3_clear_49 rfl ?_
  refine g_iconst (pc := 50) (v := 0) dX3_clear_50 (by decide +kernel) ?_
  refine fp_X3_clear_50 (pc := 51) (show 19 < 24 by omega) dX3_clear_51 ?_
  refine g_aload_n (pc := 54) dX3_clear_54 rfl ?_
  refine g_iconst (pc := 55) (v := 0) dX3_clear_55 (by decide +kernel) ?_
  refine fp_X3_clear_53 (pc := 56) (show 19 < 24 by omega) dX3_clear_56 ?_
  exact g_ret (pc := 59) dX3_clear_59 trivial ⟨rfl, rfl⟩
def qcs64 : mg_F := mg_upr qcs63 21 19 (mg_fl (qcs63 21 19) 24 0)
def qcs65 : mg_F := mg_upr qcs64 22 19 (mg_fl (qcs64 22 19) 24 0)
def qcs66 : mg_F := mg_up (mg_up (mg_up (mg_up (mg_up (mg_up (mg_up (mg_up (mg_up (mg_up (mg_up (qcs65) 2 20 2 0) 3 20 2 4294967294) 3 20 3 0) 3 20 4 0) 3 20 5 0) 3 20 6 0) 3 20 7 0) 3 20 8 0) 3 20 9 0) 3 20 10 0) 3 20 11 0
/-- X3_clear(r3.20) at qcs65 -/
theorem qc32 (l : Launch) {Z : mg_Zt} : mg_C l Z mX3_clear [rv Z 3 20] qcs65 (fun v g' => v = none ∧ g' = qcs66) := by
  refine mg_C.of (by decide) rfl (Nat.le_of_ble_eq_true rfl) (List.forall_mem_cons.mpr ⟨rfl, (fun _ h => nomatch h)⟩) (fun K => ?_)
  refine g_aload_n (pc := 0) dX3_clear_0 rfl ?_
  refine fg_X3_clear_12 (pc := 1) (show 20 < 24 by omega) dX3_clear_1 ?_
  refine g_iconst (pc := 4) (v := 0) dX3_clear_4 (by decide +kernel) ?_
  refine fp_X3_clear_22 (pc := 5) (show 20 < 24 by omega) dX3_clear_5 ?_
  refine g_aload_n (pc := 8) dX3_clear_8 rfl ?_
  refine g_bipush (pc := 9) (v := 4294967294) dX3_clear_9 (by decide +kernel) ?_
  refine fp_X3_clear_25 (pc := 11) (show 20 < 24 by omega) dX3_clear_11 ?_
  refine g_aload_n (pc := 14) dX3_clear_14 rfl ?_
  refine g_iconst (pc := 15) (v := 0) dX3_clear_15 (by decide +kernel) ?_
  refine fp_X3_clear_28 (pc := 16) (show 20 < 24 by omega) (by decide) dX3_clear_16 ?_
  refine g_aload_n (pc := 19) dX3_clear_19 rfl ?_
  refine g_iconst (pc := 20) (v := 0) dX3_clear_20 (by decide +kernel) ?_
  refine fp_X3_clear_32 (pc := 21) (show 20 < 24 by omega) dX3_clear_21 ?_
  refine g_aload_n (pc := 24) dX3_clear_24 rfl ?_
  refine g_iconst (pc := 25) (v := 0) dX3_clear_25 (by decide +kernel) ?_
  refine fp_X3_clear_35 (pc := 26) (show 20 < 24 by omega) (by decide) dX3_clear_26 ?_
  refine g_aload_n (pc := 29) dX3_clear_29 rfl ?_
  refine g_iconst (pc := 30) (v := 0) dX3_clear_30 (by decide +kernel) ?_
  refine fp_X3_clear_38 (pc := 31) (show 20 < 24 by omega) (by decide) dX3_clear_31 ?_
  refine g_aload_n (pc := 34) dX3_clear_34 rfl ?_
  refine g_iconst (pc := 35) (v := 0) dX3_clear_35 (by decide +kernel) ?_
  refine fp_X3_clear_41 (pc := 36) (show 20 < 24 by omega) dX3_clear_36 ?_
  refine g_aload_n (pc := 39) dX3_clear_39 rfl ?_
  refine g_iconst (pc := 40) (v := 0) dX3_clear_40 (by decide +kernel) ?_
  refine fp_X3_clear_44 (pc := 41) (show 20 < 24 by omega) dX3_clear_41 ?_
  refine g_aload_n (pc := 44) dX3_clear_44 rfl ?_
  refine g_iconst (pc := 45) (v := 0) dX3_clear_45 (by decide +kernel) ?_
  refine fp_X3_clear_47 (pc := 46) (show 20 < 24 by omega) (by decide) dX3_clear_46 ?_
  refine g_aload_n (pc := 49) dX3_clear_49 rfl ?_
  refine g_iconst (pc := 50) (v := 0) dX3_clear_50 (by decide +kernel) ?_
  refine fp_X3_clear_50 (pc := 51) (show 20 < 24 by omega) dX3_clear_51 ?_
  refine g_aload_n (pc := 54) dX3_clear_54 rfl ?_
  refine g_iconst (pc := 55) (v := 0) dX3_clear_55 (by decide +kernel) ?_
  refine fp_X3_clear_53 (pc := 56) (show 20 < 24 by omega) dX3_clear_56 ?_
  exact g_ret (pc := 59) dX3_clear_59 trivial ⟨rfl, rfl⟩
def qcs67 : mg_F := mg_upr qcs66 21 20 (mg_fl (qcs66 21 20) 24 0)
def qcs68 : mg_F := mg_upr qcs67 22 20 (mg_fl (qcs67 22 20) 24 0)
def qcs69 : mg_F := mg_up (mg_up (mg_up (mg_up (mg_up (mg_up (mg_up (mg_up (mg_up (mg_up (mg_up (qcs68) 2 21 2 0) 3 21 2 4294967294) 3 21 3 0) 3 21 4 0) 3 21 5 0) 3 21 6 0) 3 21 7 0) 3 21 8 0) 3 21 9 0) 3 21 10 0) 3 21 11 0
/-- X3_clear(r3.21) at qcs68 -/
theorem qc33 (l : Launch) {Z : mg_Zt} : mg_C l Z mX3_clear [rv Z 3 21] qcs68 (fun v g' => v = none ∧ g' = qcs69) := by
  refine mg_C.of (by decide) rfl (Nat.le_of_ble_eq_true rfl) (List.forall_mem_cons.mpr ⟨rfl, (fun _ h => nomatch h)⟩) (fun K => ?_)
  refine g_aload_n (pc := 0) dX3_clear_0 rfl ?_
  refine fg_X3_clear_12 (pc := 1) (show 21 < 24 by omega) dX3_clear_1 ?_
  refine g_iconst (pc := 4) (v := 0) dX3_clear_4 (by decide +kernel) ?_
  refine fp_X3_clear_22 (pc := 5) (show 21 < 24 by omega) dX3_clear_5 ?_
  refine g_aload_n (pc := 8) dX3_clear_8 rfl ?_
  refine g_bipush (pc := 9) (v := 4294967294) dX3_clear_9 (by decide +kernel) ?_
  refine fp_X3_clear_25 (pc := 11) (show 21 < 24 by omega) dX3_clear_11 ?_
  refine g_aload_n (pc := 14) dX3_clear_14 rfl ?_
  refine g_iconst (pc := 15) (v := 0) dX3_clear_15 (by decide +kernel) ?_
  refine fp_X3_clear_28 (pc := 16) (show 21 < 24 by omega) (by decide) dX3_clear_16 ?_
  refine g_aload_n (pc := 19) dX3_clear_19 rfl ?_
  refine g_iconst (pc := 20) (v := 0) dX3_clear_20 (by decide +kernel) ?_
  refine fp_X3_clear_32 (pc := 21) (show 21 < 24 by omega) dX3_clear_21 ?_
  refine g_aload_n (pc := 24) dX3_clear_24 rfl ?_
  refine g_iconst (pc := 25) (v := 0) dX3_clear_25 (by decide +kernel) ?_
  refine fp_X3_clear_35 (pc := 26) (show 21 < 24 by omega) (by decide) dX3_clear_26 ?_
  refine g_aload_n (pc := 29) dX3_clear_29 rfl ?_
  refine g_iconst (pc := 30) (v := 0) dX3_clear_30 (by decide +kernel) ?_
  refine fp_X3_clear_38 (pc := 31) (show 21 < 24 by omega) (by decide) dX3_clear_31 ?_
  refine g_aload_n (pc := 34) dX3_clear_34 rfl ?_
  refine g_iconst (pc := 35) (v := 0) dX3_clear_35 (by decide +kernel) ?_
  refine fp_X3_clear_41 (pc := 36) (show 21 < 24 by omega) dX3_clear_36 ?_
  refine g_aload_n (pc := 39) dX3_clear_39 rfl ?_
  refine g_iconst (pc := 40) (v := 0) dX3_clear_40 (by decide +kernel) ?_
  refine fp_X3_clear_44 (pc := 41) (show 21 < 24 by omega) dX3_clear_41 ?_
  refine g_aload_n (pc := 44) dX3_clear_44 rfl ?_
  refine g_iconst (pc := 45) (v := 0) dX3_clear_45 (by decide +kernel) ?_
  refine fp_X3_clear_47 (pc := 46) (show 21 < 24 by omega) (by decide) dX3_clear_46 ?_
  refine g_aload_n (pc := 49) dX3_clear_49 rfl ?_
  refine g_iconst (pc := 50) (v := 0) dX3_clear_50 (by decide +kernel) ?_
  refine fp_X3_clear_50 (pc := 51) (show 21 < 24 by omega) dX3_clear_51 ?_
  refine g_aload_n (pc := 54) dX3_clear_54 rfl ?_
  refine g_iconst (pc := 55) (v := 0) dX3_clear_55 (by decide +kernel) ?_
  refine fp_X3_clear_53 (pc := 56) (show 21 < 24 by omega) dX3_clear_56 ?_
  exact g_ret (pc := 59) dX3_clear_59 trivial ⟨rfl, rfl⟩
def qcs70 : mg_F := mg_upr qcs69 21 21 (mg_fl (qcs69 21 21) 24 0)
def qcs71 : mg_F := mg_upr qcs70 22 21 (mg_fl (qcs70 22 21) 24 0)
def qcs72 : mg_F := mg_up (mg_up (mg_up (mg_up (mg_up (mg_up (mg_up (mg_up (mg_up (mg_up (mg_up (qcs71) 2 22 2 0) 3 22 2 4294967294) 3 22 3 0) 3 22 4 0) 3 22 5 0) 3 22 6 0) 3 22 7 0) 3 22 8 0) 3 22 9 0) 3 22 10 0) 3 22 11 0
/-- X3_clear(r3.22) at qcs71 -/
theorem qc34 (l : Launch) {Z : mg_Zt} : mg_C l Z mX3_clear [rv Z 3 22] qcs71 (fun v g' => v = none ∧ g' = qcs72) := by
  refine mg_C.of (by decide) rfl (Nat.le_of_ble_eq_true rfl) (List.forall_mem_cons.mpr ⟨rfl, (fun _ h => nomatch h)⟩) (fun K => ?_)
  refine g_aload_n (pc := 0) dX3_clear_0 rfl ?_
  refine fg_X3_clear_12 (pc := 1) (show 22 < 24 by omega) dX3_clear_1 ?_
  refine g_iconst (pc := 4) (v := 0) dX3_clear_4 (by decide +kernel) ?_
  refine fp_X3_clear_22 (pc := 5) (show 22 < 24 by omega) dX3_clear_5 ?_
  refine g_aload_n (pc := 8) dX3_clear_8 rfl ?_
  refine g_bipush (pc := 9) (v := 4294967294) dX3_clear_9 (by decide +kernel) ?_
  refine fp_X3_clear_25 (pc := 11) (show 22 < 24 by omega) dX3_clear_11 ?_
  refine g_aload_n (pc := 14) dX3_clear_14 rfl ?_
  refine g_iconst (pc := 15) (v := 0) dX3_clear_15 (by decide +kernel) ?_
  refine fp_X3_clear_28 (pc := 16) (show 22 < 24 by omega) (by decide) dX3_clear_16 ?_
  refine g_aload_n (pc := 19) dX3_clear_19 rfl ?_
  refine g_iconst (pc := 20) (v := 0) dX3_clear_20 (by decide +kernel) ?_
  refine fp_X3_clear_32 (pc := 21) (show 22 < 24 by omega) dX3_clear_21 ?_
  refine g_aload_n (pc := 24) dX3_clear_24 rfl ?_
  refine g_iconst (pc := 25) (v := 0) dX3_clear_25 (by decide +kernel) ?_
  refine fp_X3_clear_35 (pc := 26) (show 22 < 24 by omega) (by decide) dX3_clear_26 ?_
  refine g_aload_n (pc := 29) dX3_clear_29 rfl ?_
  refine g_iconst (pc := 30) (v := 0) dX3_clear_30 (by decide +kernel) ?_
  refine fp_X3_clear_38 (pc := 31) (show 22 < 24 by omega) (by decide) dX3_clear_31 ?_
  refine g_aload_n (pc := 34) dX3_clear_34 rfl ?_
  refine g_iconst (pc := 35) (v := 0) dX3_clear_35 (by decide +kernel) ?_
  refine fp_X3_clear_41 (pc := 36) (show 22 < 24 by omega) dX3_clear_36 ?_
  refine g_aload_n (pc := 39) dX3_clear_39 rfl ?_
  refine g_iconst (pc := 40) (v := 0) dX3_clear_40 (by decide +kernel) ?_
  refine fp_X3_clear_44 (pc := 41) (show 22 < 24 by omega) dX3_clear_41 ?_
  refine g_aload_n (pc := 44) dX3_clear_44 rfl ?_
  refine g_iconst (pc := 45) (v := 0) dX3_clear_45 (by decide +kernel) ?_
  refine fp_X3_clear_47 (pc := 46) (show 22 < 24 by omega) (by decide) dX3_clear_46 ?_
  refine g_aload_n (pc := 49) dX3_clear_49 rfl ?_
  refine g_iconst (pc := 50) (v := 0) dX3_clear_50 (by decide +kernel) ?_
  refine fp_X3_clear_50 (pc := 51) (show 22 < 24 by omega) dX3_clear_51 ?_
  refine g_aload_n (pc := 54) dX3_clear_54 rfl ?_
  refine g_iconst (pc := 55) (v := 0) dX3_clear_55 (by decide +kernel) ?_
  refine fp_X3_clear_53 (pc := 56) (show 22 < 24 by omega) dX3_clear_56 ?_
  exact g_ret (pc := 59) dX3_clear_59 trivial ⟨rfl, rfl⟩
def qcs73 : mg_F := mg_upr qcs72 21 22 (mg_fl (qcs72 21 22) 24 0)
def qcs74 : mg_F := mg_upr qcs73 22 22 (mg_fl (qcs73 22 22) 24 0)
def qcs75 : mg_F := mg_up (mg_up (mg_up (mg_up (mg_up (mg_up (mg_up (mg_up (mg_up (mg_up (mg_up (qcs74) 2 23 2 0) 3 23 2 4294967294) 3 23 3 0) 3 23 4 0) 3 23 5 0) 3 23 6 0) 3 23 7 0) 3 23 8 0) 3 23 9 0) 3 23 10 0) 3 23 11 0
/-- X3_clear(r3.23) at qcs74 -/
theorem qc35 (l : Launch) {Z : mg_Zt} : mg_C l Z mX3_clear [rv Z 3 23] qcs74 (fun v g' => v = none ∧ g' = qcs75) := by
  refine mg_C.of (by decide) rfl (Nat.le_of_ble_eq_true rfl) (List.forall_mem_cons.mpr ⟨rfl, (fun _ h => nomatch h)⟩) (fun K => ?_)
  refine g_aload_n (pc := 0) dX3_clear_0 rfl ?_
  refine fg_X3_clear_12 (pc := 1) (show 23 < 24 by omega) dX3_clear_1 ?_
  refine g_iconst (pc := 4) (v := 0) dX3_clear_4 (by decide +kernel) ?_
  refine fp_X3_clear_22 (pc := 5) (show 23 < 24 by omega) dX3_clear_5 ?_
  refine g_aload_n (pc := 8) dX3_clear_8 rfl ?_
  refine g_bipush (pc := 9) (v := 4294967294) dX3_clear_9 (by decide +kernel) ?_
  refine fp_X3_clear_25 (pc := 11) (show 23 < 24 by omega) dX3_clear_11 ?_
  refine g_aload_n (pc := 14) dX3_clear_14 rfl ?_
  refine g_iconst (pc := 15) (v := 0) dX3_clear_15 (by decide +kernel) ?_
  refine fp_X3_clear_28 (pc := 16) (show 23 < 24 by omega) (by decide) dX3_clear_16 ?_
  refine g_aload_n (pc := 19) dX3_clear_19 rfl ?_
  refine g_iconst (pc := 20) (v := 0) dX3_clear_20 (by decide +kernel) ?_
  refine fp_X3_clear_32 (pc := 21) (show 23 < 24 by omega) dX3_clear_21 ?_
  refine g_aload_n (pc := 24) dX3_clear_24 rfl ?_
  refine g_iconst (pc := 25) (v := 0) dX3_clear_25 (by decide +kernel) ?_
  refine fp_X3_clear_35 (pc := 26) (show 23 < 24 by omega) (by decide) dX3_clear_26 ?_
  refine g_aload_n (pc := 29) dX3_clear_29 rfl ?_
  refine g_iconst (pc := 30) (v := 0) dX3_clear_30 (by decide +kernel) ?_
  refine fp_X3_clear_38 (pc := 31) (show 23 < 24 by omega) (by decide) dX3_clear_31 ?_
  refine g_aload_n (pc := 34) dX3_clear_34 rfl ?_
  refine g_iconst (pc := 35) (v := 0) dX3_clear_35 (by decide +kernel) ?_
  refine fp_X3_clear_41 (pc := 36) (show 23 < 24 by omega) dX3_clear_36 ?_
  refine g_aload_n (pc := 39) dX3_clear_39 rfl ?_
  refine g_iconst (pc := 40) (v := 0) dX3_clear_40 (by decide +kernel) ?_
  refine fp_X3_clear_44 (pc := 41) (show 23 < 24 by omega) dX3_clear_41 ?_
  refine g_aload_n (pc := 44) dX3_clear_44 rfl ?_
  refine g_iconst (pc := 45) (v := 0) dX3_clear_45 (by decide +kernel) ?_
  refine fp_X3_clear_47 (pc := 46) (show 23 < 24 by omega) (by decide) dX3_clear_46 ?_
  refine g_aload_n (pc := 49) dX3_clear_49 rfl ?_
  refine g_iconst (pc := 50) (v := 0) dX3_clear_50 (by decide +kernel) ?_
  refine fp_X3_clear_50 (pc := 51) (show 23 < 24 by omega) dX3_clear_51 ?_
  refine g_aload_n (pc := 54) dX3_clear_54 rfl ?_
  refine g_iconst (pc := 55) (v := 0) dX3_clear_55 (by decide +kernel) ?_
  refine fp_X3_clear_53 (pc := 56) (show 23 < 24 by omega) dX3_clear_56 ?_
  exact g_ret (pc := 59) dX3_clear_59 trivial ⟨rfl, rfl⟩
def qcs76 : mg_F := mg_upr qcs75 21 23 (mg_fl (qcs75 21 23) 24 0)
def qcs77 : mg_F := mg_upr qcs76 22 23 (mg_fl (qcs76 22 23) 24 0)
def qcs78 : mg_F := mg_up (qcs77) 3 0 2 0
/-- X4_contains(2, 0) at qcs78 -/
theorem qc36 (l : Launch) {Z : mg_Zt} : mg_C l Z mX4_contains [iv 2, iv 0] qcs78 (fun v g' => v = some 0 ∧ g' = qcs78) := by
  refine mg_C.of (by decide) rfl (Nat.le_of_ble_eq_true rfl) (List.forall_mem_cons.mpr ⟨rfl, (List.forall_mem_cons.mpr ⟨rfl, (fun _ h => nomatch h)⟩)⟩) (fun K => ?_)
  refine g_iload_n (pc := 0) dX4_contains_0 rfl ?_
  refine g_iconst (pc := 1) (v := 1) dX4_contains_1 (by decide +kernel) ?_
  refine g_iload_n (pc := 2) dX4_contains_2 rfl ?_
  refine g_ishl (pc := 3) (by decide) dX4_contains_3 ?_
  refine g_top (b := 1) (by decide +kernel) ?_
  refine g_iand (pc := 4) dX4_contains_4 ?_
  refine g_top (b := 0) (by decide +kernel) ?_
  refine g_if_eq (pc := 5) 12 dX4_contains_5 (by decide) (by decide) (fun _ => ?_) (fun h => absurd (by decide) h)
  refine g_iconst (pc := 12) (v := 0) dX4_contains_12 (by decide +kernel) ?_
  exact g_iret (pc := 13) dX4_contains_13 ⟨mg_narZ (by decide), Or.inr rfl⟩ ⟨rfl, rfl⟩
/-- X0_linked(r0.0, 0, 0) at qcs78 -/
theorem qc37 (l : Launch) {Z : mg_Zt} : mg_C l Z mX0_linked [rv Z 0 0, iv 0, iv 0] qcs78 (fun v g' => v = some 0 ∧ g' = qcs78) := by
  refine mg_C.of (by decide) rfl (Nat.le_of_ble_eq_true rfl) (List.forall_mem_cons.mpr ⟨rfl, (List.forall_mem_cons.mpr ⟨rfl, (List.forall_mem_cons.mpr ⟨rfl, (fun _ h => nomatch h)⟩)⟩)⟩) (fun K => ?_)
  refine g_aload_n (pc := 0) dX0_linked_0 rfl ?_
  refine fg_X0_linked_9 (pc := 1) dX0_linked_1 ?_
  refine g_iload_n (pc := 4) dX0_linked_4 rfl ?_
  refine g_iaload (pc := 5) (k := 10) (i := 0) (n := 24) (show 0 < 1 by omega) rfl (by decide) (by decide) dX0_linked_5 ?_
  refine g_top (b := 2) (by decide +kernel) ?_
  refine g_iload_n (pc := 6) dX0_linked_6 rfl ?_
  refine g_callNi (pc := 7) (Y' := mX4_contains) (As := [iv 2, iv 0]) (st := []) (qc36 K.2.1) gX0_linked_X4_contains_n28 rfl (fun _ h => h.2.2.1) (by decide +kernel) (by decide +kernel) (na := 2) rfl (by decide +kernel) (by decide) (by decide) (Nat.le_of_ble_eq_true rfl) dX0_linked_7 (fun r1 g1 hp => ?_)
  obtain ⟨h1, rfl⟩ := hp
  cases h1
  exact g_iret (pc := 10) dX0_linked_10 ⟨mg_narZ (by decide), Or.inr rfl⟩ ⟨rfl, rfl⟩
/-- X4_contains(2, 1) at qcs78 -/
theorem qc38 (l : Launch) {Z : mg_Zt} : mg_C l Z mX4_contains [iv 2, iv 1] qcs78 (fun v g' => v = some 1 ∧ g' = qcs78) := by
  refine mg_C.of (by decide) rfl (Nat.le_of_ble_eq_true rfl) (List.forall_mem_cons.mpr ⟨rfl, (List.forall_mem_cons.mpr ⟨rfl, (fun _ h => nomatch h)⟩)⟩) (fun K => ?_)
  refine g_iload_n (pc := 0) dX4_contains_0 rfl ?_
  refine g_iconst (pc := 1) (v := 1) dX4_contains_1 (by decide +kernel) ?_
  refine g_iload_n (pc := 2) dX4_contains_2 rfl ?_
  refine g_ishl (pc := 3) (by decide) dX4_contains_3 ?_
  refine g_top (b := 2) (by decide +kernel) ?_
  refine g_iand (pc := 4) dX4_contains_4 ?_
  refine g_top (b := 2) (by decide +kernel) ?_
  refine g_if_eq (pc := 5) 12 dX4_contains_5 (by decide) (by decide) (fun h => absurd h (by decide)) (fun _ => ?_)
  refine g_iconst (pc := 8) (v := 1) dX4_contains_8 (by decide +kernel) ?_
  refine g_goto (pc := 9) 13 dX4_contains_9 (by decide) ?_
  exact g_iret (pc := 13) dX4_contains_13 ⟨mg_narZ (by decide), Or.inr rfl⟩ ⟨rfl, rfl⟩
/-- X0_linked(r0.0, 0, 1) at qcs78 -/
theorem qc39 (l : Launch) {Z : mg_Zt} : mg_C l Z mX0_linked [rv Z 0 0, iv 0, iv 1] qcs78 (fun v g' => v = some 1 ∧ g' = qcs78) := by
  refine mg_C.of (by decide) rfl (Nat.le_of_ble_eq_true rfl) (List.forall_mem_cons.mpr ⟨rfl, (List.forall_mem_cons.mpr ⟨rfl, (List.forall_mem_cons.mpr ⟨rfl, (fun _ h => nomatch h)⟩)⟩)⟩) (fun K => ?_)
  refine g_aload_n (pc := 0) dX0_linked_0 rfl ?_
  refine fg_X0_linked_9 (pc := 1) dX0_linked_1 ?_
  refine g_iload_n (pc := 4) dX0_linked_4 rfl ?_
  refine g_iaload (pc := 5) (k := 10) (i := 0) (n := 24) (show 0 < 1 by omega) rfl (by decide) (by decide) dX0_linked_5 ?_
  refine g_top (b := 2) (by decide +kernel) ?_
  refine g_iload_n (pc := 6) dX0_linked_6 rfl ?_
  refine g_callNi (pc := 7) (Y' := mX4_contains) (As := [iv 2, iv 1]) (st := []) (qc38 K.2.1) gX0_linked_X4_contains_n28 rfl (fun _ h => h.2.2.1) (by decide +kernel) (by decide +kernel) (na := 2) rfl (by decide +kernel) (by decide) (by decide) (Nat.le_of_ble_eq_true rfl) dX0_linked_7 (fun r1 g1 hp => ?_)
  obtain ⟨h1, rfl⟩ := hp
  cases h1
  exact g_iret (pc := 10) dX0_linked_10 ⟨mg_narZ (by decide), Or.inr rfl⟩ ⟨rfl, rfl⟩
def qcs79 : mg_F := mg_up (qcs78) 3 1 2 0
/-- X4_pointNeighboursTo(r4.0, 0) at qcs78 -/
theorem qc40 (l : Launch) {Z : mg_Zt} : mg_C l Z mX4_pointNeighboursTo [rv Z 4 0, iv 0] qcs78 (fun v g' => v = none ∧ g' = qcs79) := by
  refine mg_C.of (by decide) rfl (Nat.le_of_ble_eq_true rfl) (List.forall_mem_cons.mpr ⟨rfl, (List.forall_mem_cons.mpr ⟨rfl, (fun _ h => nomatch h)⟩)⟩) (fun K => ?_)
  refine g_iconst (pc := 0) (v := 0) dX4_pointNeighboursTo_0 (by decide +kernel) ?_
  refine g_istore_n (pc := 1) (ls' := [rv Z 4 0, iv 0, iv 0]) dX4_pointNeighboursTo_1 (Nat.le_of_ble_eq_true rfl) (Nat.le_of_ble_eq_true rfl) rfl ?_
  refine g_iload_n (pc := 2) dX4_pointNeighboursTo_2 rfl ?_
  refine g_aload_n (pc := 3) dX4_pointNeighboursTo_3 rfl ?_
  refine fg_X4_pointNeighboursTo_10 (pc := 4) dX4_pointNeighboursTo_4 ?_
  refine fg_X4_pointNeighboursTo_229 (pc := 7) dX4_pointNeighboursTo_7 ?_
  refine g_top (b := 2) (by decide +kernel) ?_
  refine g_icmp_ge (pc := 10) 55 dX4_pointNeighboursTo_10 (by decide) (by decide) (by decide) (fun h => absurd h (by decide)) (fun _ => ?_)
  refine g_aload_n (pc := 13) dX4_pointNeighboursTo_13 rfl ?_
  refine fg_X4_pointNeighboursTo_10 (pc := 14) dX4_pointNeighboursTo_14 ?_
  refine g_iload_n (pc := 17) dX4_pointNeighboursTo_17 rfl ?_
  refine g_iload_n (pc := 18) dX4_pointNeighboursTo_18 rfl ?_
  refine g_callVi (pc := 19) (Y' := mX0_linked) (As := [iv 0, iv 0]) (st := []) (k := 0) (i := 0) (qc37 K.2.1) gX4_pointNeighboursTo_X0_linked rfl (show 0 < 1 by omega) rfl rfl (na := 2) rfl (by decide +kernel) (by decide) (by decide) (Nat.le_of_ble_eq_true rfl) dX4_pointNeighboursTo_19 (fun r1 g1 hp => ?_)
  obtain ⟨h1, rfl⟩ := hp
  cases h1
  refine g_if_eq (pc := 22) 49 dX4_pointNeighboursTo_22 (by decide) (by decide) (fun _ => ?_) (fun h => absurd (by decide) h)
  refine g_iinc (pc := 49) (v := 1) (ls' := [rv Z 4 0, iv 0, iv 1]) dX4_pointNeighboursTo_49 (Nat.le_of_ble_eq_true rfl) rfl (by decide +kernel) rfl ?_
  refine g_goto (pc := 52) 2 dX4_pointNeighboursTo_52 (by decide) ?_
  refine g_iload_n (pc := 2) dX4_pointNeighboursTo_2 rfl ?_
  refine g_aload_n (pc := 3) dX4_pointNeighboursTo_3 rfl ?_
  refine fg_X4_pointNeighboursTo_10 (pc := 4) dX4_pointNeighboursTo_4 ?_
  refine fg_X4_pointNeighboursTo_229 (pc := 7) dX4_pointNeighboursTo_7 ?_
  refine g_top (b := 2) (by decide +kernel) ?_
  refine g_icmp_ge (pc := 10) 55 dX4_pointNeighboursTo_10 (by decide) (by decide) (by decide) (fun h => absurd h (by decide)) (fun _ => ?_)
  refine g_aload_n (pc := 13) dX4_pointNeighboursTo_13 rfl ?_
  refine fg_X4_pointNeighboursTo_10 (pc := 14) dX4_pointNeighboursTo_14 ?_
  refine g_iload_n (pc := 17) dX4_pointNeighboursTo_17 rfl ?_
  refine g_iload_n (pc := 18) dX4_pointNeighboursTo_18 rfl ?_
  refine g_callVi (pc := 19) (Y' := mX0_linked) (As := [iv 0, iv 1]) (st := []) (k := 0) (i := 0) (qc39 K.2.1) gX4_pointNeighboursTo_X0_linked rfl (show 0 < 1 by omega) rfl rfl (na := 2) rfl (by decide +kernel) (by decide) (by decide) (Nat.le_of_ble_eq_true rfl) dX4_pointNeighboursTo_19 (fun r1 g1 hp => ?_)
  obtain ⟨h1, rfl⟩ := hp
  cases h1
  refine g_if_eq (pc := 22) 49 dX4_pointNeighboursTo_22 (by decide) (by decide) (fun h => absurd h (by decide)) (fun _ => ?_)
  refine g_aload_n (pc := 25) dX4_pointNeighboursTo_25 rfl ?_
  refine fg_X4_pointNeighboursTo_18 (pc := 26) dX4_pointNeighboursTo_26 ?_
  refine g_iload_n (pc := 29) dX4_pointNeighboursTo_29 rfl ?_
  refine g_aastation (pc := 30) (a := 1) (by decide) dX4_pointNeighboursTo_30 ?_
  refine fg_X4_pointNeighboursTo_258 (pc := 31) (show 1 < 24 by omega) dX4_pointNeighboursTo_31 ?_
  refine g_top (b := 4294967294) (by decide +kernel) ?_
  refine g_bipush (pc := 34) (v := 4294967294) dX4_pointNeighboursTo_34 (by decide +kernel) ?_
  refine g_icmp_ne (pc := 36) 49 dX4_pointNeighboursTo_36 (by decide) (by decide) (by decide) (fun h => absurd (by decide) h) (fun _ => ?_)
  refine g_aload_n (pc := 39) dX4_pointNeighboursTo_39 rfl ?_
  refine fg_X4_pointNeighboursTo_18 (pc := 40) dX4_pointNeighboursTo_40 ?_
  refine g_iload_n (pc := 43) dX4_pointNeighboursTo_43 rfl ?_
  refine g_aastation (pc := 44) (a := 1) (by decide) dX4_pointNeighboursTo_44 ?_
  refine g_iload_n (pc := 45) dX4_pointNeighboursTo_45 rfl ?_
  refine fp_X4_pointNeighboursTo_258 (pc := 46) (show 1 < 24 by omega) dX4_pointNeighboursTo_46 ?_
  refine g_iinc (pc := 49) (v := 2) (ls' := [rv Z 4 0, iv 0, iv 2]) dX4_pointNeighboursTo_49 (Nat.le_of_ble_eq_true rfl) rfl (by decide +kernel) rfl ?_
  refine g_goto (pc := 52) 2 dX4_pointNeighboursTo_52 (by decide) ?_
  refine g_iload_n (pc := 2) dX4_pointNeighboursTo_2 rfl ?_
  refine g_aload_n (pc := 3) dX4_pointNeighboursTo_3 rfl ?_
  refine fg_X4_pointNeighboursTo_10 (pc := 4) dX4_pointNeighboursTo_4 ?_
  refine fg_X4_pointNeighboursTo_229 (pc := 7) dX4_pointNeighboursTo_7 ?_
  refine g_top (b := 2) (by decide +kernel) ?_
  refine g_icmp_ge (pc := 10) 55 dX4_pointNeighboursTo_10 (by decide) (by decide) (by decide) (fun _ => ?_) (fun h => absurd (by decide) h)
  exact g_ret (pc := 55) dX4_pointNeighboursTo_55 trivial ⟨rfl, rfl⟩
/-- X4_contains(1, 0) at qcs79 -/
theorem qc41 (l : Launch) {Z : mg_Zt} : mg_C l Z mX4_contains [iv 1, iv 0] qcs79 (fun v g' => v = some 1 ∧ g' = qcs79) := by
  refine mg_C.of (by decide) rfl (Nat.le_of_ble_eq_true rfl) (List.forall_mem_cons.mpr ⟨rfl, (List.forall_mem_cons.mpr ⟨rfl, (fun _ h => nomatch h)⟩)⟩) (fun K => ?_)
  refine g_iload_n (pc := 0) dX4_contains_0 rfl ?_
  refine g_iconst (pc := 1) (v := 1) dX4_contains_1 (by decide +kernel) ?_
  refine g_iload_n (pc := 2) dX4_contains_2 rfl ?_
  refine g_ishl (pc := 3) (by decide) dX4_contains_3 ?_
  refine g_top (b := 1) (by decide +kernel) ?_
  refine g_iand (pc := 4) dX4_contains_4 ?_
  refine g_top (b := 1) (by decide +kernel) ?_
  refine g_if_eq (pc := 5) 12 dX4_contains_5 (by decide) (by decide) (fun h => absurd h (by decide)) (fun _ => ?_)
  refine g_iconst (pc := 8) (v := 1) dX4_contains_8 (by decide +kernel) ?_
  refine g_goto (pc := 9) 13 dX4_contains_9 (by decide) ?_
  exact g_iret (pc := 13) dX4_contains_13 ⟨mg_narZ (by decide), Or.inr rfl⟩ ⟨rfl, rfl⟩
/-- X0_linked(r0.0, 1, 0) at qcs79 -/
theorem qc42 (l : Launch) {Z : mg_Zt} : mg_C l Z mX0_linked [rv Z 0 0, iv 1, iv 0] qcs79 (fun v g' => v = some 1 ∧ g' = qcs79) := by
  refine mg_C.of (by decide) rfl (Nat.le_of_ble_eq_true rfl) (List.forall_mem_cons.mpr ⟨rfl, (List.forall_mem_cons.mpr ⟨rfl, (List.forall_mem_cons.mpr ⟨rfl, (fun _ h => nomatch h)⟩)⟩)⟩) (fun K => ?_)
  refine g_aload_n (pc := 0) dX0_linked_0 rfl ?_
  refine fg_X0_linked_9 (pc := 1) dX0_linked_1 ?_
  refine g_iload_n (pc := 4) dX0_linked_4 rfl ?_
  refine g_iaload (pc := 5) (k := 10) (i := 0) (n := 24) (show 0 < 1 by omega) rfl (by decide) (by decide) dX0_linked_5 ?_
  refine g_top (b := 1) (by decide +kernel) ?_
  refine g_iload_n (pc := 6) dX0_linked_6 rfl ?_
  refine g_callNi (pc := 7) (Y' := mX4_contains) (As := [iv 1, iv 0]) (st := []) (qc41 K.2.1) gX0_linked_X4_contains_n28 rfl (fun _ h => h.2.2.1) (by decide +kernel) (by decide +kernel) (na := 2) rfl (by decide +kernel) (by decide) (by decide) (Nat.le_of_ble_eq_true rfl) dX0_linked_7 (fun r1 g1 hp => ?_)
  obtain ⟨h1, rfl⟩ := hp
  cases h1
  exact g_iret (pc := 10) dX0_linked_10 ⟨mg_narZ (by decide), Or.inr rfl⟩ ⟨rfl, rfl⟩
/-- X4_contains(1, 1) at qcs79 -/
theorem qc43 (l : Launch) {Z : mg_Zt} : mg_C l Z mX4_contains [iv 1, iv 1] qcs79 (fun v g' => v = some 0 ∧ g' = qcs79) := by
  refine mg_C.of (by decide) rfl (Nat.le_of_ble_eq_true rfl) (List.forall_mem_cons.mpr ⟨rfl, (List.forall_mem_cons.mpr ⟨rfl, (fun _ h => nomatch h)⟩)⟩) (fun K => ?_)
  refine g_iload_n (pc := 0) dX4_contains_0 rfl ?_
  refine g_iconst (pc := 1) (v := 1) dX4_contains_1 (by decide +kernel) ?_
  refine g_iload_n (pc := 2) dX4_contains_2 rfl ?_
  refine g_ishl (pc := 3) (by decide) dX4_contains_3 ?_
  refine g_top (b := 2) (by decide +kernel) ?_
  refine g_iand (pc := 4) dX4_contains_4 ?_
  refine g_top (b := 0) (by decide +kernel) ?_
  refine g_if_eq (pc := 5) 12 dX4_contains_5 (by decide) (by decide) (fun _ => ?_) (fun h => absurd (by decide) h)
  refine g_iconst (pc := 12) (v := 0) dX4_contains_12 (by decide +kernel) ?_
  exact g_iret (pc := 13) dX4_contains_13 ⟨mg_narZ (by decide), Or.inr rfl⟩ ⟨rfl, rfl⟩
/-- X0_linked(r0.0, 1, 1) at qcs79 -/
theorem qc44 (l : Launch) {Z : mg_Zt} : mg_C l Z mX0_linked [rv Z 0 0, iv 1, iv 1] qcs79 (fun v g' => v = some 0 ∧ g' = qcs79) := by
  refine mg_C.of (by decide) rfl (Nat.le_of_ble_eq_true rfl) (List.forall_mem_cons.mpr ⟨rfl, (List.forall_mem_cons.mpr ⟨rfl, (List.forall_mem_cons.mpr ⟨rfl, (fun _ h => nomatch h)⟩)⟩)⟩) (fun K => ?_)
  refine g_aload_n (pc := 0) dX0_linked_0 rfl ?_
  refine fg_X0_linked_9 (pc := 1) dX0_linked_1 ?_
  refine g_iload_n (pc := 4) dX0_linked_4 rfl ?_
  refine g_iaload (pc := 5) (k := 10) (i := 0) (n := 24) (show 0 < 1 by omega) rfl (by decide) (by decide) dX0_linked_5 ?_
  refine g_top (b := 1) (by decide +kernel) ?_
  refine g_iload_n (pc := 6) dX0_linked_6 rfl ?_
  refine g_callNi (pc := 7) (Y' := mX4_contains) (As := [iv 1, iv 1]) (st := []) (qc43 K.2.1) gX0_linked_X4_contains_n28 rfl (fun _ h => h.2.2.1) (by decide +kernel) (by decide +kernel) (na := 2) rfl (by decide +kernel) (by decide) (by decide) (Nat.le_of_ble_eq_true rfl) dX0_linked_7 (fun r1 g1 hp => ?_)
  obtain ⟨h1, rfl⟩ := hp
  cases h1
  exact g_iret (pc := 10) dX0_linked_10 ⟨mg_narZ (by decide), Or.inr rfl⟩ ⟨rfl, rfl⟩
/-- X4_pointNeighboursTo(r4.0, 1) at qcs79 -/
theorem qc45 (l : Launch) {Z : mg_Zt} : mg_C l Z mX4_pointNeighboursTo [rv Z 4 0, iv 1] qcs79 (fun v g' => v = none ∧ g' = qcs79) := by
  refine mg_C.of (by decide) rfl (Nat.le_of_ble_eq_true rfl) (List.forall_mem_cons.mpr ⟨rfl, (List.forall_mem_cons.mpr ⟨rfl, (fun _ h => nomatch h)⟩)⟩) (fun K => ?_)
  refine g_iconst (pc := 0) (v := 0) dX4_pointNeighboursTo_0 (by decide +kernel) ?_
  refine g_istore_n (pc := 1) (ls' := [rv Z 4 0, iv 1, iv 0]) dX4_pointNeighboursTo_1 (Nat.le_of_ble_eq_true rfl) (Nat.le_of_ble_eq_true rfl) rfl ?_
  refine g_iload_n (pc := 2) dX4_pointNeighboursTo_2 rfl ?_
  refine g_aload_n (pc := 3) dX4_pointNeighboursTo_3 rfl ?_
  refine fg_X4_pointNeighboursTo_10 (pc := 4) dX4_pointNeighboursTo_4 ?_
  refine fg_X4_pointNeighboursTo_229 (pc := 7) dX4_pointNeighboursTo_7 ?_
  refine g_top (b := 2) (by decide +kernel) ?_
  refine g_icmp_ge (pc := 10) 55 dX4_pointNeighboursTo_10 (by decide) (by decide) (by decide) (fun h => absurd h (by decide)) (fun _ => ?_)
  refine g_aload_n (pc := 13) dX4_pointNeighboursTo_13 rfl ?_
  refine fg_X4_pointNeighboursTo_10 (pc := 14) dX4_pointNeighboursTo_14 ?_
  refine g_iload_n (pc := 17) dX4_pointNeighboursTo_17 rfl ?_
  refine g_iload_n (pc := 18) dX4_pointNeighboursTo_18 rfl ?_
  refine g_callVi (pc := 19) (Y' := mX0_linked) (As := [iv 1, iv 0]) (st := []) (k := 0) (i := 0) (qc42 K.2.1) gX4_pointNeighboursTo_X0_linked rfl (show 0 < 1 by omega) rfl rfl (na := 2) rfl (by decide +kernel) (by decide) (by decide) (Nat.le_of_ble_eq_true rfl) dX4_pointNeighboursTo_19 (fun r1 g1 hp => ?_)
  obtain ⟨h1, rfl⟩ := hp
  cases h1
  refine g_if_eq (pc := 22) 49 dX4_pointNeighboursTo_22 (by decide) (by decide) (fun h => absurd h (by decide)) (fun _ => ?_)
  refine g_aload_n (pc := 25) dX4_pointNeighboursTo_25 rfl ?_
  refine fg_X4_pointNeighboursTo_18 (pc := 26) dX4_pointNeighboursTo_26 ?_
  refine g_iload_n (pc := 29) dX4_pointNeighboursTo_29 rfl ?_
  refine g_aastation (pc := 30) (a := 0) (by decide) dX4_pointNeighboursTo_30 ?_
  refine fg_X4_pointNeighboursTo_258 (pc := 31) (show 0 < 24 by omega) dX4_pointNeighboursTo_31 ?_
  refine g_top (b := 0) (by decide +kernel) ?_
  refine g_bipush (pc := 34) (v := 4294967294) dX4_pointNeighboursTo_34 (by decide +kernel) ?_
  refine g_icmp_ne (pc := 36) 49 dX4_pointNeighboursTo_36 (by decide) (by decide) (by decide) (fun _ => ?_) (fun h => absurd h (by decide))
  refine g_iinc (pc := 49) (v := 1) (ls' := [rv Z 4 0, iv 1, iv 1]) dX4_pointNeighboursTo_49 (Nat.le_of_ble_eq_true rfl) rfl (by decide +kernel) rfl ?_
  refine g_goto (pc := 52) 2 dX4_pointNeighboursTo_52 (by decide) ?_
  refine g_iload_n (pc := 2) dX4_pointNeighboursTo_2 rfl ?_
  refine g_aload_n (pc := 3) dX4_pointNeighboursTo_3 rfl ?_
  refine fg_X4_pointNeighboursTo_10 (pc := 4) dX4_pointNeighboursTo_4 ?_
  refine fg_X4_pointNeighboursTo_229 (pc := 7) dX4_pointNeighboursTo_7 ?_
  refine g_top (b := 2) (by decide +kernel) ?_
  refine g_icmp_ge (pc := 10) 55 dX4_pointNeighboursTo_10 (by decide) (by decide) (by decide) (fun h => absurd h (by decide)) (fun _ => ?_)
  refine g_aload_n (pc := 13) dX4_pointNeighboursTo_13 rfl ?_
  refine fg_X4_pointNeighboursTo_10 (pc := 14) dX4_pointNeighboursTo_14 ?_
  refine g_iload_n (pc := 17) dX4_pointNeighboursTo_17 rfl ?_
  refine g_iload_n (pc := 18) dX4_pointNeighboursTo_18 rfl ?_
  refine g_callVi (pc := 19) (Y' := mX0_linked) (As := [iv 1, iv 1]) (st := []) (k := 0) (i := 0) (qc44 K.2.1) gX4_pointNeighboursTo_X0_linked rfl (show 0 < 1 by omega) rfl rfl (na := 2) rfl (by decide +kernel) (by decide) (by decide) (Nat.le_of_ble_eq_true rfl) dX4_pointNeighboursTo_19 (fun r1 g1 hp => ?_)
  obtain ⟨h1, rfl⟩ := hp
  cases h1
  refine g_if_eq (pc := 22) 49 dX4_pointNeighboursTo_22 (by decide) (by decide) (fun _ => ?_) (fun h => absurd (by decide) h)
  refine g_iinc (pc := 49) (v := 2) (ls' := [rv Z 4 0, iv 1, iv 2]) dX4_pointNeighboursTo_49 (Nat.le_of_ble_eq_true rfl) rfl (by decide +kernel) rfl ?_
  refine g_goto (pc := 52) 2 dX4_pointNeighboursTo_52 (by decide) ?_
  refine g_iload_n (pc := 2) dX4_pointNeighboursTo_2 rfl ?_
  refine g_aload_n (pc := 3) dX4_pointNeighboursTo_3 rfl ?_
  refine fg_X4_pointNeighboursTo_10 (pc := 4) dX4_pointNeighboursTo_4 ?_
  refine fg_X4_pointNeighboursTo_229 (pc := 7) dX4_pointNeighboursTo_7 ?_
  refine g_top (b := 2) (by decide +kernel) ?_
  refine g_icmp_ge (pc := 10) 55 dX4_pointNeighboursTo_10 (by decide) (by decide) (by decide) (fun _ => ?_) (fun h => absurd (by decide) h)
  exact g_ret (pc := 55) dX4_pointNeighboursTo_55 trivial ⟨rfl, rfl⟩
/-- X4_contains(2, 0) at qcs79 -/
theorem qc46 (l : Launch) {Z : mg_Zt} : mg_C l Z mX4_contains [iv 2, iv 0] qcs79 (fun v g' => v = some 0 ∧ g' = qcs79) := by
  refine mg_C.of (by decide) rfl (Nat.le_of_ble_eq_true rfl) (List.forall_mem_cons.mpr ⟨rfl, (List.forall_mem_cons.mpr ⟨rfl, (fun _ h => nomatch h)⟩)⟩) (fun K => ?_)
  refine g_iload_n (pc := 0) dX4_contains_0 rfl ?_
  refine g_iconst (pc := 1) (v := 1) dX4_contains_1 (by decide +kernel) ?_
  refine g_iload_n (pc := 2) dX4_contains_2 rfl ?_
  refine g_ishl (pc := 3) (by decide) dX4_contains_3 ?_
  refine g_top (b := 1) (by decide +kernel) ?_
  refine g_iand (pc := 4) dX4_contains_4 ?_
  refine g_top (b := 0) (by decide +kernel) ?_
  refine g_if_eq (pc := 5) 12 dX4_contains_5 (by decide) (by decide) (fun _ => ?_) (fun h => absurd (by decide) h)
  refine g_iconst (pc := 12) (v := 0) dX4_contains_12 (by decide +kernel) ?_
  exact g_iret (pc := 13) dX4_contains_13 ⟨mg_narZ (by decide), Or.inr rfl⟩ ⟨rfl, rfl⟩
/-- X0_linked(r0.0, 0, 0) at qcs79 -/
theorem qc47 (l : Launch) {Z : mg_Zt} : mg_C l Z mX0_linked [rv Z 0 0, iv 0, iv 0] qcs79 (fun v g' => v = some 0 ∧ g' = qcs79) := by
  refine mg_C.of (by decide) rfl (Nat.le_of_ble_eq_true rfl) (List.forall_mem_cons.mpr ⟨rfl, (List.forall_mem_cons.mpr ⟨rfl, (List.forall_mem_cons.mpr ⟨rfl, (fun _ h => nomatch h)⟩)⟩)⟩) (fun K => ?_)
  refine g_aload_n (pc := 0) dX0_linked_0 rfl ?_
  refine fg_X0_linked_9 (pc := 1) dX0_linked_1 ?_
  refine g_iload_n (pc := 4) dX0_linked_4 rfl ?_
  refine g_iaload (pc := 5) (k := 10) (i := 0) (n := 24) (show 0 < 1 by omega) rfl (by decide) (by decide) dX0_linked_5 ?_
  refine g_top (b := 2) (by decide +kernel) ?_
  refine g_iload_n (pc := 6) dX0_linked_6 rfl ?_
  refine g_callNi (pc := 7) (Y' := mX4_contains) (As := [iv 2, iv 0]) (st := []) (qc46 K.2.1) gX0_linked_X4_contains_n28 rfl (fun _ h => h.2.2.1) (by decide +kernel) (by decide +kernel) (na := 2) rfl (by decide +kernel) (by decide) (by decide) (Nat.le_of_ble_eq_true rfl) dX0_linked_7 (fun r1 g1 hp => ?_)
  obtain ⟨h1, rfl⟩ := hp
  cases h1
  exact g_iret (pc := 10) dX0_linked_10 ⟨mg_narZ (by decide), Or.inr rfl⟩ ⟨rfl, rfl⟩
/-- X4_contains(2, 1) at qcs79 -/
theorem qc48 (l : Launch) {Z : mg_Zt} : mg_C l Z mX4_contains [iv 2, iv 1] qcs79 (fun v g' => v = some 1 ∧ g' = qcs79) := by
  refine mg_C.of (by decide) rfl (Nat.le_of_ble_eq_true rfl) (List.forall_mem_cons.mpr ⟨rfl, (List.forall_mem_cons.mpr ⟨rfl, (fun _ h => nomatch h)⟩)⟩) (fun K => ?_)
  refine g_iload_n (pc := 0) dX4_contains_0 rfl ?_
  refine g_iconst (pc := 1) (v := 1) dX4_contains_1 (by decide +kernel) ?_
  refine g_iload_n (pc := 2) dX4_contains_2 rfl ?_
  refine g_ishl (pc := 3) (by decide) dX4_contains_3 ?_
  refine g_top (b := 2) (by decide +kernel) ?_
  refine g_iand (pc := 4) dX4_contains_4 ?_
  refine g_top (b := 2) (by decide +kernel) ?_
  refine g_if_eq (pc := 5) 12 dX4_contains_5 (by decide) (by decide) (fun h => absurd h (by decide)) (fun _ => ?_)
  refine g_iconst (pc := 8) (v := 1) dX4_contains_8 (by decide +kernel) ?_
  refine g_goto (pc := 9) 13 dX4_contains_9 (by decide) ?_
  exact g_iret (pc := 13) dX4_contains_13 ⟨mg_narZ (by decide), Or.inr rfl⟩ ⟨rfl, rfl⟩
/-- X0_linked(r0.0, 0, 1) at qcs79 -/
theorem qc49 (l : Launch) {Z : mg_Zt} : mg_C l Z mX0_linked [rv Z 0 0, iv 0, iv 1] qcs79 (fun v g' => v = some 1 ∧ g' = qcs79) := by
  refine mg_C.of (by decide) rfl (Nat.le_of_ble_eq_true rfl) (List.forall_mem_cons.mpr ⟨rfl, (List.forall_mem_cons.mpr ⟨rfl, (List.forall_mem_cons.mpr ⟨rfl, (fun _ h => nomatch h)⟩)⟩)⟩) (fun K => ?_)
  refine g_aload_n (pc := 0) dX0_linked_0 rfl ?_
  refine fg_X0_linked_9 (pc := 1) dX0_linked_1 ?_
  refine g_iload_n (pc := 4) dX0_linked_4 rfl ?_
  refine g_iaload (pc := 5) (k := 10) (i := 0) (n := 24) (show 0 < 1 by omega) rfl (by decide) (by decide) dX0_linked_5 ?_
  refine g_top (b := 2) (by decide +kernel) ?_
  refine g_iload_n (pc := 6) dX0_linked_6 rfl ?_
  refine g_callNi (pc := 7) (Y' := mX4_contains) (As := [iv 2, iv 1]) (st := []) (qc48 K.2.1) gX0_linked_X4_contains_n28 rfl (fun _ h => h.2.2.1) (by decide +kernel) (by decide +kernel) (na := 2) rfl (by decide +kernel) (by decide) (by decide) (Nat.le_of_ble_eq_true rfl) dX0_linked_7 (fun r1 g1 hp => ?_)
  obtain ⟨h1, rfl⟩ := hp
  cases h1
  exact g_iret (pc := 10) dX0_linked_10 ⟨mg_narZ (by decide), Or.inr rfl⟩ ⟨rfl, rfl⟩
/-- X4_pointNeighboursTo(r4.0, 0) at qcs79 -/
theorem qc50 (l : Launch) {Z : mg_Zt} : mg_C l Z mX4_pointNeighboursTo [rv Z 4 0, iv 0] qcs79 (fun v g' => v = none ∧ g' = qcs79) := by
  refine mg_C.of (by decide) rfl (Nat.le_of_ble_eq_true rfl) (List.forall_mem_cons.mpr ⟨rfl, (List.forall_mem_cons.mpr ⟨rfl, (fun _ h => nomatch h)⟩)⟩) (fun K => ?_)
  refine g_iconst (pc := 0) (v := 0) dX4_pointNeighboursTo_0 (by decide +kernel) ?_
  refine g_istore_n (pc := 1) (ls' := [rv Z 4 0, iv 0, iv 0]) dX4_pointNeighboursTo_1 (Nat.le_of_ble_eq_true rfl) (Nat.le_of_ble_eq_true rfl) rfl ?_
  refine g_iload_n (pc := 2) dX4_pointNeighboursTo_2 rfl ?_
  refine g_aload_n (pc := 3) dX4_pointNeighboursTo_3 rfl ?_
  refine fg_X4_pointNeighboursTo_10 (pc := 4) dX4_pointNeighboursTo_4 ?_
  refine fg_X4_pointNeighboursTo_229 (pc := 7) dX4_pointNeighboursTo_7 ?_
  refine g_top (b := 2) (by decide +kernel) ?_
  refine g_icmp_ge (pc := 10) 55 dX4_pointNeighboursTo_10 (by decide) (by decide) (by decide) (fun h => absurd h (by decide)) (fun _ => ?_)
  refine g_aload_n (pc := 13) dX4_pointNeighboursTo_13 rfl ?_
  refine fg_X4_pointNeighboursTo_10 (pc := 14) dX4_pointNeighboursTo_14 ?_
  refine g_iload_n (pc := 17) dX4_pointNeighboursTo_17 rfl ?_
  refine g_iload_n (pc := 18) dX4_pointNeighboursTo_18 rfl ?_
  refine g_callVi (pc := 19) (Y' := mX0_linked) (As := [iv 0, iv 0]) (st := []) (k := 0) (i := 0) (qc47 K.2.1) gX4_pointNeighboursTo_X0_linked rfl (show 0 < 1 by omega) rfl rfl (na := 2) rfl (by decide +kernel) (by decide) (by decide) (Nat.le_of_ble_eq_true rfl) dX4_pointNeighboursTo_19 (fun r1 g1 hp => ?_)
  obtain ⟨h1, rfl⟩ := hp
  cases h1
  refine g_if_eq (pc := 22) 49 dX4_pointNeighboursTo_22 (by decide) (by decide) (fun _ => ?_) (fun h => absurd (by decide) h)
  refine g_iinc (pc := 49) (v := 1) (ls' := [rv Z 4 0, iv 0, iv 1]) dX4_pointNeighboursTo_49 (Nat.le_of_ble_eq_true rfl) rfl (by decide +kernel) rfl ?_
  refine g_goto (pc := 52) 2 dX4_pointNeighboursTo_52 (by decide) ?_
  refine g_iload_n (pc := 2) dX4_pointNeighboursTo_2 rfl ?_
  refine g_aload_n (pc := 3) dX4_pointNeighboursTo_3 rfl ?_
  refine fg_X4_pointNeighboursTo_10 (pc := 4) dX4_pointNeighboursTo_4 ?_
  refine fg_X4_pointNeighboursTo_229 (pc := 7) dX4_pointNeighboursTo_7 ?_
  refine g_top (b := 2) (by decide +kernel) ?_
  refine g_icmp_ge (pc := 10) 55 dX4_pointNeighboursTo_10 (by decide) (by decide) (by decide) (fun h => absurd h (by decide)) (fun _ => ?_)
  refine g_aload_n (pc := 13) dX4_pointNeighboursTo_13 rfl ?_
  refine fg_X4_pointNeighboursTo_10 (pc := 14) dX4_pointNeighboursTo_14 ?_
  refine g_iload_n (pc := 17) dX4_pointNeighboursTo_17 rfl ?_
  refine g_iload_n (pc := 18) dX4_pointNeighboursTo_18 rfl ?_
  refine g_callVi (pc := 19) (Y' := mX0_linked) (As := [iv 0, iv 1]) (st := []) (k := 0) (i := 0) (qc49 K.2.1) gX4_pointNeighboursTo_X0_linked rfl (show 0 < 1 by omega) rfl rfl (na := 2) rfl (by decide +kernel) (by decide) (by decide) (Nat.le_of_ble_eq_true rfl) dX4_pointNeighboursTo_19 (fun r1 g1 hp => ?_)
  obtain ⟨h1, rfl⟩ := hp
  cases h1
  refine g_if_eq (pc := 22) 49 dX4_pointNeighboursTo_22 (by decide) (by decide) (fun h => absurd h (by decide)) (fun _ => ?_)
  refine g_aload_n (pc := 25) dX4_pointNeighboursTo_25 rfl ?_
  refine fg_X4_pointNeighboursTo_18 (pc := 26) dX4_pointNeighboursTo_26 ?_
  refine g_iload_n (pc := 29) dX4_pointNeighboursTo_29 rfl ?_
  refine g_aastation (pc := 30) (a := 1) (by decide) dX4_pointNeighboursTo_30 ?_
  refine fg_X4_pointNeighboursTo_258 (pc := 31) (show 1 < 24 by omega) dX4_pointNeighboursTo_31 ?_
  refine g_top (b := 0) (by decide +kernel) ?_
  refine g_bipush (pc := 34) (v := 4294967294) dX4_pointNeighboursTo_34 (by decide +kernel) ?_
  refine g_icmp_ne (pc := 36) 49 dX4_pointNeighboursTo_36 (by decide) (by decide) (by decide) (fun _ => ?_) (fun h => absurd h (by decide))
  refine g_iinc (pc := 49) (v := 2) (ls' := [rv Z 4 0, iv 0, iv 2]) dX4_pointNeighboursTo_49 (Nat.le_of_ble_eq_true rfl) rfl (by decide +kernel) rfl ?_
  refine g_goto (pc := 52) 2 dX4_pointNeighboursTo_52 (by decide) ?_
  refine g_iload_n (pc := 2) dX4_pointNeighboursTo_2 rfl ?_
  refine g_aload_n (pc := 3) dX4_pointNeighboursTo_3 rfl ?_
  refine fg_X4_pointNeighboursTo_10 (pc := 4) dX4_pointNeighboursTo_4 ?_
  refine fg_X4_pointNeighboursTo_229 (pc := 7) dX4_pointNeighboursTo_7 ?_
  refine g_top (b := 2) (by decide +kernel) ?_
  refine g_icmp_ge (pc := 10) 55 dX4_pointNeighboursTo_10 (by decide) (by decide) (by decide) (fun _ => ?_) (fun h => absurd (by decide) h)
  exact g_ret (pc := 55) dX4_pointNeighboursTo_55 trivial ⟨rfl, rfl⟩
/-- X4_pointAllTo(r4.0, 0) at qcs77 -/
theorem qc51 (l : Launch) {Z : mg_Zt} : mg_C l Z mX4_pointAllTo [rv Z 4 0, iv 0] qcs77 (fun v g' => v = none ∧ g' = qcs79) := by
  refine mg_C.of (by decide) rfl (Nat.le_of_ble_eq_true rfl) (List.forall_mem_cons.mpr ⟨rfl, (List.forall_mem_cons.mpr ⟨rfl, (fun _ h => nomatch h)⟩)⟩) (fun K => ?_)
  refine g_aload_n (pc := 0) dX4_pointAllTo_0 rfl ?_
  refine fg_X4_pointAllTo_18 (pc := 1) dX4_pointAllTo_1 ?_
  refine g_iload_n (pc := 4) dX4_pointAllTo_4 rfl ?_
  refine g_aastation (pc := 5) (a := 0) (by decide) dX4_pointAllTo_5 ?_
  refine g_iload_n (pc := 6) dX4_pointAllTo_6 rfl ?_
  refine fp_X4_pointAllTo_258 (pc := 7) (show 0 < 24 by omega) dX4_pointAllTo_7 ?_
  refine g_iconst (pc := 10) (v := 0) dX4_pointAllTo_10 (by decide +kernel) ?_
  refine g_istore_n (pc := 11) (ls' := [rv Z 4 0, iv 0, iv 0]) dX4_pointAllTo_11 (Nat.le_of_ble_eq_true rfl) (Nat.le_of_ble_eq_true rfl) rfl ?_
  refine g_iload_n (pc := 12) dX4_pointAllTo_12 rfl ?_
  refine g_aload_n (pc := 13) dX4_pointAllTo_13 rfl ?_
  refine fg_X4_pointAllTo_10 (pc := 14) dX4_pointAllTo_14 ?_
  refine fg_X4_pointAllTo_229 (pc := 17) dX4_pointAllTo_17 ?_
  refine g_top (b := 2) (by decide +kernel) ?_
  refine g_icmp_ge (pc := 20) 67 dX4_pointAllTo_20 (by decide) (by decide) (by decide) (fun h => absurd h (by decide)) (fun _ => ?_)
  refine g_iconst (pc := 23) (v := 0) dX4_pointAllTo_23 (by decide +kernel) ?_
  refine g_istore_n (pc := 24) (ls' := [rv Z 4 0, iv 0, iv 0, iv 0]) dX4_pointAllTo_24 (Nat.le_of_ble_eq_true rfl) (Nat.le_of_ble_eq_true rfl) rfl ?_
  refine g_iload_n (pc := 25) dX4_pointAllTo_25 rfl ?_
  refine g_aload_n (pc := 26) dX4_pointAllTo_26 rfl ?_
  refine fg_X4_pointAllTo_10 (pc := 27) dX4_pointAllTo_27 ?_
  refine fg_X4_pointAllTo_229 (pc := 30) dX4_pointAllTo_30 ?_
  refine g_top (b := 2) (by decide +kernel) ?_
  refine g_icmp_ge (pc := 33) 61 dX4_pointAllTo_33 (by decide) (by decide) (by decide) (fun h => absurd h (by decide)) (fun _ => ?_)
  refine g_aload_n (pc := 36) dX4_pointAllTo_36 rfl ?_
  refine fg_X4_pointAllTo_18 (pc := 37) dX4_pointAllTo_37 ?_
  refine g_iload_n (pc := 40) dX4_pointAllTo_40 rfl ?_
  refine g_aastation (pc := 41) (a := 0) (by decide) dX4_pointAllTo_41 ?_
  refine fg_X4_pointAllTo_258 (pc := 42) (show 0 < 24 by omega) dX4_pointAllTo_42 ?_
  refine g_top (b := 0) (by decide +kernel) ?_
  refine g_bipush (pc := 45) (v := 4294967294) dX4_pointAllTo_45 (by decide +kernel) ?_
  refine g_icmp_eq (pc := 47) 55 dX4_pointAllTo_47 (by decide) (by decide) (by decide) (fun h => absurd h (by decide)) (fun _ => ?_)
  refine g_aload_n (pc := 50) dX4_pointAllTo_50 rfl ?_
  refine g_iload_n (pc := 51) dX4_pointAllTo_51 rfl ?_
  refine g_callVv (pc := 52) (Y' := mX4_pointNeighboursTo) (As := [iv 0]) (st := []) (k := 4) (i := 0) (qc40 K.2.1) gX4_pointAllTo_X4_pointNeighboursTo rfl (show 0 < 1 by omega) rfl rfl (na := 1) rfl (by decide +kernel) (by decide) (by decide) (Nat.le_of_ble_eq_true rfl) dX4_pointAllTo_52 (fun g1 hp => ?_)
  obtain ⟨-, rfl⟩ := hp
  refine g_iinc (pc := 55) (v := 1) (ls' := [rv Z 4 0, iv 0, iv 0, iv 1]) dX4_pointAllTo_55 (Nat.le_of_ble_eq_true rfl) rfl (by decide +kernel) rfl ?_
  refine g_goto (pc := 58) 25 dX4_pointAllTo_58 (by decide) ?_
  refine g_iload_n (pc := 25) dX4_pointAllTo_25 rfl ?_
  refine g_aload_n (pc := 26) dX4_pointAllTo_26 rfl ?_
  refine fg_X4_pointAllTo_10 (pc := 27) dX4_pointAllTo_27 ?_
  refine fg_X4_pointAllTo_229 (pc := 30) dX4_pointAllTo_30 ?_
  refine g_top (b := 2) (by decide +kernel) ?_
  refine g_icmp_ge (pc := 33) 61 dX4_pointAllTo_33 (by decide) (by decide) (by decide) (fun h => absurd h (by decide)) (fun _ => ?_)
  refine g_aload_n (pc := 36) dX4_pointAllTo_36 rfl ?_
  refine fg_X4_pointAllTo_18 (pc := 37) dX4_pointAllTo_37 ?_
  refine g_iload_n (pc := 40) dX4_pointAllTo_40 rfl ?_
  refine g_aastation (pc := 41) (a := 1) (by decide) dX4_pointAllTo_41 ?_
  refine fg_X4_pointAllTo_258 (pc := 42) (show 1 < 24 by omega) dX4_pointAllTo_42 ?_
  refine g_top (b := 0) (by decide +kernel) ?_
  refine g_bipush (pc := 45) (v := 4294967294) dX4_pointAllTo_45 (by decide +kernel) ?_
  refine g_icmp_eq (pc := 47) 55 dX4_pointAllTo_47 (by decide) (by decide) (by decide) (fun h => absurd h (by decide)) (fun _ => ?_)
  refine g_aload_n (pc := 50) dX4_pointAllTo_50 rfl ?_
  refine g_iload_n (pc := 51) dX4_pointAllTo_51 rfl ?_
  refine g_callVv (pc := 52) (Y' := mX4_pointNeighboursTo) (As := [iv 1]) (st := []) (k := 4) (i := 0) (qc45 K.2.1) gX4_pointAllTo_X4_pointNeighboursTo rfl (show 0 < 1 by omega) rfl rfl (na := 1) rfl (by decide +kernel) (by decide) (by decide) (Nat.le_of_ble_eq_true rfl) dX4_pointAllTo_52 (fun g1 hp => ?_)
  obtain ⟨-, rfl⟩ := hp
  refine g_iinc (pc := 55) (v := 2) (ls' := [rv Z 4 0, iv 0, iv 0, iv 2]) dX4_pointAllTo_55 (Nat.le_of_ble_eq_true rfl) rfl (by decide +kernel) rfl ?_
  refine g_goto (pc := 58) 25 dX4_pointAllTo_58 (by decide) ?_
  refine g_iload_n (pc := 25) dX4_pointAllTo_25 rfl ?_
  refine g_aload_n (pc := 26) dX4_pointAllTo_26 rfl ?_
  refine fg_X4_pointAllTo_10 (pc := 27) dX4_pointAllTo_27 ?_
  refine fg_X4_pointAllTo_229 (pc := 30) dX4_pointAllTo_30 ?_
  refine g_top (b := 2) (by decide +kernel) ?_
  refine g_icmp_ge (pc := 33) 61 dX4_pointAllTo_33 (by decide) (by decide) (by decide) (fun _ => ?_) (fun h => absurd (by decide) h)
  refine g_iinc (pc := 61) (v := 1) (ls' := [rv Z 4 0, iv 0, iv 1, iv 2]) dX4_pointAllTo_61 (Nat.le_of_ble_eq_true rfl) rfl (by decide +kernel) rfl ?_
  refine g_goto (pc := 64) 12 dX4_pointAllTo_64 (by decide) ?_
  refine g_iload_n (pc := 12) dX4_pointAllTo_12 rfl ?_
  refine g_aload_n (pc := 13) dX4_pointAllTo_13 rfl ?_
  refine fg_X4_pointAllTo_10 (pc := 14) dX4_pointAllTo_14 ?_
  refine fg_X4_pointAllTo_229 (pc := 17) dX4_pointAllTo_17 ?_
  refine g_top (b := 2) (by decide +kernel) ?_
  refine g_icmp_ge (pc := 20) 67 dX4_pointAllTo_20 (by decide) (by decide) (by decide) (fun h => absurd h (by decide)) (fun _ => ?_)
  refine g_iconst (pc := 23) (v := 0) dX4_pointAllTo_23 (by decide +kernel) ?_
  refine g_istore_n (pc := 24) (ls' := [rv Z 4 0, iv 0, iv 1, iv 0]) dX4_pointAllTo_24 (Nat.le_of_ble_eq_true rfl) (Nat.le_of_ble_eq_true rfl) rfl ?_
  refine g_iload_n (pc := 25) dX4_pointAllTo_25 rfl ?_
  refine g_aload_n (pc := 26) dX4_pointAllTo_26 rfl ?_
  refine fg_X4_pointAllTo_10 (pc := 27) dX4_pointAllTo_27 ?_
  refine fg_X4_pointAllTo_229 (pc := 30) dX4_pointAllTo_30 ?_
  refine g_top (b := 2) (by decide +kernel) ?_
  refine g_icmp_ge (pc := 33) 61 dX4_pointAllTo_33 (by decide) (by decide) (by decide) (fun h => absurd h (by decide)) (fun _ => ?_)
  refine g_aload_n (pc := 36) dX4_pointAllTo_36 rfl ?_
  refine fg_X4_pointAllTo_18 (pc := 37) dX4_pointAllTo_37 ?_
  refine g_iload_n (pc := 40) dX4_pointAllTo_40 rfl ?_
  refine g_aastation (pc := 41) (a := 0) (by decide) dX4_pointAllTo_41 ?_
  refine fg_X4_pointAllTo_258 (pc := 42) (show 0 < 24 by omega) dX4_pointAllTo_42 ?_
  refine g_top (b := 0) (by decide +kernel) ?_
  refine g_bipush (pc := 45) (v := 4294967294) dX4_pointAllTo_45 (by decide +kernel) ?_
  refine g_icmp_eq (pc := 47) 55 dX4_pointAllTo_47 (by decide) (by decide) (by decide) (fun h => absurd h (by decide)) (fun _ => ?_)
  refine g_aload_n (pc := 50) dX4_pointAllTo_50 rfl ?_
  refine g_iload_n (pc := 51) dX4_pointAllTo_51 rfl ?_
  refine g_callVv (pc := 52) (Y' := mX4_pointNeighboursTo) (As := [iv 0]) (st := []) (k := 4) (i := 0) (qc50 K.2.1) gX4_pointAllTo_X4_pointNeighboursTo rfl (show 0 < 1 by omega) rfl rfl (na := 1) rfl (by decide +kernel) (by decide) (by decide) (Nat.le_of_ble_eq_true rfl) dX4_pointAllTo_52 (fun g1 hp => ?_)
  obtain ⟨-, rfl⟩ := hp
  refine g_iinc (pc := 55) (v := 1) (ls' := [rv Z 4 0, iv 0, iv 1, iv 1]) dX4_pointAllTo_55 (Nat.le_of_ble_eq_true rfl) rfl (by decide +kernel) rfl ?_
  refine g_goto (pc := 58) 25 dX4_pointAllTo_58 (by decide) ?_
  refine g_iload_n (pc := 25) dX4_pointAllTo_25 rfl ?_
  refine g_aload_n (pc := 26) dX4_pointAllTo_26 rfl ?_
  refine fg_X4_pointAllTo_10 (pc := 27) dX4_pointAllTo_27 ?_
  refine fg_X4_pointAllTo_229 (pc := 30) dX4_pointAllTo_30 ?_
  refine g_top (b := 2) (by decide +kernel) ?_
  refine g_icmp_ge (pc := 33) 61 dX4_pointAllTo_33 (by decide) (by decide) (by decide) (fun h => absurd h (by decide)) (fun _ => ?_)
  refine g_aload_n (pc := 36) dX4_pointAllTo_36 rfl ?_
  refine fg_X4_pointAllTo_18 (pc := 37) dX4_pointAllTo_37 ?_
  refine g_iload_n (pc := 40) dX4_pointAllTo_40 rfl ?_
  refine g_aastation (pc := 41) (a := 1) (by decide) dX4_pointAllTo_41 ?_
  refine fg_X4_pointAllTo_258 (pc := 42) (show 1 < 24 by omega) dX4_pointAllTo_42 ?_
  refine g_top (b := 0) (by decide +kernel) ?_
  refine g_bipush (pc := 45) (v := 4294967294) dX4_pointAllTo_45 (by decide +kernel) ?_
  refine g_icmp_eq (pc := 47) 55 dX4_pointAllTo_47 (by decide) (by decide) (by decide) (fun h => absurd h (by decide)) (fun _ => ?_)
  refine g_aload_n (pc := 50) dX4_pointAllTo_50 rfl ?_
  refine g_iload_n (pc := 51) dX4_pointAllTo_51 rfl ?_
  refine g_callVv (pc := 52) (Y' := mX4_pointNeighboursTo) (As := [iv 1]) (st := []) (k := 4) (i := 0) (qc45 K.2.1) gX4_pointAllTo_X4_pointNeighboursTo rfl (show 0 < 1 by omega) rfl rfl (na := 1) rfl (by decide +kernel) (by decide) (by decide) (Nat.le_of_ble_eq_true rfl) dX4_pointAllTo_52 (fun g1 hp => ?_)
  obtain ⟨-, rfl⟩ := hp
  refine g_iinc (pc := 55) (v := 2) (ls' := [rv Z 4 0, iv 0, iv 1, iv 2]) dX4_pointAllTo_55 (Nat.le_of_ble_eq_true rfl) rfl (by decide +kernel) rfl ?_
  refine g_goto (pc := 58) 25 dX4_pointAllTo_58 (by decide) ?_
  refine g_iload_n (pc := 25) dX4_pointAllTo_25 rfl ?_
  refine g_aload_n (pc := 26) dX4_pointAllTo_26 rfl ?_
  refine fg_X4_pointAllTo_10 (pc := 27) dX4_pointAllTo_27 ?_
  refine fg_X4_pointAllTo_229 (pc := 30) dX4_pointAllTo_30 ?_
  refine g_top (b := 2) (by decide +kernel) ?_
  refine g_icmp_ge (pc := 33) 61 dX4_pointAllTo_33 (by decide) (by decide) (by decide) (fun _ => ?_) (fun h => absurd (by decide) h)
  refine g_iinc (pc := 61) (v := 2) (ls' := [rv Z 4 0, iv 0, iv 2, iv 2]) dX4_pointAllTo_61 (Nat.le_of_ble_eq_true rfl) rfl (by decide +kernel) rfl ?_
  refine g_goto (pc := 64) 12 dX4_pointAllTo_64 (by decide) ?_
  refine g_iload_n (pc := 12) dX4_pointAllTo_12 rfl ?_
  refine g_aload_n (pc := 13) dX4_pointAllTo_13 rfl ?_
  refine fg_X4_pointAllTo_10 (pc := 14) dX4_pointAllTo_14 ?_
  refine fg_X4_pointAllTo_229 (pc := 17) dX4_pointAllTo_17 ?_
  refine g_top (b := 2) (by decide +kernel) ?_
  refine g_icmp_ge (pc := 20) 67 dX4_pointAllTo_20 (by decide) (by decide) (by decide) (fun _ => ?_) (fun h => absurd (by decide) h)
  exact g_ret (pc := 67) dX4_pointAllTo_67 trivial ⟨rfl, rfl⟩
def qcs80 : mg_F := mg_up (qcs79) 4 0 6 1
/-- X4_open(r4.0, 0, 0, 1) at qcs4 -/
theorem qc52 (l : Launch) {Z : mg_Zt} : mg_C l Z mX4_open [rv Z 4 0, iv 0, iv 0, iv 1] qcs4 (fun v g' => v = some 0 ∧ g' = qcs80) := by
  refine mg_C.of (by decide) rfl (Nat.le_of_ble_eq_true rfl) (List.forall_mem_cons.mpr ⟨rfl, (List.forall_mem_cons.mpr ⟨rfl, (List.forall_mem_cons.mpr ⟨rfl, (List.forall_mem_cons.mpr ⟨rfl, (fun _ h => nomatch h)⟩)⟩)⟩)⟩) (fun K => ?_)
  refine g_aload_n (pc := 0) dX4_open_0 rfl ?_
  refine fg_X4_open_55 (pc := 1) dX4_open_1 ?_
  refine g_top (b := 0) (by decide +kernel) ?_
  refine g_if_ne (pc := 4) 29 dX4_open_4 (by decide) (by decide) (fun h => absurd (by decide) h) (fun _ => ?_)
  refine g_aload_n (pc := 7) dX4_open_7 rfl ?_
  refine fg_X4_open_10 (pc := 8) dX4_open_8 ?_
  refine g_iload_n (pc := 11) dX4_open_11 rfl ?_
  refine g_callVi (pc := 12) (Y' := mX0_has) (As := [iv 0]) (st := []) (k := 0) (i := 0) (qc10 K.2.1) gX4_open_X0_has rfl (show 0 < 1 by omega) rfl rfl (na := 1) rfl (by decide +kernel) (by decide) (by decide) (Nat.le_of_ble_eq_true rfl) dX4_open_12 (fun r1 g1 hp => ?_)
  obtain ⟨h1, rfl⟩ := hp
  cases h1
  refine g_if_eq (pc := 15) 29 dX4_open_15 (by decide) (by decide) (fun h => absurd h (by decide)) (fun _ => ?_)
  refine g_aload_n (pc := 18) dX4_open_18 rfl ?_
  refine fg_X4_open_10 (pc := 19) dX4_open_19 ?_
  refine g_callVi (pc := 22) (Y' := mX0_parts) (As := []) (st := []) (k := 0) (i := 0) (qc11 K.2.1) gX4_open_X0_parts rfl (show 0 < 1 by omega) rfl rfl (na := 0) rfl (by decide +kernel) (by decide) (by decide) (Nat.le_of_ble_eq_true rfl) dX4_open_22 (fun r1 g1 hp => ?_)
  obtain ⟨h1, rfl⟩ := hp
  cases h1
  refine g_iconst (pc := 25) (v := 1) dX4_open_25 (by decide +kernel) ?_
  refine g_icmp_le (pc := 26) 31 dX4_open_26 (by decide) (by decide) (by decide) (fun _ => ?_) (fun h => absurd (by decide) h)
  refine g_iload_n (pc := 31) dX4_open_31 rfl ?_
  refine g_sif_lt (pc := 32) 50 dX4_open_32 (by decide) (by decide) (fun h => absurd h (by decide)) (fun _ => ?_)
  refine g_iload_n (pc := 35) dX4_open_35 rfl ?_
  refine g_iconst (pc := 36) (v := 2) dX4_open_36 (by decide +kernel) ?_
  refine g_icmp_gt (pc := 37) 50 dX4_open_37 (by decide) (by decide) (by decide) (fun h => absurd h (by decide)) (fun _ => ?_)
  refine g_iload_n (pc := 40) dX4_open_40 rfl ?_
  refine g_iconst (pc := 41) (v := 1) dX4_open_41 (by decide +kernel) ?_
  refine g_icmp_lt (pc := 42) 50 dX4_open_42 (by decide) (by decide) (by decide) (fun h => absurd h (by decide)) (fun _ => ?_)
  refine g_iload_n (pc := 45) dX4_open_45 rfl ?_
  refine g_iconst (pc := 46) (v := 4) dX4_open_46 (by decide +kernel) ?_
  refine g_icmp_le (pc := 47) 52 dX4_open_47 (by decide) (by decide) (by decide) (fun _ => ?_) (fun h => absurd (by decide) h)
  refine g_aload_n (pc := 52) dX4_open_52 rfl ?_
  refine g_iload_n (pc := 53) dX4_open_53 rfl ?_
  refine fp_X4_open_85 (pc := 54) dX4_open_54 ?_
  refine g_aload_n (pc := 57) dX4_open_57 rfl ?_
  refine g_iload_n (pc := 58) dX4_open_58 rfl ?_
  refine fp_X4_open_88 (pc := 59) dX4_open_59 ?_
  refine g_aload_n (pc := 62) dX4_open_62 rfl ?_
  refine g_iconst (pc := 63) (v := 0) dX4_open_63 (by decide +kernel) ?_
  refine fp_X4_open_91 (pc := 64) dX4_open_64 ?_
  refine g_aload_n (pc := 67) dX4_open_67 rfl ?_
  refine fg_X4_open_27 (pc := 68) dX4_open_68 ?_
  refine g_iconst (pc := 71) (v := 0) dX4_open_71 (by decide +kernel) ?_
  refine fp_X4_open_94 (pc := 72) (show 0 < 2 by omega) dX4_open_72 ?_
  refine g_aload_n (pc := 75) dX4_open_75 rfl ?_
  refine fg_X4_open_31 (pc := 76) dX4_open_76 ?_
  refine g_iconst (pc := 79) (v := 0) dX4_open_79 (by decide +kernel) ?_
  refine fp_X4_open_94 (pc := 80) (show 1 < 2 by omega) dX4_open_80 ?_
  refine g_iconst (pc := 83) (v := 0) dX4_open_83 (by decide +kernel) ?_
  refine g_istore (pc := 84) (ls' := [rv Z 4 0, iv 0, iv 0, iv 1, iv 0]) dX4_open_84 (Nat.le_of_ble_eq_true rfl) (Nat.le_of_ble_eq_true rfl) rfl ?_
  refine g_iload (pc := 86) dX4_open_86 rfl ?_
  refine g_bipush (pc := 88) (v := 24) dX4_open_88 (by decide +kernel) ?_
  refine g_icmp_ge (pc := 90) 131 dX4_open_90 (by decide) (by decide) (by decide) (fun h => absurd h (by decide)) (fun _ => ?_)
  refine g_aload_n (pc := 93) dX4_open_93 rfl ?_
  refine fg_X4_open_18 (pc := 94) dX4_open_94 ?_
  refine g_iload (pc := 97) dX4_open_97 rfl ?_
  refine g_aastation (pc := 99) (a := 0) (by decide) dX4_open_99 ?_
  refine g_callVv (pc := 100) (Y' := mX3_clear) (As := []) (st := []) (k := 3) (i := 0) (qc12 K.2.1) gX4_open_X3_clear rfl (show 0 < 24 by omega) rfl rfl (na := 0) rfl (by decide +kernel) (by decide) (by decide) (Nat.le_of_ble_eq_true rfl) dX4_open_100 (fun g1 hp => ?_)
  obtain ⟨-, rfl⟩ := hp
  refine g_aload_n (pc := 103) dX4_open_103 rfl ?_
  refine fg_X4_open_36 (pc := 104) dX4_open_104 ?_
  refine g_iload (pc := 107) dX4_open_107 rfl ?_
  refine g_aarow (pc := 109) (k := 19) (r := 21) (a := 0) (show 0 < 1 by omega) rfl (by decide) dX4_open_109 ?_
  refine g_iconst (pc := 110) (v := 0) dX4_open_110 (by decide +kernel) ?_
  refine g_callSv (pc := 111) (Y' := mJ7_fill_53178) (As := [rv Z 21 0, iv 0]) (st := []) (c_fill K.2.1 (k := 21) (i := 0) (n := 24) (v := 0) (show 0 < 24 by omega) (fun _ => rfl) (by decide)) gX4_open_J7_fill_53178 rfl (na := 2) rfl (by decide +kernel) (by decide) (by decide) (Nat.le_of_ble_eq_true rfl) dX4_open_111 (fun g1 hp => ?_)
  obtain ⟨-, rfl⟩ := hp
  refine g_aload_n (pc := 114) dX4_open_114 rfl ?_
  refine fg_X4_open_39 (pc := 115) dX4_open_115 ?_
  refine g_iload (pc := 118) dX4_open_118 rfl ?_
  refine g_aarow (pc := 120) (k := 20) (r := 22) (a := 0) (show 0 < 1 by omega) rfl (by decide) dX4_open_120 ?_
  refine g_iconst (pc := 121) (v := 0) dX4_open_121 (by decide +kernel) ?_
  refine g_callSv (pc := 122) (Y' := mJ7_fill_53178) (As := [rv Z 22 0, iv 0]) (st := []) (c_fill K.2.1 (k := 22) (i := 0) (n := 24) (v := 0) (show 0 < 24 by omega) (fun _ => rfl) (by decide)) gX4_open_J7_fill_53178 rfl (na := 2) rfl (by decide +kernel) (by decide) (by decide) (Nat.le_of_ble_eq_true rfl) dX4_open_122 (fun g1 hp => ?_)
  obtain ⟨-, rfl⟩ := hp
  refine g_iinc (pc := 125) (v := 1) (ls' := [rv Z 4 0, iv 0, iv 0, iv 1, iv 1]) dX4_open_125 (Nat.le_of_ble_eq_true rfl) rfl (by decide +kernel) rfl ?_
  refine g_goto (pc := 128) 86 dX4_open_128 (by decide) ?_
  refine g_iload (pc := 86) dX4_open_86 rfl ?_
  refine g_bipush (pc := 88) (v := 24) dX4_open_88 (by decide +kernel) ?_
  refine g_icmp_ge (pc := 90) 131 dX4_open_90 (by decide) (by decide) (by decide) (fun h => absurd h (by decide)) (fun _ => ?_)
  refine g_aload_n (pc := 93) dX4_open_93 rfl ?_
  refine fg_X4_open_18 (pc := 94) dX4_open_94 ?_
  refine g_iload (pc := 97) dX4_open_97 rfl ?_
  refine g_aastation (pc := 99) (a := 1) (by decide) dX4_open_99 ?_
  refine g_callVv (pc := 100) (Y' := mX3_clear) (As := []) (st := []) (k := 3) (i := 1) (qc13 K.2.1) gX4_open_X3_clear rfl (show 1 < 24 by omega) rfl rfl (na := 0) rfl (by decide +kernel) (by decide) (by decide) (Nat.le_of_ble_eq_true rfl) dX4_open_100 (fun g1 hp => ?_)
  obtain ⟨-, rfl⟩ := hp
  refine g_aload_n (pc := 103) dX4_open_103 rfl ?_
  refine fg_X4_open_36 (pc := 104) dX4_open_104 ?_
  refine g_iload (pc := 107) dX4_open_107 rfl ?_
  refine g_aarow (pc := 109) (k := 19) (r := 21) (a := 1) (show 0 < 1 by omega) rfl (by decide) dX4_open_109 ?_
  refine g_iconst (pc := 110) (v := 0) dX4_open_110 (by decide +kernel) ?_
  refine g_callSv (pc := 111) (Y' := mJ7_fill_53178) (As := [rv Z 21 1, iv 0]) (st := []) (c_fill K.2.1 (k := 21) (i := 1) (n := 24) (v := 0) (show 1 < 24 by omega) (fun _ => rfl) (by decide)) gX4_open_J7_fill_53178 rfl (na := 2) rfl (by decide +kernel) (by decide) (by decide) (Nat.le_of_ble_eq_true rfl) dX4_open_111 (fun g1 hp => ?_)
  obtain ⟨-, rfl⟩ := hp
  refine g_aload_n (pc := 114) dX4_open_114 rfl ?_
  refine fg_X4_open_39 (pc := 115) dX4_open_115 ?_
  refine g_iload (pc := 118) dX4_open_118 rfl ?_
  refine g_aarow (pc := 120) (k := 20) (r := 22) (a := 1) (show 0 < 1 by omega) rfl (by decide) dX4_open_120 ?_
  refine g_iconst (pc := 121) (v := 0) dX4_open_121 (by decide +kernel) ?_
  refine g_callSv (pc := 122) (Y' := mJ7_fill_53178) (As := [rv Z 22 1, iv 0]) (st := []) (c_fill K.2.1 (k := 22) (i := 1) (n := 24) (v := 0) (show 1 < 24 by omega) (fun _ => rfl) (by decide)) gX4_open_J7_fill_53178 rfl (na := 2) rfl (by decide +kernel) (by decide) (by decide) (Nat.le_of_ble_eq_true rfl) dX4_open_122 (fun g1 hp => ?_)
  obtain ⟨-, rfl⟩ := hp
  refine g_iinc (pc := 125) (v := 2) (ls' := [rv Z 4 0, iv 0, iv 0, iv 1, iv 2]) dX4_open_125 (Nat.le_of_ble_eq_true rfl) rfl (by decide +kernel) rfl ?_
  refine g_goto (pc := 128) 86 dX4_open_128 (by decide) ?_
  refine g_iload (pc := 86) dX4_open_86 rfl ?_
  refine g_bipush (pc := 88) (v := 24) dX4_open_88 (by decide +kernel) ?_
  refine g_icmp_ge (pc := 90) 131 dX4_open_90 (by decide) (by decide) (by decide) (fun h => absurd h (by decide)) (fun _ => ?_)
  refine g_aload_n (pc := 93) dX4_open_93 rfl ?_
  refine fg_X4_open_18 (pc := 94) dX4_open_94 ?_
  refine g_iload (pc := 97) dX4_open_97 rfl ?_
  refine g_aastation (pc := 99) (a := 2) (by decide) dX4_open_99 ?_
  refine g_callVv (pc := 100) (Y' := mX3_clear) (As := []) (st := []) (k := 3) (i := 2) (qc14 K.2.1) gX4_open_X3_clear rfl (show 2 < 24 by omega) rfl rfl (na := 0) rfl (by decide +kernel) (by decide) (by decide) (Nat.le_of_ble_eq_true rfl) dX4_open_100 (fun g1 hp => ?_)
  obtain ⟨-, rfl⟩ := hp
  refine g_aload_n (pc := 103) dX4_open_103 rfl ?_
  refine fg_X4_open_36 (pc := 104) dX4_open_104 ?_
  refine g_iload (pc := 107) dX4_open_107 rfl ?_
  refine g_aarow (pc := 109) (k := 19) (r := 21) (a := 2) (show 0 < 1 by omega) rfl (by decide) dX4_open_109 ?_
  refine g_iconst (pc := 110) (v := 0) dX4_open_110 (by decide +kernel) ?_
  refine g_callSv (pc := 111) (Y' := mJ7_fill_53178) (As := [rv Z 21 2, iv 0]) (st := []) (c_fill K.2.1 (k := 21) (i := 2) (n := 24) (v := 0) (show 2 < 24 by omega) (fun _ => rfl) (by decide)) gX4_open_J7_fill_53178 rfl (na := 2) rfl (by decide +kernel) (by decide) (by decide) (Nat.le_of_ble_eq_true rfl) dX4_open_111 (fun g1 hp => ?_)
  obtain ⟨-, rfl⟩ := hp
  refine g_aload_n (pc := 114) dX4_open_114 rfl ?_
  refine fg_X4_open_39 (pc := 115) dX4_open_115 ?_
  refine g_iload (pc := 118) dX4_open_118 rfl ?_
  refine g_aarow (pc := 120) (k := 20) (r := 22) (a := 2) (show 0 < 1 by omega) rfl (by decide) dX4_open_120 ?_
  refine g_iconst (pc := 121) (v := 0) dX4_open_121 (by decide +kernel) ?_
  refine g_callSv (pc := 122) (Y' := mJ7_fill_53178) (As := [rv Z 22 2, iv 0]) (st := []) (c_fill K.2.1 (k := 22) (i := 2) (n := 24) (v := 0) (show 2 < 24 by omega) (fun _ => rfl) (by decide)) gX4_open_J7_fill_53178 rfl (na := 2) rfl (by decide +kernel) (by decide) (by decide) (Nat.le_of_ble_eq_true rfl) dX4_open_122 (fun g1 hp => ?_)
  obtain ⟨-, rfl⟩ := hp
  refine g_iinc (pc := 125) (v := 3) (ls' := [rv Z 4 0, iv 0, iv 0, iv 1, iv 3]) dX4_open_125 (Nat.le_of_ble_eq_true rfl) rfl (by decide +kernel) rfl ?_
  refine g_goto (pc := 128) 86 dX4_open_128 (by decide) ?_
  refine g_iload (pc := 86) dX4_open_86 rfl ?_
  refine g_bipush (pc := 88) (v := 24) dX4_open_88 (by decide +kernel) ?_
  refine g_icmp_ge (pc := 90) 131 dX4_open_90 (by decide) (by decide) (by decide) (fun h => absurd h (by decide)) (fun _ => ?_)
  refine g_aload_n (pc := 93) dX4_open_93 rfl ?_
  refine fg_X4_open_18 (pc := 94) dX4_open_94 ?_
  refine g_iload (pc := 97) dX4_open_97 rfl ?_
  refine g_aastation (pc := 99) (a := 3) (by decide) dX4_open_99 ?_
  refine g_callVv (pc := 100) (Y' := mX3_clear) (As := []) (st := []) (k := 3) (i := 3) (qc15 K.2.1) gX4_open_X3_clear rfl (show 3 < 24 by omega) rfl rfl (na := 0) rfl (by decide +kernel) (by decide) (by decide) (Nat.le_of_ble_eq_true rfl) dX4_open_100 (fun g1 hp => ?_)
  obtain ⟨-, rfl⟩ := hp
  refine g_aload_n (pc := 103) dX4_open_103 rfl ?_
  refine fg_X4_open_36 (pc := 104) dX4_open_104 ?_
  refine g_iload (pc := 107) dX4_open_107 rfl ?_
  refine g_aarow (pc := 109) (k := 19) (r := 21) (a := 3) (show 0 < 1 by omega) rfl (by decide) dX4_open_109 ?_
  refine g_iconst (pc := 110) (v := 0) dX4_open_110 (by decide +kernel) ?_
  refine g_callSv (pc := 111) (Y' := mJ7_fill_53178) (As := [rv Z 21 3, iv 0]) (st := []) (c_fill K.2.1 (k := 21) (i := 3) (n := 24) (v := 0) (show 3 < 24 by omega) (fun _ => rfl) (by decide)) gX4_open_J7_fill_53178 rfl (na := 2) rfl (by decide +kernel) (by decide) (by decide) (Nat.le_of_ble_eq_true rfl) dX4_open_111 (fun g1 hp => ?_)
  obtain ⟨-, rfl⟩ := hp
  refine g_aload_n (pc := 114) dX4_open_114 rfl ?_
  refine fg_X4_open_39 (pc := 115) dX4_open_115 ?_
  refine g_iload (pc := 118) dX4_open_118 rfl ?_
  refine g_aarow (pc := 120) (k := 20) (r := 22) (a := 3) (show 0 < 1 by omega) rfl (by decide) dX4_open_120 ?_
  refine g_iconst (pc := 121) (v := 0) dX4_open_121 (by decide +kernel) ?_
  refine g_callSv (pc := 122) (Y' := mJ7_fill_53178) (As := [rv Z 22 3, iv 0]) (st := []) (c_fill K.2.1 (k := 22) (i := 3) (n := 24) (v := 0) (show 3 < 24 by omega) (fun _ => rfl) (by decide)) gX4_open_J7_fill_53178 rfl (na := 2) rfl (by decide +kernel) (by decide) (by decide) (Nat.le_of_ble_eq_true rfl) dX4_open_122 (fun g1 hp => ?_)
  obtain ⟨-, rfl⟩ := hp
  refine g_iinc (pc := 125) (v := 4) (ls' := [rv Z 4 0, iv 0, iv 0, iv 1, iv 4]) dX4_open_125 (Nat.le_of_ble_eq_true rfl) rfl (by decide +kernel) rfl ?_
  refine g_goto (pc := 128) 86 dX4_open_128 (by decide) ?_
  refine g_iload (pc := 86) dX4_open_86 rfl ?_
  refine g_bipush (pc := 88) (v := 24) dX4_open_88 (by decide +kernel) ?_
  refine g_icmp_ge (pc := 90) 131 dX4_open_90 (by decide) (by decide) (by decide) (fun h => absurd h (by decide)) (fun _ => ?_)
  refine g_aload_n (pc := 93) dX4_open_93 rfl ?_
  refine fg_X4_open_18 (pc := 94) dX4_open_94 ?_
  refine g_iload (pc := 97) dX4_open_97 rfl ?_
  refine g_aastation (pc := 99) (a := 4) (by decide) dX4_open_99 ?_
  refine g_callVv (pc := 100) (Y' := mX3_clear) (As := []) (st := []) (k := 3) (i := 4) (qc16 K.2.1) gX4_open_X3_clear rfl (show 4 < 24 by omega) rfl rfl (na := 0) rfl (by decide +kernel) (by decide) (by decide) (Nat.le_of_ble_eq_true rfl) dX4_open_100 (fun g1 hp => ?_)
  obtain ⟨-, rfl⟩ := hp
  refine g_aload_n (pc := 103) dX4_open_103 rfl ?_
  refine fg_X4_open_36 (pc := 104) dX4_open_104 ?_
  refine g_iload (pc := 107) dX4_open_107 rfl ?_
  refine g_aarow (pc := 109) (k := 19) (r := 21) (a := 4) (show 0 < 1 by omega) rfl (by decide) dX4_open_109 ?_
  refine g_iconst (pc := 110) (v := 0) dX4_open_110 (by decide +kernel) ?_
  refine g_callSv (pc := 111) (Y' := mJ7_fill_53178) (As := [rv Z 21 4, iv 0]) (st := []) (c_fill K.2.1 (k := 21) (i := 4) (n := 24) (v := 0) (show 4 < 24 by omega) (fun _ => rfl) (by decide)) gX4_open_J7_fill_53178 rfl (na := 2) rfl (by decide +kernel) (by decide) (by decide) (Nat.le_of_ble_eq_true rfl) dX4_open_111 (fun g1 hp => ?_)
  obtain ⟨-, rfl⟩ := hp
  refine g_aload_n (pc := 114) dX4_open_114 rfl ?_
  refine fg_X4_open_39 (pc := 115) dX4_open_115 ?_
  refine g_iload (pc := 118) dX4_open_118 rfl ?_
  refine g_aarow (pc := 120) (k := 20) (r := 22) (a := 4) (show 0 < 1 by omega) rfl (by decide) dX4_open_120 ?_
  refine g_iconst (pc := 121) (v := 0) dX4_open_121 (by decide +kernel) ?_
  refine g_callSv (pc := 122) (Y' := mJ7_fill_53178) (As := [rv Z 22 4, iv 0]) (st := []) (c_fill K.2.1 (k := 22) (i := 4) (n := 24) (v := 0) (show 4 < 24 by omega) (fun _ => rfl) (by decide)) gX4_open_J7_fill_53178 rfl (na := 2) rfl (by decide +kernel) (by decide) (by decide) (Nat.le_of_ble_eq_true rfl) dX4_open_122 (fun g1 hp => ?_)
  obtain ⟨-, rfl⟩ := hp
  refine g_iinc (pc := 125) (v := 5) (ls' := [rv Z 4 0, iv 0, iv 0, iv 1, iv 5]) dX4_open_125 (Nat.le_of_ble_eq_true rfl) rfl (by decide +kernel) rfl ?_
  refine g_goto (pc := 128) 86 dX4_open_128 (by decide) ?_
  refine g_iload (pc := 86) dX4_open_86 rfl ?_
  refine g_bipush (pc := 88) (v := 24) dX4_open_88 (by decide +kernel) ?_
  refine g_icmp_ge (pc := 90) 131 dX4_open_90 (by decide) (by decide) (by decide) (fun h => absurd h (by decide)) (fun _ => ?_)
  refine g_aload_n (pc := 93) dX4_open_93 rfl ?_
  refine fg_X4_open_18 (pc := 94) dX4_open_94 ?_
  refine g_iload (pc := 97) dX4_open_97 rfl ?_
  refine g_aastation (pc := 99) (a := 5) (by decide) dX4_open_99 ?_
  refine g_callVv (pc := 100) (Y' := mX3_clear) (As := []) (st := []) (k := 3) (i := 5) (qc17 K.2.1) gX4_open_X3_clear rfl (show 5 < 24 by omega) rfl rfl (na := 0) rfl (by decide +kernel) (by decide) (by decide) (Nat.le_of_ble_eq_true rfl) dX4_open_100 (fun g1 hp => ?_)
  obtain ⟨-, rfl⟩ := hp
  refine g_aload_n (pc := 103) dX4_open_103 rfl ?_
  refine fg_X4_open_36 (pc := 104) dX4_open_104 ?_
  refine g_iload (pc := 107) dX4_open_107 rfl ?_
  refine g_aarow (pc := 109) (k := 19) (r := 21) (a := 5) (show 0 < 1 by omega) rfl (by decide) dX4_open_109 ?_
  refine g_iconst (pc := 110) (v := 0) dX4_open_110 (by decide +kernel) ?_
  refine g_callSv (pc := 111) (Y' := mJ7_fill_53178) (As := [rv Z 21 5, iv 0]) (st := []) (c_fill K.2.1 (k := 21) (i := 5) (n := 24) (v := 0) (show 5 < 24 by omega) (fun _ => rfl) (by decide)) gX4_open_J7_fill_53178 rfl (na := 2) rfl (by decide +kernel) (by decide) (by decide) (Nat.le_of_ble_eq_true rfl) dX4_open_111 (fun g1 hp => ?_)
  obtain ⟨-, rfl⟩ := hp
  refine g_aload_n (pc := 114) dX4_open_114 rfl ?_
  refine fg_X4_open_39 (pc := 115) dX4_open_115 ?_
  refine g_iload (pc := 118) dX4_open_118 rfl ?_
  refine g_aarow (pc := 120) (k := 20) (r := 22) (a := 5) (show 0 < 1 by omega) rfl (by decide) dX4_open_120 ?_
  refine g_iconst (pc := 121) (v := 0) dX4_open_121 (by decide +kernel) ?_
  refine g_callSv (pc := 122) (Y' := mJ7_fill_53178) (As := [rv Z 22 5, iv 0]) (st := []) (c_fill K.2.1 (k := 22) (i := 5) (n := 24) (v := 0) (show 5 < 24 by omega) (fun _ => rfl) (by decide)) gX4_open_J7_fill_53178 rfl (na := 2) rfl (by decide +kernel) (by decide) (by decide) (Nat.le_of_ble_eq_true rfl) dX4_open_122 (fun g1 hp => ?_)
  obtain ⟨-, rfl⟩ := hp
  refine g_iinc (pc := 125) (v := 6) (ls' := [rv Z 4 0, iv 0, iv 0, iv 1, iv 6]) dX4_open_125 (Nat.le_of_ble_eq_true rfl) rfl (by decide +kernel) rfl ?_
  refine g_goto (pc := 128) 86 dX4_open_128 (by decide) ?_
  refine g_iload (pc := 86) dX4_open_86 rfl ?_
  refine g_bipush (pc := 88) (v := 24) dX4_open_88 (by decide +kernel) ?_
  refine g_icmp_ge (pc := 90) 131 dX4_open_90 (by decide) (by decide) (by decide) (fun h => absurd h (by decide)) (fun _ => ?_)
  refine g_aload_n (pc := 93) dX4_open_93 rfl ?_
  refine fg_X4_open_18 (pc := 94) dX4_open_94 ?_
  refine g_iload (pc := 97) dX4_open_97 rfl ?_
  refine g_aastation (pc := 99) (a := 6) (by decide) dX4_open_99 ?_
  refine g_callVv (pc := 100) (Y' := mX3_clear) (As := []) (st := []) (k := 3) (i := 6) (qc18 K.2.1) gX4_open_X3_clear rfl (show 6 < 24 by omega) rfl rfl (na := 0) rfl (by decide +kernel) (by decide) (by decide) (Nat.le_of_ble_eq_true rfl) dX4_open_100 (fun g1 hp => ?_)
  obtain ⟨-, rfl⟩ := hp
  refine g_aload_n (pc := 103) dX4_open_103 rfl ?_
  refine fg_X4_open_36 (pc := 104) dX4_open_104 ?_
  refine g_iload (pc := 107) dX4_open_107 rfl ?_
  refine g_aarow (pc := 109) (k := 19) (r := 21) (a := 6) (show 0 < 1 by omega) rfl (by decide) dX4_open_109 ?_
  refine g_iconst (pc := 110) (v := 0) dX4_open_110 (by decide +kernel) ?_
  refine g_callSv (pc := 111) (Y' := mJ7_fill_53178) (As := [rv Z 21 6, iv 0]) (st := []) (c_fill K.2.1 (k := 21) (i := 6) (n := 24) (v := 0) (show 6 < 24 by omega) (fun _ => rfl) (by decide)) gX4_open_J7_fill_53178 rfl (na := 2) rfl (by decide +kernel) (by decide) (by decide) (Nat.le_of_ble_eq_true rfl) dX4_open_111 (fun g1 hp => ?_)
  obtain ⟨-, rfl⟩ := hp
  refine g_aload_n (pc := 114) dX4_open_114 rfl ?_
  refine fg_X4_open_39 (pc := 115) dX4_open_115 ?_
  refine g_iload (pc := 118) dX4_open_118 rfl ?_
  refine g_aarow (pc := 120) (k := 20) (r := 22) (a := 6) (show 0 < 1 by omega) rfl (by decide) dX4_open_120 ?_
  refine g_iconst (pc := 121) (v := 0) dX4_open_121 (by decide +kernel) ?_
  refine g_callSv (pc := 122) (Y' := mJ7_fill_53178) (As := [rv Z 22 6, iv 0]) (st := []) (c_fill K.2.1 (k := 22) (i := 6) (n := 24) (v := 0) (show 6 < 24 by omega) (fun _ => rfl) (by decide)) gX4_open_J7_fill_53178 rfl (na := 2) rfl (by decide +kernel) (by decide) (by decide) (Nat.le_of_ble_eq_true rfl) dX4_open_122 (fun g1 hp => ?_)
  obtain ⟨-, rfl⟩ := hp
  refine g_iinc (pc := 125) (v := 7) (ls' := [rv Z 4 0, iv 0, iv 0, iv 1, iv 7]) dX4_open_125 (Nat.le_of_ble_eq_true rfl) rfl (by decide +kernel) rfl ?_
  refine g_goto (pc := 128) 86 dX4_open_128 (by decide) ?_
  refine g_iload (pc := 86) dX4_open_86 rfl ?_
  refine g_bipush (pc := 88) (v := 24) dX4_open_88 (by decide +kernel) ?_
  refine g_icmp_ge (pc := 90) 131 dX4_open_90 (by decide) (by decide) (by decide) (fun h => absurd h (by decide)) (fun _ => ?_)
  refine g_aload_n (pc := 93) dX4_open_93 rfl ?_
  refine fg_X4_open_18 (pc := 94) dX4_open_94 ?_
  refine g_iload (pc := 97) dX4_open_97 rfl ?_
  refine g_aastation (pc := 99) (a := 7) (by decide) dX4_open_99 ?_
  refine g_callVv (pc := 100) (Y' := mX3_clear) (As := []) (st := []) (k := 3) (i := 7) (qc19 K.2.1) gX4_open_X3_clear rfl (show 7 < 24 by omega) rfl rfl (na := 0) rfl (by decide +kernel) (by decide) (by decide) (Nat.le_of_ble_eq_true rfl) dX4_open_100 (fun g1 hp => ?_)
  obtain ⟨-, rfl⟩ := hp
  refine g_aload_n (pc := 103) dX4_open_103 rfl ?_
  refine fg_X4_open_36 (pc := 104) dX4_open_104 ?_
  refine g_iload (pc := 107) dX4_open_107 rfl ?_
  refine g_aarow (pc := 109) (k := 19) (r := 21) (a := 7) (show 0 < 1 by omega) rfl (by decide) dX4_open_109 ?_
  refine g_iconst (pc := 110) (v := 0) dX4_open_110 (by decide +kernel) ?_
  refine g_callSv (pc := 111) (Y' := mJ7_fill_53178) (As := [rv Z 21 7, iv 0]) (st := []) (c_fill K.2.1 (k := 21) (i := 7) (n := 24) (v := 0) (show 7 < 24 by omega) (fun _ => rfl) (by decide)) gX4_open_J7_fill_53178 rfl (na := 2) rfl (by decide +kernel) (by decide) (by decide) (Nat.le_of_ble_eq_true rfl) dX4_open_111 (fun g1 hp => ?_)
  obtain ⟨-, rfl⟩ := hp
  refine g_aload_n (pc := 114) dX4_open_114 rfl ?_
  refine fg_X4_open_39 (pc := 115) dX4_open_115 ?_
  refine g_iload (pc := 118) dX4_open_118 rfl ?_
  refine g_aarow (pc := 120) (k := 20) (r := 22) (a := 7) (show 0 < 1 by omega) rfl (by decide) dX4_open_120 ?_
  refine g_iconst (pc := 121) (v := 0) dX4_open_121 (by decide +kernel) ?_
  refine g_callSv (pc := 122) (Y' := mJ7_fill_53178) (As := [rv Z 22 7, iv 0]) (st := []) (c_fill K.2.1 (k := 22) (i := 7) (n := 24) (v := 0) (show 7 < 24 by omega) (fun _ => rfl) (by decide)) gX4_open_J7_fill_53178 rfl (na := 2) rfl (by decide +kernel) (by decide) (by decide) (Nat.le_of_ble_eq_true rfl) dX4_open_122 (fun g1 hp => ?_)
  obtain ⟨-, rfl⟩ := hp
  refine g_iinc (pc := 125) (v := 8) (ls' := [rv Z 4 0, iv 0, iv 0, iv 1, iv 8]) dX4_open_125 (Nat.le_of_ble_eq_true rfl) rfl (by decide +kernel) rfl ?_
  refine g_goto (pc := 128) 86 dX4_open_128 (by decide) ?_
  refine g_iload (pc := 86) dX4_open_86 rfl ?_
  refine g_bipush (pc := 88) (v := 24) dX4_open_88 (by decide +kernel) ?_
  refine g_icmp_ge (pc := 90) 131 dX4_open_90 (by decide) (by decide) (by decide) (fun h => absurd h (by decide)) (fun _ => ?_)
  refine g_aload_n (pc := 93) dX4_open_93 rfl ?_
  refine fg_X4_open_18 (pc := 94) dX4_open_94 ?_
  refine g_iload (pc := 97) dX4_open_97 rfl ?_
  refine g_aastation (pc := 99) (a := 8) (by decide) dX4_open_99 ?_
  refine g_callVv (pc := 100) (Y' := mX3_clear) (As := []) (st := []) (k := 3) (i := 8) (qc20 K.2.1) gX4_open_X3_clear rfl (show 8 < 24 by omega) rfl rfl (na := 0) rfl (by decide +kernel) (by decide) (by decide) (Nat.le_of_ble_eq_true rfl) dX4_open_100 (fun g1 hp => ?_)
  obtain ⟨-, rfl⟩ := hp
  refine g_aload_n (pc := 103) dX4_open_103 rfl ?_
  refine fg_X4_open_36 (pc := 104) dX4_open_104 ?_
  refine g_iload (pc := 107) dX4_open_107 rfl ?_
  refine g_aarow (pc := 109) (k := 19) (r := 21) (a := 8) (show 0 < 1 by omega) rfl (by decide) dX4_open_109 ?_
  refine g_iconst (pc := 110) (v := 0) dX4_open_110 (by decide +kernel) ?_
  refine g_callSv (pc := 111) (Y' := mJ7_fill_53178) (As := [rv Z 21 8, iv 0]) (st := []) (c_fill K.2.1 (k := 21) (i := 8) (n := 24) (v := 0) (show 8 < 24 by omega) (fun _ => rfl) (by decide)) gX4_open_J7_fill_53178 rfl (na := 2) rfl (by decide +kernel) (by decide) (by decide) (Nat.le_of_ble_eq_true rfl) dX4_open_111 (fun g1 hp => ?_)
  obtain ⟨-, rfl⟩ := hp
  refine g_aload_n (pc := 114) dX4_open_114 rfl ?_
  refine fg_X4_open_39 (pc := 115) dX4_open_115 ?_
  refine g_iload (pc := 118) dX4_open_118 rfl ?_
  refine g_aarow (pc := 120) (k := 20) (r := 22) (a := 8) (show 0 < 1 by omega) rfl (by decide) dX4_open_120 ?_
  refine g_iconst (pc := 121) (v := 0) dX4_open_121 (by decide +kernel) ?_
  refine g_callSv (pc := 122) (Y' := mJ7_fill_53178) (As := [rv Z 22 8, iv 0]) (st := []) (c_fill K.2.1 (k := 22) (i := 8) (n := 24) (v := 0) (show 8 < 24 by omega) (fun _ => rfl) (by decide)) gX4_open_J7_fill_53178 rfl (na := 2) rfl (by decide +kernel) (by decide) (by decide) (Nat.le_of_ble_eq_true rfl) dX4_open_122 (fun g1 hp => ?_)
  obtain ⟨-, rfl⟩ := hp
  refine g_iinc (pc := 125) (v := 9) (ls' := [rv Z 4 0, iv 0, iv 0, iv 1, iv 9]) dX4_open_125 (Nat.le_of_ble_eq_true rfl) rfl (by decide +kernel) rfl ?_
  refine g_goto (pc := 128) 86 dX4_open_128 (by decide) ?_
  refine g_iload (pc := 86) dX4_open_86 rfl ?_
  refine g_bipush (pc := 88) (v := 24) dX4_open_88 (by decide +kernel) ?_
  refine g_icmp_ge (pc := 90) 131 dX4_open_90 (by decide) (by decide) (by decide) (fun h => absurd h (by decide)) (fun _ => ?_)
  refine g_aload_n (pc := 93) dX4_open_93 rfl ?_
  refine fg_X4_open_18 (pc := 94) dX4_open_94 ?_
  refine g_iload (pc := 97) dX4_open_97 rfl ?_
  refine g_aastation (pc := 99) (a := 9) (by decide) dX4_open_99 ?_
  refine g_callVv (pc := 100) (Y' := mX3_clear) (As := []) (st := []) (k := 3) (i := 9) (qc21 K.2.1) gX4_open_X3_clear rfl (show 9 < 24 by omega) rfl rfl (na := 0) rfl (by decide +kernel) (by decide) (by decide) (Nat.le_of_ble_eq_true rfl) dX4_open_100 (fun g1 hp => ?_)
  obtain ⟨-, rfl⟩ := hp
  refine g_aload_n (pc := 103) dX4_open_103 rfl ?_
  refine fg_X4_open_36 (pc := 104) dX4_open_104 ?_
  refine g_iload (pc := 107) dX4_open_107 rfl ?_
  refine g_aarow (pc := 109) (k := 19) (r := 21) (a := 9) (show 0 < 1 by omega) rfl (by decide) dX4_open_109 ?_
  refine g_iconst (pc := 110) (v := 0) dX4_open_110 (by decide +kernel) ?_
  refine g_callSv (pc := 111) (Y' := mJ7_fill_53178) (As := [rv Z 21 9, iv 0]) (st := []) (c_fill K.2.1 (k := 21) (i := 9) (n := 24) (v := 0) (show 9 < 24 by omega) (fun _ => rfl) (by decide)) gX4_open_J7_fill_53178 rfl (na := 2) rfl (by decide +kernel) (by decide) (by decide) (Nat.le_of_ble_eq_true rfl) dX4_open_111 (fun g1 hp => ?_)
  obtain ⟨-, rfl⟩ := hp
  refine g_aload_n (pc := 114) dX4_open_114 rfl ?_
  refine fg_X4_open_39 (pc := 115) dX4_open_115 ?_
  refine g_iload (pc := 118) dX4_open_118 rfl ?_
  refine g_aarow (pc := 120) (k := 20) (r := 22) (a := 9) (show 0 < 1 by omega) rfl (by decide) dX4_open_120 ?_
  refine g_iconst (pc := 121) (v := 0) dX4_open_121 (by decide +kernel) ?_
  refine g_callSv (pc := 122) (Y' := mJ7_fill_53178) (As := [rv Z 22 9, iv 0]) (st := []) (c_fill K.2.1 (k := 22) (i := 9) (n := 24) (v := 0) (show 9 < 24 by omega) (fun _ => rfl) (by decide)) gX4_open_J7_fill_53178 rfl (na := 2) rfl (by decide +kernel) (by decide) (by decide) (Nat.le_of_ble_eq_true rfl) dX4_open_122 (fun g1 hp => ?_)
  obtain ⟨-, rfl⟩ := hp
  refine g_iinc (pc := 125) (v := 10) (ls' := [rv Z 4 0, iv 0, iv 0, iv 1, iv 10]) dX4_open_125 (Nat.le_of_ble_eq_true rfl) rfl (by decide +kernel) rfl ?_
  refine g_goto (pc := 128) 86 dX4_open_128 (by decide) ?_
  refine g_iload (pc := 86) dX4_open_86 rfl ?_
  refine g_bipush (pc := 88) (v := 24) dX4_open_88 (by decide +kernel) ?_
  refine g_icmp_ge (pc := 90) 131 dX4_open_90 (by decide) (by decide) (by decide) (fun h => absurd h (by decide)) (fun _ => ?_)
  refine g_aload_n (pc := 93) dX4_open_93 rfl ?_
  refine fg_X4_open_18 (pc := 94) dX4_open_94 ?_
  refine g_iload (pc := 97) dX4_open_97 rfl ?_
  refine g_aastation (pc := 99) (a := 10) (by decide) dX4_open_99 ?_
  refine g_callVv (pc := 100) (Y' := mX3_clear) (As := []) (st := []) (k := 3) (i := 10) (qc22 K.2.1) gX4_open_X3_clear rfl (show 10 < 24 by omega) rfl rfl (na := 0) rfl (by decide +kernel) (by decide) (by decide) (Nat.le_of_ble_eq_true rfl) dX4_open_100 (fun g1 hp => ?_)
  obtain ⟨-, rfl⟩ := hp
  refine g_aload_n (pc := 103) dX4_open_103 rfl ?_
  refine fg_X4_open_36 (pc := 104) dX4_open_104 ?_
  refine g_iload (pc := 107) dX4_open_107 rfl ?_
  refine g_aarow (pc := 109) (k := 19) (r := 21) (a := 10) (show 0 < 1 by omega) rfl (by decide) dX4_open_109 ?_
  refine g_iconst (pc := 110) (v := 0) dX4_open_110 (by decide +kernel) ?_
  refine g_callSv (pc := 111) (Y' := mJ7_fill_53178) (As := [rv Z 21 10, iv 0]) (st := []) (c_fill K.2.1 (k := 21) (i := 10) (n := 24) (v := 0) (show 10 < 24 by omega) (fun _ => rfl) (by decide)) gX4_open_J7_fill_53178 rfl (na := 2) rfl (by decide +kernel) (by decide) (by decide) (Nat.le_of_ble_eq_true rfl) dX4_open_111 (fun g1 hp => ?_)
  obtain ⟨-, rfl⟩ := hp
  refine g_aload_n (pc := 114) dX4_open_114 rfl ?_
  refine fg_X4_open_39 (pc := 115) dX4_open_115 ?_
  refine g_iload (pc := 118) dX4_open_118 rfl ?_
  refine g_aarow (pc := 120) (k := 20) (r := 22) (a := 10) (show 0 < 1 by omega) rfl (by decide) dX4_open_120 ?_
  refine g_iconst (pc := 121) (v := 0) dX4_open_121 (by decide +kernel) ?_
  refine g_callSv (pc := 122) (Y' := mJ7_fill_53178) (As := [rv Z 22 10, iv 0]) (st := []) (c_fill K.2.1 (k := 22) (i := 10) (n := 24) (v := 0) (show 10 < 24 by omega) (fun _ => rfl) (by decide)) gX4_open_J7_fill_53178 rfl (na := 2) rfl (by decide +kernel) (by decide) (by decide) (Nat.le_of_ble_eq_true rfl) dX4_open_122 (fun g1 hp => ?_)
  obtain ⟨-, rfl⟩ := hp
  refine g_iinc (pc := 125) (v := 11) (ls' := [rv Z 4 0, iv 0, iv 0, iv 1, iv 11]) dX4_open_125 (Nat.le_of_ble_eq_true rfl) rfl (by decide +kernel) rfl ?_
  refine g_goto (pc := 128) 86 dX4_open_128 (by decide) ?_
  refine g_iload (pc := 86) dX4_open_86 rfl ?_
  refine g_bipush (pc := 88) (v := 24) dX4_open_88 (by decide +kernel) ?_
  refine g_icmp_ge (pc := 90) 131 dX4_open_90 (by decide) (by decide) (by decide) (fun h => absurd h (by decide)) (fun _ => ?_)
  refine g_aload_n (pc := 93) dX4_open_93 rfl ?_
  refine fg_X4_open_18 (pc := 94) dX4_open_94 ?_
  refine g_iload (pc := 97) dX4_open_97 rfl ?_
  refine g_aastation (pc := 99) (a := 11) (by decide) dX4_open_99 ?_
  refine g_callVv (pc := 100) (Y' := mX3_clear) (As := []) (st := []) (k := 3) (i := 11) (qc23 K.2.1) gX4_open_X3_clear rfl (show 11 < 24 by omega) rfl rfl (na := 0) rfl (by decide +kernel) (by decide) (by decide) (Nat.le_of_ble_eq_true rfl) dX4_open_100 (fun g1 hp => ?_)
  obtain ⟨-, rfl⟩ := hp
  refine g_aload_n (pc := 103) dX4_open_103 rfl ?_
  refine fg_X4_open_36 (pc := 104) dX4_open_104 ?_
  refine g_iload (pc := 107) dX4_open_107 rfl ?_
  refine g_aarow (pc := 109) (k := 19) (r := 21) (a := 11) (show 0 < 1 by omega) rfl (by decide) dX4_open_109 ?_
  refine g_iconst (pc := 110) (v := 0) dX4_open_110 (by decide +kernel) ?_
  refine g_callSv (pc := 111) (Y' := mJ7_fill_53178) (As := [rv Z 21 11, iv 0]) (st := []) (c_fill K.2.1 (k := 21) (i := 11) (n := 24) (v := 0) (show 11 < 24 by omega) (fun _ => rfl) (by decide)) gX4_open_J7_fill_53178 rfl (na := 2) rfl (by decide +kernel) (by decide) (by decide) (Nat.le_of_ble_eq_true rfl) dX4_open_111 (fun g1 hp => ?_)
  obtain ⟨-, rfl⟩ := hp
  refine g_aload_n (pc := 114) dX4_open_114 rfl ?_
  refine fg_X4_open_39 (pc := 115) dX4_open_115 ?_
  refine g_iload (pc := 118) dX4_open_118 rfl ?_
  refine g_aarow (pc := 120) (k := 20) (r := 22) (a := 11) (show 0 < 1 by omega) rfl (by decide) dX4_open_120 ?_
  refine g_iconst (pc := 121) (v := 0) dX4_open_121 (by decide +kernel) ?_
  refine g_callSv (pc := 122) (Y' := mJ7_fill_53178) (As := [rv Z 22 11, iv 0]) (st := []) (c_fill K.2.1 (k := 22) (i := 11) (n := 24) (v := 0) (show 11 < 24 by omega) (fun _ => rfl) (by decide)) gX4_open_J7_fill_53178 rfl (na := 2) rfl (by decide +kernel) (by decide) (by decide) (Nat.le_of_ble_eq_true rfl) dX4_open_122 (fun g1 hp => ?_)
  obtain ⟨-, rfl⟩ := hp
  refine g_iinc (pc := 125) (v := 12) (ls' := [rv Z 4 0, iv 0, iv 0, iv 1, iv 12]) dX4_open_125 (Nat.le_of_ble_eq_true rfl) rfl (by decide +kernel) rfl ?_
  refine g_goto (pc := 128) 86 dX4_open_128 (by decide) ?_
  refine g_iload (pc := 86) dX4_open_86 rfl ?_
  refine g_bipush (pc := 88) (v := 24) dX4_open_88 (by decide +kernel) ?_
  refine g_icmp_ge (pc := 90) 131 dX4_open_90 (by decide) (by decide) (by decide) (fun h => absurd h (by decide)) (fun _ => ?_)
  refine g_aload_n (pc := 93) dX4_open_93 rfl ?_
  refine fg_X4_open_18 (pc := 94) dX4_open_94 ?_
  refine g_iload (pc := 97) dX4_open_97 rfl ?_
  refine g_aastation (pc := 99) (a := 12) (by decide) dX4_open_99 ?_
  refine g_callVv (pc := 100) (Y' := mX3_clear) (As := []) (st := []) (k := 3) (i := 12) (qc24 K.2.1) gX4_open_X3_clear rfl (show 12 < 24 by omega) rfl rfl (na := 0) rfl (by decide +kernel) (by decide) (by decide) (Nat.le_of_ble_eq_true rfl) dX4_open_100 (fun g1 hp => ?_)
  obtain ⟨-, rfl⟩ := hp
  refine g_aload_n (pc := 103) dX4_open_103 rfl ?_
  refine fg_X4_open_36 (pc := 104) dX4_open_104 ?_
  refine g_iload (pc := 107) dX4_open_107 rfl ?_
  refine g_aarow (pc := 109) (k := 19) (r := 21) (a := 12) (show 0 < 1 by omega) rfl (by decide) dX4_open_109 ?_
  refine g_iconst (pc := 110) (v := 0) dX4_open_110 (by decide +kernel) ?_
  refine g_callSv (pc := 111) (Y' := mJ7_fill_53178) (As := [rv Z 21 12, iv 0]) (st := []) (c_fill K.2.1 (k := 21) (i := 12) (n := 24) (v := 0) (show 12 < 24 by omega) (fun _ => rfl) (by decide)) gX4_open_J7_fill_53178 rfl (na := 2) rfl (by decide +kernel) (by decide) (by decide) (Nat.le_of_ble_eq_true rfl) dX4_open_111 (fun g1 hp => ?_)
  obtain ⟨-, rfl⟩ := hp
  refine g_aload_n (pc := 114) dX4_open_114 rfl ?_
  refine fg_X4_open_39 (pc := 115) dX4_open_115 ?_
  refine g_iload (pc := 118) dX4_open_118 rfl ?_
  refine g_aarow (pc := 120) (k := 20) (r := 22) (a := 12) (show 0 < 1 by omega) rfl (by decide) dX4_open_120 ?_
  refine g_iconst (pc := 121) (v := 0) dX4_open_121 (by decide +kernel) ?_
  refine g_callSv (pc := 122) (Y' := mJ7_fill_53178) (As := [rv Z 22 12, iv 0]) (st := []) (c_fill K.2.1 (k := 22) (i := 12) (n := 24) (v := 0) (show 12 < 24 by omega) (fun _ => rfl) (by decide)) gX4_open_J7_fill_53178 rfl (na := 2) rfl (by decide +kernel) (by decide) (by decide) (Nat.le_of_ble_eq_true rfl) dX4_open_122 (fun g1 hp => ?_)
  obtain ⟨-, rfl⟩ := hp
  refine g_iinc (pc := 125) (v := 13) (ls' := [rv Z 4 0, iv 0, iv 0, iv 1, iv 13]) dX4_open_125 (Nat.le_of_ble_eq_true rfl) rfl (by decide +kernel) rfl ?_
  refine g_goto (pc := 128) 86 dX4_open_128 (by decide) ?_
  refine g_iload (pc := 86) dX4_open_86 rfl ?_
  refine g_bipush (pc := 88) (v := 24) dX4_open_88 (by decide +kernel) ?_
  refine g_icmp_ge (pc := 90) 131 dX4_open_90 (by decide) (by decide) (by decide) (fun h => absurd h (by decide)) (fun _ => ?_)
  refine g_aload_n (pc := 93) dX4_open_93 rfl ?_
  refine fg_X4_open_18 (pc := 94) dX4_open_94 ?_
  refine g_iload (pc := 97) dX4_open_97 rfl ?_
  refine g_aastation (pc := 99) (a := 13) (by decide) dX4_open_99 ?_
  refine g_callVv (pc := 100) (Y' := mX3_clear) (As := []) (st := []) (k := 3) (i := 13) (qc25 K.2.1) gX4_open_X3_clear rfl (show 13 < 24 by omega) rfl rfl (na := 0) rfl (by decide +kernel) (by decide) (by decide) (Nat.le_of_ble_eq_true rfl) dX4_open_100 (fun g1 hp => ?_)
  obtain ⟨-, rfl⟩ := hp
  refine g_aload_n (pc := 103) dX4_open_103 rfl ?_
  refine fg_X4_open_36 (pc := 104) dX4_open_104 ?_
  refine g_iload (pc := 107) dX4_open_107 rfl ?_
  refine g_aarow (pc := 109) (k := 19) (r := 21) (a := 13) (show 0 < 1 by omega) rfl (by decide) dX4_open_109 ?_
  refine g_iconst (pc := 110) (v := 0) dX4_open_110 (by decide +kernel) ?_
  refine g_callSv (pc := 111) (Y' := mJ7_fill_53178) (As := [rv Z 21 13, iv 0]) (st := []) (c_fill K.2.1 (k := 21) (i := 13) (n := 24) (v := 0) (show 13 < 24 by omega) (fun _ => rfl) (by decide)) gX4_open_J7_fill_53178 rfl (na := 2) rfl (by decide +kernel) (by decide) (by decide) (Nat.le_of_ble_eq_true rfl) dX4_open_111 (fun g1 hp => ?_)
  obtain ⟨-, rfl⟩ := hp
  refine g_aload_n (pc := 114) dX4_open_114 rfl ?_
  refine fg_X4_open_39 (pc := 115) dX4_open_115 ?_
  refine g_iload (pc := 118) dX4_open_118 rfl ?_
  refine g_aarow (pc := 120) (k := 20) (r := 22) (a := 13) (show 0 < 1 by omega) rfl (by decide) dX4_open_120 ?_
  refine g_iconst (pc := 121) (v := 0) dX4_open_121 (by decide +kernel) ?_
  refine g_callSv (pc := 122) (Y' := mJ7_fill_53178) (As := [rv Z 22 13, iv 0]) (st := []) (c_fill K.2.1 (k := 22) (i := 13) (n := 24) (v := 0) (show 13 < 24 by omega) (fun _ => rfl) (by decide)) gX4_open_J7_fill_53178 rfl (na := 2) rfl (by decide +kernel) (by decide) (by decide) (Nat.le_of_ble_eq_true rfl) dX4_open_122 (fun g1 hp => ?_)
  obtain ⟨-, rfl⟩ := hp
  refine g_iinc (pc := 125) (v := 14) (ls' := [rv Z 4 0, iv 0, iv 0, iv 1, iv 14]) dX4_open_125 (Nat.le_of_ble_eq_true rfl) rfl (by decide +kernel) rfl ?_
  refine g_goto (pc := 128) 86 dX4_open_128 (by decide) ?_
  refine g_iload (pc := 86) dX4_open_86 rfl ?_
  refine g_bipush (pc := 88) (v := 24) dX4_open_88 (by decide +kernel) ?_
  refine g_icmp_ge (pc := 90) 131 dX4_open_90 (by decide) (by decide) (by decide) (fun h => absurd h (by decide)) (fun _ => ?_)
  refine g_aload_n (pc := 93) dX4_open_93 rfl ?_
  refine fg_X4_open_18 (pc := 94) dX4_open_94 ?_
  refine g_iload (pc := 97) dX4_open_97 rfl ?_
  refine g_aastation (pc := 99) (a := 14) (by decide) dX4_open_99 ?_
  refine g_callVv (pc := 100) (Y' := mX3_clear) (As := []) (st := []) (k := 3) (i := 14) (qc26 K.2.1) gX4_open_X3_clear rfl (show 14 < 24 by omega) rfl rfl (na := 0) rfl (by decide +kernel) (by decide) (by decide) (Nat.le_of_ble_eq_true rfl) dX4_open_100 (fun g1 hp => ?_)
  obtain ⟨-, rfl⟩ := hp
  refine g_aload_n (pc := 103) dX4_open_103 rfl ?_
  refine fg_X4_open_36 (pc := 104) dX4_open_104 ?_
  refine g_iload (pc := 107) dX4_open_107 rfl ?_
  refine g_aarow (pc := 109) (k := 19) (r := 21) (a := 14) (show 0 < 1 by omega) rfl (by decide) dX4_open_109 ?_
  refine g_iconst (pc := 110) (v := 0) dX4_open_110 (by decide +kernel) ?_
  refine g_callSv (pc := 111) (Y' := mJ7_fill_53178) (As := [rv Z 21 14, iv 0]) (st := []) (c_fill K.2.1 (k := 21) (i := 14) (n := 24) (v := 0) (show 14 < 24 by omega) (fun _ => rfl) (by decide)) gX4_open_J7_fill_53178 rfl (na := 2) rfl (by decide +kernel) (by decide) (by decide) (Nat.le_of_ble_eq_true rfl) dX4_open_111 (fun g1 hp => ?_)
  obtain ⟨-, rfl⟩ := hp
  refine g_aload_n (pc := 114) dX4_open_114 rfl ?_
  refine fg_X4_open_39 (pc := 115) dX4_open_115 ?_
  refine g_iload (pc := 118) dX4_open_118 rfl ?_
  refine g_aarow (pc := 120) (k := 20) (r := 22) (a := 14) (show 0 < 1 by omega) rfl (by decide) dX4_open_120 ?_
  refine g_iconst (pc := 121) (v := 0) dX4_open_121 (by decide +kernel) ?_
  refine g_callSv (pc := 122) (Y' := mJ7_fill_53178) (As := [rv Z 22 14, iv 0]) (st := []) (c_fill K.2.1 (k := 22) (i := 14) (n := 24) (v := 0) (show 14 < 24 by omega) (fun _ => rfl) (by decide)) gX4_open_J7_fill_53178 rfl (na := 2) rfl (by decide +kernel) (by decide) (by decide) (Nat.le_of_ble_eq_true rfl) dX4_open_122 (fun g1 hp => ?_)
  obtain ⟨-, rfl⟩ := hp
  refine g_iinc (pc := 125) (v := 15) (ls' := [rv Z 4 0, iv 0, iv 0, iv 1, iv 15]) dX4_open_125 (Nat.le_of_ble_eq_true rfl) rfl (by decide +kernel) rfl ?_
  refine g_goto (pc := 128) 86 dX4_open_128 (by decide) ?_
  refine g_iload (pc := 86) dX4_open_86 rfl ?_
  refine g_bipush (pc := 88) (v := 24) dX4_open_88 (by decide +kernel) ?_
  refine g_icmp_ge (pc := 90) 131 dX4_open_90 (by decide) (by decide) (by decide) (fun h => absurd h (by decide)) (fun _ => ?_)
  refine g_aload_n (pc := 93) dX4_open_93 rfl ?_
  refine fg_X4_open_18 (pc := 94) dX4_open_94 ?_
  refine g_iload (pc := 97) dX4_open_97 rfl ?_
  refine g_aastation (pc := 99) (a := 15) (by decide) dX4_open_99 ?_
  refine g_callVv (pc := 100) (Y' := mX3_clear) (As := []) (st := []) (k := 3) (i := 15) (qc27 K.2.1) gX4_open_X3_clear rfl (show 15 < 24 by omega) rfl rfl (na := 0) rfl (by decide +kernel) (by decide) (by decide) (Nat.le_of_ble_eq_true rfl) dX4_open_100 (fun g1 hp => ?_)
  obtain ⟨-, rfl⟩ := hp
  refine g_aload_n (pc := 103) dX4_open_103 rfl ?_
  refine fg_X4_open_36 (pc := 104) dX4_open_104 ?_
  refine g_iload (pc := 107) dX4_open_107 rfl ?_
  refine g_aarow (pc := 109) (k := 19) (r := 21) (a := 15) (show 0 < 1 by omega) rfl (by decide) dX4_open_109 ?_
  refine g_iconst (pc := 110) (v := 0) dX4_open_110 (by decide +kernel) ?_
  refine g_callSv (pc := 111) (Y' := mJ7_fill_53178) (As := [rv Z 21 15, iv 0]) (st := []) (c_fill K.2.1 (k := 21) (i := 15) (n := 24) (v := 0) (show 15 < 24 by omega) (fun _ => rfl) (by decide)) gX4_open_J7_fill_53178 rfl (na := 2) rfl (by decide +kernel) (by decide) (by decide) (Nat.le_of_ble_eq_true rfl) dX4_open_111 (fun g1 hp => ?_)
  obtain ⟨-, rfl⟩ := hp
  refine g_aload_n (pc := 114) dX4_open_114 rfl ?_
  refine fg_X4_open_39 (pc := 115) dX4_open_115 ?_
  refine g_iload (pc := 118) dX4_open_118 rfl ?_
  refine g_aarow (pc := 120) (k := 20) (r := 22) (a := 15) (show 0 < 1 by omega) rfl (by decide) dX4_open_120 ?_
  refine g_iconst (pc := 121) (v := 0) dX4_open_121 (by decide +kernel) ?_
  refine g_callSv (pc := 122) (Y' := mJ7_fill_53178) (As := [rv Z 22 15, iv 0]) (st := []) (c_fill K.2.1 (k := 22) (i := 15) (n := 24) (v := 0) (show 15 < 24 by omega) (fun _ => rfl) (by decide)) gX4_open_J7_fill_53178 rfl (na := 2) rfl (by decide +kernel) (by decide) (by decide) (Nat.le_of_ble_eq_true rfl) dX4_open_122 (fun g1 hp => ?_)
  obtain ⟨-, rfl⟩ := hp
  refine g_iinc (pc := 125) (v := 16) (ls' := [rv Z 4 0, iv 0, iv 0, iv 1, iv 16]) dX4_open_125 (Nat.le_of_ble_eq_true rfl) rfl (by decide +kernel) rfl ?_
  refine g_goto (pc := 128) 86 dX4_open_128 (by decide) ?_
  refine g_iload (pc := 86) dX4_open_86 rfl ?_
  refine g_bipush (pc := 88) (v := 24) dX4_open_88 (by decide +kernel) ?_
  refine g_icmp_ge (pc := 90) 131 dX4_open_90 (by decide) (by decide) (by decide) (fun h => absurd h (by decide)) (fun _ => ?_)
  refine g_aload_n (pc := 93) dX4_open_93 rfl ?_
  refine fg_X4_open_18 (pc := 94) dX4_open_94 ?_
  refine g_iload (pc := 97) dX4_open_97 rfl ?_
  refine g_aastation (pc := 99) (a := 16) (by decide) dX4_open_99 ?_
  refine g_callVv (pc := 100) (Y' := mX3_clear) (As := []) (st := []) (k := 3) (i := 16) (qc28 K.2.1) gX4_open_X3_clear rfl (show 16 < 24 by omega) rfl rfl (na := 0) rfl (by decide +kernel) (by decide) (by decide) (Nat.le_of_ble_eq_true rfl) dX4_open_100 (fun g1 hp => ?_)
  obtain ⟨-, rfl⟩ := hp
  refine g_aload_n (pc := 103) dX4_open_103 rfl ?_
  refine fg_X4_open_36 (pc := 104) dX4_open_104 ?_
  refine g_iload (pc := 107) dX4_open_107 rfl ?_
  refine g_aarow (pc := 109) (k := 19) (r := 21) (a := 16) (show 0 < 1 by omega) rfl (by decide) dX4_open_109 ?_
  refine g_iconst (pc := 110) (v := 0) dX4_open_110 (by decide +kernel) ?_
  refine g_callSv (pc := 111) (Y' := mJ7_fill_53178) (As := [rv Z 21 16, iv 0]) (st := []) (c_fill K.2.1 (k := 21) (i := 16) (n := 24) (v := 0) (show 16 < 24 by omega) (fun _ => rfl) (by decide)) gX4_open_J7_fill_53178 rfl (na := 2) rfl (by decide +kernel) (by decide) (by decide) (Nat.le_of_ble_eq_true rfl) dX4_open_111 (fun g1 hp => ?_)
  obtain ⟨-, rfl⟩ := hp
  refine g_aload_n (pc := 114) dX4_open_114 rfl ?_
  refine fg_X4_open_39 (pc := 115) dX4_open_115 ?_
  refine g_iload (pc := 118) dX4_open_118 rfl ?_
  refine g_aarow (pc := 120) (k := 20) (r := 22) (a := 16) (show 0 < 1 by omega) rfl (by decide) dX4_open_120 ?_
  refine g_iconst (pc := 121) (v := 0) dX4_open_121 (by decide +kernel) ?_
  refine g_callSv (pc := 122) (Y' := mJ7_fill_53178) (As := [rv Z 22 16, iv 0]) (st := []) (c_fill K.2.1 (k := 22) (i := 16) (n := 24) (v := 0) (show 16 < 24 by omega) (fun _ => rfl) (by decide)) gX4_open_J7_fill_53178 rfl (na := 2) rfl (by decide +kernel) (by decide) (by decide) (Nat.le_of_ble_eq_true rfl) dX4_open_122 (fun g1 hp => ?_)
  obtain ⟨-, rfl⟩ := hp
  refine g_iinc (pc := 125) (v := 17) (ls' := [rv Z 4 0, iv 0, iv 0, iv 1, iv 17]) dX4_open_125 (Nat.le_of_ble_eq_true rfl) rfl (by decide +kernel) rfl ?_
  refine g_goto (pc := 128) 86 dX4_open_128 (by decide) ?_
  refine g_iload (pc := 86) dX4_open_86 rfl ?_
  refine g_bipush (pc := 88) (v := 24) dX4_open_88 (by decide +kernel) ?_
  refine g_icmp_ge (pc := 90) 131 dX4_open_90 (by decide) (by decide) (by decide) (fun h => absurd h (by decide)) (fun _ => ?_)
  refine g_aload_n (pc := 93) dX4_open_93 rfl ?_
  refine fg_X4_open_18 (pc := 94) dX4_open_94 ?_
  refine g_iload (pc := 97) dX4_open_97 rfl ?_
  refine g_aastation (pc := 99) (a := 17) (by decide) dX4_open_99 ?_
  refine g_callVv (pc := 100) (Y' := mX3_clear) (As := []) (st := []) (k := 3) (i := 17) (qc29 K.2.1) gX4_open_X3_clear rfl (show 17 < 24 by omega) rfl rfl (na := 0) rfl (by decide +kernel) (by decide) (by decide) (Nat.le_of_ble_eq_true rfl) dX4_open_100 (fun g1 hp => ?_)
  obtain ⟨-, rfl⟩ := hp
  refine g_aload_n (pc := 103) dX4_open_103 rfl ?_
  refine fg_X4_open_36 (pc := 104) dX4_open_104 ?_
  refine g_iload (pc := 107) dX4_open_107 rfl ?_
  refine g_aarow (pc := 109) (k := 19) (r := 21) (a := 17) (show 0 < 1 by omega) rfl (by decide) dX4_open_109 ?_
  refine g_iconst (pc := 110) (v := 0) dX4_open_110 (by decide +kernel) ?_
  refine g_callSv (pc := 111) (Y' := mJ7_fill_53178) (As := [rv Z 21 17, iv 0]) (st := []) (c_fill K.2.1 (k := 21) (i := 17) (n := 24) (v := 0) (show 17 < 24 by omega) (fun _ => rfl) (by decide)) gX4_open_J7_fill_53178 rfl (na := 2) rfl (by decide +kernel) (by decide) (by decide) (Nat.le_of_ble_eq_true rfl) dX4_open_111 (fun g1 hp => ?_)
  obtain ⟨-, rfl⟩ := hp
  refine g_aload_n (pc := 114) dX4_open_114 rfl ?_
  refine fg_X4_open_39 (pc := 115) dX4_open_115 ?_
  refine g_iload (pc := 118) dX4_open_118 rfl ?_
  refine g_aarow (pc := 120) (k := 20) (r := 22) (a := 17) (show 0 < 1 by omega) rfl (by decide) dX4_open_120 ?_
  refine g_iconst (pc := 121) (v := 0) dX4_open_121 (by decide +kernel) ?_
  refine g_callSv (pc := 122) (Y' := mJ7_fill_53178) (As := [rv Z 22 17, iv 0]) (st := []) (c_fill K.2.1 (k := 22) (i := 17) (n := 24) (v := 0) (show 17 < 24 by omega) (fun _ => rfl) (by decide)) gX4_open_J7_fill_53178 rfl (na := 2) rfl (by decide +kernel) (by decide) (by decide) (Nat.le_of_ble_eq_true rfl) dX4_open_122 (fun g1 hp => ?_)
  obtain ⟨-, rfl⟩ := hp
  refine g_iinc (pc := 125) (v := 18) (ls' := [rv Z 4 0, iv 0, iv 0, iv 1, iv 18]) dX4_open_125 (Nat.le_of_ble_eq_true rfl) rfl (by decide +kernel) rfl ?_
  refine g_goto (pc := 128) 86 dX4_open_128 (by decide) ?_
  refine g_iload (pc := 86) dX4_open_86 rfl ?_
  refine g_bipush (pc := 88) (v := 24) dX4_open_88 (by decide +kernel) ?_
  refine g_icmp_ge (pc := 90) 131 dX4_open_90 (by decide) (by decide) (by decide) (fun h => absurd h (by decide)) (fun _ => ?_)
  refine g_aload_n (pc := 93) dX4_open_93 rfl ?_
  refine fg_X4_open_18 (pc := 94) dX4_open_94 ?_
  refine g_iload (pc := 97) dX4_open_97 rfl ?_
  refine g_aastation (pc := 99) (a := 18) (by decide) dX4_open_99 ?_
  refine g_callVv (pc := 100) (Y' := mX3_clear) (As := []) (st := []) (k := 3) (i := 18) (qc30 K.2.1) gX4_open_X3_clear rfl (show 18 < 24 by omega) rfl rfl (na := 0) rfl (by decide +kernel) (by decide) (by decide) (Nat.le_of_ble_eq_true rfl) dX4_open_100 (fun g1 hp => ?_)
  obtain ⟨-, rfl⟩ := hp
  refine g_aload_n (pc := 103) dX4_open_103 rfl ?_
  refine fg_X4_open_36 (pc := 104) dX4_open_104 ?_
  refine g_iload (pc := 107) dX4_open_107 rfl ?_
  refine g_aarow (pc := 109) (k := 19) (r := 21) (a := 18) (show 0 < 1 by omega) rfl (by decide) dX4_open_109 ?_
  refine g_iconst (pc := 110) (v := 0) dX4_open_110 (by decide +kernel) ?_
  refine g_callSv (pc := 111) (Y' := mJ7_fill_53178) (As := [rv Z 21 18, iv 0]) (st := []) (c_fill K.2.1 (k := 21) (i := 18) (n := 24) (v := 0) (show 18 < 24 by omega) (fun _ => rfl) (by decide)) gX4_open_J7_fill_53178 rfl (na := 2) rfl (by decide +kernel) (by decide) (by decide) (Nat.le_of_ble_eq_true rfl) dX4_open_111 (fun g1 hp => ?_)
  obtain ⟨-, rfl⟩ := hp
  refine g_aload_n (pc := 114) dX4_open_114 rfl ?_
  refine fg_X4_open_39 (pc := 115) dX4_open_115 ?_
  refine g_iload (pc := 118) dX4_open_118 rfl ?_
  refine g_aarow (pc := 120) (k := 20) (r := 22) (a := 18) (show 0 < 1 by omega) rfl (by decide) dX4_open_120 ?_
  refine g_iconst (pc := 121) (v := 0) dX4_open_121 (by decide +kernel) ?_
  refine g_callSv (pc := 122) (Y' := mJ7_fill_53178) (As := [rv Z 22 18, iv 0]) (st := []) (c_fill K.2.1 (k := 22) (i := 18) (n := 24) (v := 0) (show 18 < 24 by omega) (fun _ => rfl) (by decide)) gX4_open_J7_fill_53178 rfl (na := 2) rfl (by decide +kernel) (by decide) (by decide) (Nat.le_of_ble_eq_true rfl) dX4_open_122 (fun g1 hp => ?_)
  obtain ⟨-, rfl⟩ := hp
  refine g_iinc (pc := 125) (v := 19) (ls' := [rv Z 4 0, iv 0, iv 0, iv 1, iv 19]) dX4_open_125 (Nat.le_of_ble_eq_true rfl) rfl (by decide +kernel) rfl ?_
  refine g_goto (pc := 128) 86 dX4_open_128 (by decide) ?_
  refine g_iload (pc := 86) dX4_open_86 rfl ?_
  refine g_bipush (pc := 88) (v := 24) dX4_open_88 (by decide +kernel) ?_
  refine g_icmp_ge (pc := 90) 131 dX4_open_90 (by decide) (by decide) (by decide) (fun h => absurd h (by decide)) (fun _ => ?_)
  refine g_aload_n (pc := 93) dX4_open_93 rfl ?_
  refine fg_X4_open_18 (pc := 94) dX4_open_94 ?_
  refine g_iload (pc := 97) dX4_open_97 rfl ?_
  refine g_aastation (pc := 99) (a := 19) (by decide) dX4_open_99 ?_
  refine g_callVv (pc := 100) (Y' := mX3_clear) (As := []) (st := []) (k := 3) (i := 19) (qc31 K.2.1) gX4_open_X3_clear rfl (show 19 < 24 by omega) rfl rfl (na := 0) rfl (by decide +kernel) (by decide) (by decide) (Nat.le_of_ble_eq_true rfl) dX4_open_100 (fun g1 hp => ?_)
  obtain ⟨-, rfl⟩ := hp
  refine g_aload_n (pc := 103) dX4_open_103 rfl ?_
  refine fg_X4_open_36 (pc := 104) dX4_open_104 ?_
  refine g_iload (pc := 107) dX4_open_107 rfl ?_
  refine g_aarow (pc := 109) (k := 19) (r := 21) (a := 19) (show 0 < 1 by omega) rfl (by decide) dX4_open_109 ?_
  refine g_iconst (pc := 110) (v := 0) dX4_open_110 (by decide +kernel) ?_
  refine g_callSv (pc := 111) (Y' := mJ7_fill_53178) (As := [rv Z 21 19, iv 0]) (st := []) (c_fill K.2.1 (k := 21) (i := 19) (n := 24) (v := 0) (show 19 < 24 by omega) (fun _ => rfl) (by decide)) gX4_open_J7_fill_53178 rfl (na := 2) rfl (by decide +kernel) (by decide) (by decide) (Nat.le_of_ble_eq_true rfl) dX4_open_111 (fun g1 hp => ?_)
  obtain ⟨-, rfl⟩ := hp
  refine g_aload_n (pc := 114) dX4_open_114 rfl ?_
  refine fg_X4_open_39 (pc := 115) dX4_open_115 ?_
  refine g_iload (pc := 118) dX4_open_118 rfl ?_
  refine g_aarow (pc := 120) (k := 20) (r := 22) (a := 19) (show 0 < 1 by omega) rfl (by decide) dX4_open_120 ?_
  refine g_iconst (pc := 121) (v := 0) dX4_open_121 (by decide +kernel) ?_
  refine g_callSv (pc := 122) (Y' := mJ7_fill_53178) (As := [rv Z 22 19, iv 0]) (st := []) (c_fill K.2.1 (k := 22) (i := 19) (n := 24) (v := 0) (show 19 < 24 by omega) (fun _ => rfl) (by decide)) gX4_open_J7_fill_53178 rfl (na := 2) rfl (by decide +kernel) (by decide) (by decide) (Nat.le_of_ble_eq_true rfl) dX4_open_122 (fun g1 hp => ?_)
  obtain ⟨-, rfl⟩ := hp
  refine g_iinc (pc := 125) (v := 20) (ls' := [rv Z 4 0, iv 0, iv 0, iv 1, iv 20]) dX4_open_125 (Nat.le_of_ble_eq_true rfl) rfl (by decide +kernel) rfl ?_
  refine g_goto (pc := 128) 86 dX4_open_128 (by decide) ?_
  refine g_iload (pc := 86) dX4_open_86 rfl ?_
  refine g_bipush (pc := 88) (v := 24) dX4_open_88 (by decide +kernel) ?_
  refine g_icmp_ge (pc := 90) 131 dX4_open_90 (by decide) (by decide) (by decide) (fun h => absurd h (by decide)) (fun _ => ?_)
  refine g_aload_n (pc := 93) dX4_open_93 rfl ?_
  refine fg_X4_open_18 (pc := 94) dX4_open_94 ?_
  refine g_iload (pc := 97) dX4_open_97 rfl ?_
  refine g_aastation (pc := 99) (a := 20) (by decide) dX4_open_99 ?_
  refine g_callVv (pc := 100) (Y' := mX3_clear) (As := []) (st := []) (k := 3) (i := 20) (qc32 K.2.1) gX4_open_X3_clear rfl (show 20 < 24 by omega) rfl rfl (na := 0) rfl (by decide +kernel) (by decide) (by decide) (Nat.le_of_ble_eq_true rfl) dX4_open_100 (fun g1 hp => ?_)
  obtain ⟨-, rfl⟩ := hp
  refine g_aload_n (pc := 103) dX4_open_103 rfl ?_
  refine fg_X4_open_36 (pc := 104) dX4_open_104 ?_
  refine g_iload (pc := 107) dX4_open_107 rfl ?_
  refine g_aarow (pc := 109) (k := 19) (r := 21) (a := 20) (show 0 < 1 by omega) rfl (by decide) dX4_open_109 ?_
  refine g_iconst (pc := 110) (v := 0) dX4_open_110 (by decide +kernel) ?_
  refine g_callSv (pc := 111) (Y' := mJ7_fill_53178) (As := [rv Z 21 20, iv 0]) (st := []) (c_fill K.2.1 (k := 21) (i := 20) (n := 24) (v := 0) (show 20 < 24 by omega) (fun _ => rfl) (by decide)) gX4_open_J7_fill_53178 rfl (na := 2) rfl (by decide +kernel) (by decide) (by decide) (Nat.le_of_ble_eq_true rfl) dX4_open_111 (fun g1 hp => ?_)
  obtain ⟨-, rfl⟩ := hp
  refine g_aload_n (pc := 114) dX4_open_114 rfl ?_
  refine fg_X4_open_39 (pc := 115) dX4_open_115 ?_
  refine g_iload (pc := 118) dX4_open_118 rfl ?_
  refine g_aarow (pc := 120) (k := 20) (r := 22) (a := 20) (show 0 < 1 by omega) rfl (by decide) dX4_open_120 ?_
  refine g_iconst (pc := 121) (v := 0) dX4_open_121 (by decide +kernel) ?_
  refine g_callSv (pc := 122) (Y' := mJ7_fill_53178) (As := [rv Z 22 20, iv 0]) (st := []) (c_fill K.2.1 (k := 22) (i := 20) (n := 24) (v := 0) (show 20 < 24 by omega) (fun _ => rfl) (by decide)) gX4_open_J7_fill_53178 rfl (na := 2) rfl (by decide +kernel) (by decide) (by decide) (Nat.le_of_ble_eq_true rfl) dX4_open_122 (fun g1 hp => ?_)
  obtain ⟨-, rfl⟩ := hp
  refine g_iinc (pc := 125) (v := 21) (ls' := [rv Z 4 0, iv 0, iv 0, iv 1, iv 21]) dX4_open_125 (Nat.le_of_ble_eq_true rfl) rfl (by decide +kernel) rfl ?_
  refine g_goto (pc := 128) 86 dX4_open_128 (by decide) ?_
  refine g_iload (pc := 86) dX4_open_86 rfl ?_
  refine g_bipush (pc := 88) (v := 24) dX4_open_88 (by decide +kernel) ?_
  refine g_icmp_ge (pc := 90) 131 dX4_open_90 (by decide) (by decide) (by decide) (fun h => absurd h (by decide)) (fun _ => ?_)
  refine g_aload_n (pc := 93) dX4_open_93 rfl ?_
  refine fg_X4_open_18 (pc := 94) dX4_open_94 ?_
  refine g_iload (pc := 97) dX4_open_97 rfl ?_
  refine g_aastation (pc := 99) (a := 21) (by decide) dX4_open_99 ?_
  refine g_callVv (pc := 100) (Y' := mX3_clear) (As := []) (st := []) (k := 3) (i := 21) (qc33 K.2.1) gX4_open_X3_clear rfl (show 21 < 24 by omega) rfl rfl (na := 0) rfl (by decide +kernel) (by decide) (by decide) (Nat.le_of_ble_eq_true rfl) dX4_open_100 (fun g1 hp => ?_)
  obtain ⟨-, rfl⟩ := hp
  refine g_aload_n (pc := 103) dX4_open_103 rfl ?_
  refine fg_X4_open_36 (pc := 104) dX4_open_104 ?_
  refine g_iload (pc := 107) dX4_open_107 rfl ?_
  refine g_aarow (pc := 109) (k := 19) (r := 21) (a := 21) (show 0 < 1 by omega) rfl (by decide) dX4_open_109 ?_
  refine g_iconst (pc := 110) (v := 0) dX4_open_110 (by decide +kernel) ?_
  refine g_callSv (pc := 111) (Y' := mJ7_fill_53178) (As := [rv Z 21 21, iv 0]) (st := []) (c_fill K.2.1 (k := 21) (i := 21) (n := 24) (v := 0) (show 21 < 24 by omega) (fun _ => rfl) (by decide)) gX4_open_J7_fill_53178 rfl (na := 2) rfl (by decide +kernel) (by decide) (by decide) (Nat.le_of_ble_eq_true rfl) dX4_open_111 (fun g1 hp => ?_)
  obtain ⟨-, rfl⟩ := hp
  refine g_aload_n (pc := 114) dX4_open_114 rfl ?_
  refine fg_X4_open_39 (pc := 115) dX4_open_115 ?_
  refine g_iload (pc := 118) dX4_open_118 rfl ?_
  refine g_aarow (pc := 120) (k := 20) (r := 22) (a := 21) (show 0 < 1 by omega) rfl (by decide) dX4_open_120 ?_
  refine g_iconst (pc := 121) (v := 0) dX4_open_121 (by decide +kernel) ?_
  refine g_callSv (pc := 122) (Y' := mJ7_fill_53178) (As := [rv Z 22 21, iv 0]) (st := []) (c_fill K.2.1 (k := 22) (i := 21) (n := 24) (v := 0) (show 21 < 24 by omega) (fun _ => rfl) (by decide)) gX4_open_J7_fill_53178 rfl (na := 2) rfl (by decide +kernel) (by decide) (by decide) (Nat.le_of_ble_eq_true rfl) dX4_open_122 (fun g1 hp => ?_)
  obtain ⟨-, rfl⟩ := hp
  refine g_iinc (pc := 125) (v := 22) (ls' := [rv Z 4 0, iv 0, iv 0, iv 1, iv 22]) dX4_open_125 (Nat.le_of_ble_eq_true rfl) rfl (by decide +kernel) rfl ?_
  refine g_goto (pc := 128) 86 dX4_open_128 (by decide) ?_
  refine g_iload (pc := 86) dX4_open_86 rfl ?_
  refine g_bipush (pc := 88) (v := 24) dX4_open_88 (by decide +kernel) ?_
  refine g_icmp_ge (pc := 90) 131 dX4_open_90 (by decide) (by decide) (by decide) (fun h => absurd h (by decide)) (fun _ => ?_)
  refine g_aload_n (pc := 93) dX4_open_93 rfl ?_
  refine fg_X4_open_18 (pc := 94) dX4_open_94 ?_
  refine g_iload (pc := 97) dX4_open_97 rfl ?_
  refine g_aastation (pc := 99) (a := 22) (by decide) dX4_open_99 ?_
  refine g_callVv (pc := 100) (Y' := mX3_clear) (As := []) (st := []) (k := 3) (i := 22) (qc34 K.2.1) gX4_open_X3_clear rfl (show 22 < 24 by omega) rfl rfl (na := 0) rfl (by decide +kernel) (by decide) (by decide) (Nat.le_of_ble_eq_true rfl) dX4_open_100 (fun g1 hp => ?_)
  obtain ⟨-, rfl⟩ := hp
  refine g_aload_n (pc := 103) dX4_open_103 rfl ?_
  refine fg_X4_open_36 (pc := 104) dX4_open_104 ?_
  refine g_iload (pc := 107) dX4_open_107 rfl ?_
  refine g_aarow (pc := 109) (k := 19) (r := 21) (a := 22) (show 0 < 1 by omega) rfl (by decide) dX4_open_109 ?_
  refine g_iconst (pc := 110) (v := 0) dX4_open_110 (by decide +kernel) ?_
  refine g_callSv (pc := 111) (Y' := mJ7_fill_53178) (As := [rv Z 21 22, iv 0]) (st := []) (c_fill K.2.1 (k := 21) (i := 22) (n := 24) (v := 0) (show 22 < 24 by omega) (fun _ => rfl) (by decide)) gX4_open_J7_fill_53178 rfl (na := 2) rfl (by decide +kernel) (by decide) (by decide) (Nat.le_of_ble_eq_true rfl) dX4_open_111 (fun g1 hp => ?_)
  obtain ⟨-, rfl⟩ := hp
  refine g_aload_n (pc := 114) dX4_open_114 rfl ?_
  refine fg_X4_open_39 (pc := 115) dX4_open_115 ?_
  refine g_iload (pc := 118) dX4_open_118 rfl ?_
  refine g_aarow (pc := 120) (k := 20) (r := 22) (a := 22) (show 0 < 1 by omega) rfl (by decide) dX4_open_120 ?_
  refine g_iconst (pc := 121) (v := 0) dX4_open_121 (by decide +kernel) ?_
  refine g_callSv (pc := 122) (Y' := mJ7_fill_53178) (As := [rv Z 22 22, iv 0]) (st := []) (c_fill K.2.1 (k := 22) (i := 22) (n := 24) (v := 0) (show 22 < 24 by omega) (fun _ => rfl) (by decide)) gX4_open_J7_fill_53178 rfl (na := 2) rfl (by decide +kernel) (by decide) (by decide) (Nat.le_of_ble_eq_true rfl) dX4_open_122 (fun g1 hp => ?_)
  obtain ⟨-, rfl⟩ := hp
  refine g_iinc (pc := 125) (v := 23) (ls' := [rv Z 4 0, iv 0, iv 0, iv 1, iv 23]) dX4_open_125 (Nat.le_of_ble_eq_true rfl) rfl (by decide +kernel) rfl ?_
  refine g_goto (pc := 128) 86 dX4_open_128 (by decide) ?_
  refine g_iload (pc := 86) dX4_open_86 rfl ?_
  refine g_bipush (pc := 88) (v := 24) dX4_open_88 (by decide +kernel) ?_
  refine g_icmp_ge (pc := 90) 131 dX4_open_90 (by decide) (by decide) (by decide) (fun h => absurd h (by decide)) (fun _ => ?_)
  refine g_aload_n (pc := 93) dX4_open_93 rfl ?_
  refine fg_X4_open_18 (pc := 94) dX4_open_94 ?_
  refine g_iload (pc := 97) dX4_open_97 rfl ?_
  refine g_aastation (pc := 99) (a := 23) (by decide) dX4_open_99 ?_
  refine g_callVv (pc := 100) (Y' := mX3_clear) (As := []) (st := []) (k := 3) (i := 23) (qc35 K.2.1) gX4_open_X3_clear rfl (show 23 < 24 by omega) rfl rfl (na := 0) rfl (by decide +kernel) (by decide) (by decide) (Nat.le_of_ble_eq_true rfl) dX4_open_100 (fun g1 hp => ?_)
  obtain ⟨-, rfl⟩ := hp
  refine g_aload_n (pc := 103) dX4_open_103 rfl ?_
  refine fg_X4_open_36 (pc := 104) dX4_open_104 ?_
  refine g_iload (pc := 107) dX4_open_107 rfl ?_
  refine g_aarow (pc := 109) (k := 19) (r := 21) (a := 23) (show 0 < 1 by omega) rfl (by decide) dX4_open_109 ?_
  refine g_iconst (pc := 110) (v := 0) dX4_open_110 (by decide +kernel) ?_
  refine g_callSv (pc := 111) (Y' := mJ7_fill_53178) (As := [rv Z 21 23, iv 0]) (st := []) (c_fill K.2.1 (k := 21) (i := 23) (n := 24) (v := 0) (show 23 < 24 by omega) (fun _ => rfl) (by decide)) gX4_open_J7_fill_53178 rfl (na := 2) rfl (by decide +kernel) (by decide) (by decide) (Nat.le_of_ble_eq_true rfl) dX4_open_111 (fun g1 hp => ?_)
  obtain ⟨-, rfl⟩ := hp
  refine g_aload_n (pc := 114) dX4_open_114 rfl ?_
  refine fg_X4_open_39 (pc := 115) dX4_open_115 ?_
  refine g_iload (pc := 118) dX4_open_118 rfl ?_
  refine g_aarow (pc := 120) (k := 20) (r := 22) (a := 23) (show 0 < 1 by omega) rfl (by decide) dX4_open_120 ?_
  refine g_iconst (pc := 121) (v := 0) dX4_open_121 (by decide +kernel) ?_
  refine g_callSv (pc := 122) (Y' := mJ7_fill_53178) (As := [rv Z 22 23, iv 0]) (st := []) (c_fill K.2.1 (k := 22) (i := 23) (n := 24) (v := 0) (show 23 < 24 by omega) (fun _ => rfl) (by decide)) gX4_open_J7_fill_53178 rfl (na := 2) rfl (by decide +kernel) (by decide) (by decide) (Nat.le_of_ble_eq_true rfl) dX4_open_122 (fun g1 hp => ?_)
  obtain ⟨-, rfl⟩ := hp
  refine g_iinc (pc := 125) (v := 24) (ls' := [rv Z 4 0, iv 0, iv 0, iv 1, iv 24]) dX4_open_125 (Nat.le_of_ble_eq_true rfl) rfl (by decide +kernel) rfl ?_
  refine g_goto (pc := 128) 86 dX4_open_128 (by decide) ?_
  refine g_iload (pc := 86) dX4_open_86 rfl ?_
  refine g_bipush (pc := 88) (v := 24) dX4_open_88 (by decide +kernel) ?_
  refine g_icmp_ge (pc := 90) 131 dX4_open_90 (by decide) (by decide) (by decide) (fun _ => ?_) (fun h => absurd (by decide) h)
  refine g_aload_n (pc := 131) dX4_open_131 rfl ?_
  refine g_iload_n (pc := 132) dX4_open_132 rfl ?_
  refine g_callVv (pc := 133) (Y' := mX4_pointAllTo) (As := [iv 0]) (st := []) (k := 4) (i := 0) (qc51 K.2.1) gX4_open_X4_pointAllTo rfl (show 0 < 1 by omega) rfl rfl (na := 1) rfl (by decide +kernel) (by decide) (by decide) (Nat.le_of_ble_eq_true rfl) dX4_open_133 (fun g1 hp => ?_)
  obtain ⟨-, rfl⟩ := hp
  refine g_aload_n (pc := 136) dX4_open_136 rfl ?_
  refine g_iconst (pc := 137) (v := 1) dX4_open_137 (by decide +kernel) ?_
  refine fp_X4_open_55 (pc := 138) (by decide) dX4_open_138 ?_
  refine g_iconst (pc := 141) (v := 0) dX4_open_141 (by decide +kernel) ?_
  exact g_iret (pc := 142) dX4_open_142 ⟨mg_narI _, Or.inl rfl⟩ ⟨rfl, rfl⟩
