set_option maxRecDepth 100000 in
/-- X4_want(r4.0, 1, b[0,100]) at qms6 -/
theorem qa59 (l : Launch) {D : va_G} {E : mg_E} {B : Nat} (b : Nat) (h_b : 0 ≤ b) (k_b : b ≤ 100) : mg_C l (D, E, true, B) mX4_want [rv (D, E, true, B) 4 0, iv 1, iv b] qms6 (fun v g' => v = some 1 ∧ g' = (qas25 b)) := by
  refine mg_C.of (by decide) rfl (Nat.le_of_ble_eq_true rfl) (List.forall_mem_cons.mpr ⟨rfl, (List.forall_mem_cons.mpr ⟨rfl, (List.forall_mem_cons.mpr ⟨rfl, (fun _ h => nomatch h)⟩)⟩)⟩) (fun K => ?_)
  refine g_aload_n (pc := 0) dX4_want_0 rfl ?_
  refine g_iload_n (pc := 1) dX4_want_1 rfl ?_
  refine g_callVi (pc := 2) (Y' := mX4_isUp) (As := [iv 1]) (st := []) (k := 4) (i := 0) (qa51 K.2.1) gX4_want_X4_isUp rfl (show 0 < 1 by omega) rfl rfl (na := 1) rfl (by decide +kernel) (by decide) (by decide) (Nat.le_of_ble_eq_true rfl) dX4_want_2 (fun r1 g1 hp => ?_)
  obtain ⟨h1, rfl⟩ := hp
  cases h1
  refine g_if_eq (pc := 5) 18 dX4_want_5 (by decide) (by decide) (fun h => absurd h (by decide)) (fun _ => ?_)
  refine g_iload_n (pc := 8) dX4_want_8 rfl ?_
  refine g_sif_lt (pc := 9) 18 dX4_want_9 (by decide) (by omega) (fun h => absurd h (by have q := mg_sgs (a := b) (by omega); omega)) (fun _ => ?_)
  refine g_iload_n (pc := 12) dX4_want_12 rfl ?_
  refine g_bipush (pc := 13) (v := 100) dX4_want_13 (by decide +kernel) ?_
  refine g_icmp_le (pc := 15) 20 dX4_want_15 (by decide) (by omega) (by decide) (fun _ => ?_) (fun h => absurd (by omega) h)
  refine g_aload_n (pc := 20) dX4_want_20 rfl ?_
  refine fg_X4_want_18 (pc := 21) dX4_want_21 ?_
  refine g_iload_n (pc := 24) dX4_want_24 rfl ?_
  refine g_aastation (pc := 25) (a := 1) (by decide) dX4_want_25 ?_
  refine g_astore_n (pc := 26) (ls' := [rv (D, E, true, B) 4 0, iv 1, iv b, rv (D, E, true, B) 3 1]) dX4_want_26 (Nat.le_of_ble_eq_true rfl) (Nat.le_of_ble_eq_true rfl) rfl ?_
  refine g_aload_n (pc := 27) dX4_want_27 rfl ?_
  refine fg_X4_want_111 (pc := 28) (show 1 < 24 by omega) dX4_want_28 ?_
  refine g_top (b := 0) (by decide +kernel) ?_
  refine g_if_ne (pc := 31) 41 dX4_want_31 (by decide) (by decide) (fun h => absurd (by decide) h) (fun _ => ?_)
  refine g_aload_n (pc := 34) dX4_want_34 rfl ?_
  refine g_callVi (pc := 35) (Y' := mX3_wants) (As := []) (st := []) (k := 3) (i := 1) (qa57 K.2.1) gX4_want_X3_wants rfl (show 1 < 24 by omega) rfl rfl (na := 0) rfl (by decide +kernel) (by decide) (by decide) (Nat.le_of_ble_eq_true rfl) dX4_want_35 (fun r1 g1 hp => ?_)
  obtain ⟨h1, rfl⟩ := hp
  cases h1
  refine g_if_eq (pc := 38) 43 dX4_want_38 (by decide) (by decide) (fun _ => ?_) (fun h => absurd (by decide) h)
  refine g_aload_n (pc := 43) dX4_want_43 rfl ?_
  refine fg_X4_want_118 (pc := 44) (show 1 < 24 by omega) dX4_want_44 ?_
  refine g_iload_n (pc := 47) dX4_want_47 rfl ?_
  refine g_iload_n (pc := 48) dX4_want_48 rfl ?_
  refine g_callVv (pc := 49) (Y' := mX2_add) (As := [iv 1, iv b]) (st := []) (k := 2) (i := 1) (qa58 K.2.1 b h_b k_b) gX4_want_X2_add rfl (show 1 < 24 by omega) rfl rfl (na := 2) rfl (by decide +kernel) (by decide) (by decide) (Nat.le_of_ble_eq_true rfl) dX4_want_49 (fun g1 hp => ?_)
  obtain ⟨-, rfl⟩ := hp
  refine g_aload_n (pc := 52) dX4_want_52 rfl ?_
  refine g_iconst (pc := 53) (v := 1) dX4_want_53 (by decide +kernel) ?_
  refine fp_X4_want_127 (pc := 54) (show 1 < 24 by omega) (by decide) dX4_want_54 ?_
  refine g_aload_n (pc := 57) dX4_want_57 rfl ?_
  refine g_iconst (pc := 58) (v := 0) dX4_want_58 (by decide +kernel) ?_
  refine fp_X4_want_130 (pc := 59) (show 1 < 24 by omega) dX4_want_59 ?_
  refine g_aload_n (pc := 62) dX4_want_62 rfl ?_
  refine fg_X4_want_118 (pc := 63) (show 1 < 24 by omega) dX4_want_63 ?_
  refine fg_X4_want_133 (pc := 66) (show 1 < 24 by omega) dX4_want_66 ?_
  refine g_top (b := 1) rfl ?_
  exact g_iret (pc := 69) dX4_want_69 ⟨mg_narI _, Or.inl rfl⟩ ⟨rfl, rfl⟩
def qas26 (b : Nat) : mg_F := (qas25 b)
def qas27 (b : Nat) : mg_F := (qas26 b)
def qas28 (b : Nat) : mg_F := (qas27 b)
set_option maxRecDepth 100000 in
/-- X5_isStation(r5.0, 1) at (qas27 b) -/
theorem qa60 (l : Launch) {D : va_G} {E : mg_E} {B : Nat} (b : Nat) (h_b : 0 ≤ b) (k_b : b ≤ 100) : mg_C l (D, E, true, B) mX5_isStation [rv (D, E, true, B) 5 0, iv 1] (qas27 b) (fun v g' => v = some 1 ∧ g' = (qas28 b)) := by
  refine mg_C.of (by decide) rfl (Nat.le_of_ble_eq_true rfl) (List.forall_mem_cons.mpr ⟨rfl, (List.forall_mem_cons.mpr ⟨rfl, (fun _ h => nomatch h)⟩)⟩) (fun K => ?_)
  refine g_iload_n (pc := 0) dX5_isStation_0 rfl ?_
  refine g_sif_lt (pc := 1) 16 dX5_isStation_1 (by decide) (by decide) (fun h => absurd h (by decide)) (fun _ => ?_)
  refine g_iload_n (pc := 4) dX5_isStation_4 rfl ?_
  refine g_aload_n (pc := 5) dX5_isStation_5 rfl ?_
  refine fg_X5_isStation_101 (pc := 6) (by rfl) dX5_isStation_6 ?_
  refine g_top (b := 2) rfl ?_
  refine g_icmp_ge (pc := 9) 16 dX5_isStation_9 (by decide) (by decide) (by decide) (fun h => absurd h (by decide)) (fun _ => ?_)
  refine g_iconst (pc := 12) (v := 1) dX5_isStation_12 (by decide +kernel) ?_
  refine g_goto (pc := 13) 17 dX5_isStation_13 (by decide) ?_
  exact g_iret (pc := 17) dX5_isStation_17 ⟨mg_narZ (by decide), Or.inr rfl⟩ ⟨rfl, rfl⟩
def qas29 (b : Nat) : mg_F := (qas28 b)
set_option maxRecDepth 100000 in
/-- X5_isUp(r5.0, 1) at (qas26 b) -/
theorem qa61 (l : Launch) {D : va_G} {E : mg_E} {B : Nat} (b : Nat) (h_b : 0 ≤ b) (k_b : b ≤ 100) : mg_C l (D, E, true, B) mX5_isUp [rv (D, E, true, B) 5 0, iv 1] (qas26 b) (fun v g' => v = some 1 ∧ g' = (qas29 b)) := by
  refine mg_C.of (by decide) rfl (Nat.le_of_ble_eq_true rfl) (List.forall_mem_cons.mpr ⟨rfl, (List.forall_mem_cons.mpr ⟨rfl, (fun _ h => nomatch h)⟩)⟩) (fun K => ?_)
  refine g_aload_n (pc := 0) dX5_isUp_0 rfl ?_
  refine fg_X5_isUp_105 (pc := 1) (by rfl) dX5_isUp_1 ?_
  refine g_top (b := 1) rfl ?_
  refine g_if_eq (pc := 4) 28 dX5_isUp_4 (by decide) (by decide) (fun h => absurd h (by decide)) (fun _ => ?_)
  refine g_aload_n (pc := 7) dX5_isUp_7 rfl ?_
  refine g_iload_n (pc := 8) dX5_isUp_8 rfl ?_
  refine g_callVi (pc := 9) (Y' := mX5_isStation) (As := [iv 1]) (st := []) (k := 5) (i := 0) (qa60 K.2.1 b h_b k_b) gX5_isUp_X5_isStation rfl (show 0 < 1 by omega) rfl rfl (na := 1) rfl (by decide +kernel) (by decide) (by decide) (Nat.le_of_ble_eq_true rfl) dX5_isUp_9 (fun r1 g1 hp => ?_)
  obtain ⟨h1, rfl⟩ := hp
  cases h1
  refine g_if_eq (pc := 12) 28 dX5_isUp_12 (by decide) (by decide) (fun h => absurd h (by decide)) (fun _ => ?_)
  refine g_aload_n (pc := 15) dX5_isUp_15 rfl ?_
  refine fg_X5_isUp_23 (pc := 16) (by rfl) dX5_isUp_16 ?_
  refine g_iload_n (pc := 19) dX5_isUp_19 rfl ?_
  refine g_baload (pc := 20) (k := 39) (i := 0) (n := 24) (show 0 < 1 by omega) rfl (by decide) (by decide) dX5_isUp_20 ?_
  refine g_top (b := 0) rfl ?_
  refine g_if_ne (pc := 21) 28 dX5_isUp_21 (by decide) (by decide) (fun h => absurd (by decide) h) (fun _ => ?_)
  refine g_iconst (pc := 24) (v := 1) dX5_isUp_24 (by decide +kernel) ?_
  refine g_goto (pc := 25) 29 dX5_isUp_25 (by decide) ?_
  exact g_iret (pc := 29) dX5_isUp_29 ⟨mg_narZ (by decide), Or.inr rfl⟩ ⟨rfl, rfl⟩
def qas30 (b : Nat) : mg_F := (qas29 b)
def qas31 (b : Nat) : mg_F := (qas30 b)
set_option maxRecDepth 100000 in
/-- X5_placeOf(r5.0, 1, 1) at (qas30 b) -/
theorem qa62 (l : Launch) {D : va_G} {E : mg_E} {B : Nat} (b : Nat) (h_b : 0 ≤ b) (k_b : b ≤ 100) : mg_C l (D, E, true, B) mX5_placeOf [rv (D, E, true, B) 5 0, iv 1, iv 1] (qas30 b) (fun v g' => v = some 4294967295 ∧ g' = (qas31 b)) := by
  refine mg_C.of (by decide) rfl (Nat.le_of_ble_eq_true rfl) (List.forall_mem_cons.mpr ⟨rfl, (List.forall_mem_cons.mpr ⟨rfl, (List.forall_mem_cons.mpr ⟨rfl, (fun _ h => nomatch h)⟩)⟩)⟩) (fun K => ?_)
  refine g_iconst (pc := 0) (v := 4294967295) dX5_placeOf_0 (by decide +kernel) ?_
  refine g_istore_n (pc := 1) (ls' := [rv (D, E, true, B) 5 0, iv 1, iv 1, iv 4294967295]) dX5_placeOf_1 (Nat.le_of_ble_eq_true rfl) (Nat.le_of_ble_eq_true rfl) rfl ?_
  refine g_iconst (pc := 2) (v := 0) dX5_placeOf_2 (by decide +kernel) ?_
  refine g_istore (pc := 3) (ls' := [rv (D, E, true, B) 5 0, iv 1, iv 1, iv 4294967295, iv 0]) dX5_placeOf_3 (Nat.le_of_ble_eq_true rfl) (Nat.le_of_ble_eq_true rfl) rfl ?_
  refine g_iload (pc := 5) dX5_placeOf_5 rfl ?_
  refine g_aload_n (pc := 7) dX5_placeOf_7 rfl ?_
  refine fg_X5_placeOf_41 (pc := 8) (by rfl) dX5_placeOf_8 ?_
  refine g_iload_n (pc := 11) dX5_placeOf_11 rfl ?_
  refine g_iaload (pc := 12) (k := 46) (i := 0) (n := 24) (show 0 < 1 by omega) rfl (by decide) (by decide) dX5_placeOf_12 ?_
  refine g_top (b := 0) rfl ?_
  refine g_icmp_ge (pc := 13) 45 dX5_placeOf_13 (by decide) (by decide) (by decide) (fun _ => ?_) (fun h => absurd (by decide) h)
  refine g_iload_n (pc := 45) dX5_placeOf_45 rfl ?_
  exact g_iret (pc := 46) dX5_placeOf_46 ⟨mg_narI _, Or.inl rfl⟩ ⟨rfl, rfl⟩
def qas32 (b : Nat) : mg_F := (qas31 b)
def qas33 (b : Nat) : mg_F := (qas32 b)
def qas34 (b : Nat) : mg_F := (qas33 b)
set_option maxRecDepth 100000 in
/-- X5_placeOf(r5.0, 1, 1) at (qas33 b) -/
theorem qa63 (l : Launch) {D : va_G} {E : mg_E} {B : Nat} (b : Nat) (h_b : 0 ≤ b) (k_b : b ≤ 100) : mg_C l (D, E, true, B) mX5_placeOf [rv (D, E, true, B) 5 0, iv 1, iv 1] (qas33 b) (fun v g' => v = some 4294967295 ∧ g' = (qas34 b)) := by
  refine mg_C.of (by decide) rfl (Nat.le_of_ble_eq_true rfl) (List.forall_mem_cons.mpr ⟨rfl, (List.forall_mem_cons.mpr ⟨rfl, (List.forall_mem_cons.mpr ⟨rfl, (fun _ h => nomatch h)⟩)⟩)⟩) (fun K => ?_)
  refine g_iconst (pc := 0) (v := 4294967295) dX5_placeOf_0 (by decide +kernel) ?_
  refine g_istore_n (pc := 1) (ls' := [rv (D, E, true, B) 5 0, iv 1, iv 1, iv 4294967295]) dX5_placeOf_1 (Nat.le_of_ble_eq_true rfl) (Nat.le_of_ble_eq_true rfl) rfl ?_
  refine g_iconst (pc := 2) (v := 0) dX5_placeOf_2 (by decide +kernel) ?_
  refine g_istore (pc := 3) (ls' := [rv (D, E, true, B) 5 0, iv 1, iv 1, iv 4294967295, iv 0]) dX5_placeOf_3 (Nat.le_of_ble_eq_true rfl) (Nat.le_of_ble_eq_true rfl) rfl ?_
  refine g_iload (pc := 5) dX5_placeOf_5 rfl ?_
  refine g_aload_n (pc := 7) dX5_placeOf_7 rfl ?_
  refine fg_X5_placeOf_41 (pc := 8) (by rfl) dX5_placeOf_8 ?_
  refine g_iload_n (pc := 11) dX5_placeOf_11 rfl ?_
  refine g_iaload (pc := 12) (k := 46) (i := 0) (n := 24) (show 0 < 1 by omega) rfl (by decide) (by decide) dX5_placeOf_12 ?_
  refine g_top (b := 0) rfl ?_
  refine g_icmp_ge (pc := 13) 45 dX5_placeOf_13 (by decide) (by decide) (by decide) (fun _ => ?_) (fun h => absurd (by decide) h)
  refine g_iload_n (pc := 45) dX5_placeOf_45 rfl ?_
  exact g_iret (pc := 46) dX5_placeOf_46 ⟨mg_narI _, Or.inl rfl⟩ ⟨rfl, rfl⟩
def qas35 (b : Nat) : mg_F := (qas34 b)
def qas36 (b : Nat) : mg_F := (qas35 b)
/-- X5_entry(r5.0, 1, 0) at (qas35 b) -/
theorem qa64 (l : Launch) {D : va_G} {E : mg_E} {B : Nat} (b : Nat) (h_b : 0 ≤ b) (k_b : b ≤ 100) : mg_C l (D, E, true, B) mX5_entry [rv (D, E, true, B) 5 0, iv 1, iv 0] (qas35 b) (fun v g' => v = some 24 ∧ g' = (qas36 b)) := by
  refine mg_C.of (by decide) rfl (Nat.le_of_ble_eq_true rfl) (List.forall_mem_cons.mpr ⟨rfl, (List.forall_mem_cons.mpr ⟨rfl, (List.forall_mem_cons.mpr ⟨rfl, (fun _ h => nomatch h)⟩)⟩)⟩) (fun K => ?_)
  refine g_bipush (pc := 0) (v := 24) dX5_entry_0 (by decide +kernel) ?_
  refine g_iload_n (pc := 2) dX5_entry_2 rfl ?_
  refine g_imul (pc := 3) dX5_entry_3 ?_
  refine g_top (b := 24) (by decide +kernel) ?_
  refine g_iload_n (pc := 4) dX5_entry_4 rfl ?_
  refine g_iadd (pc := 5) dX5_entry_5 ?_
  refine g_top (b := 24) (by decide +kernel) ?_
  exact g_iret (pc := 6) dX5_entry_6 ⟨mg_narI _, Or.inl rfl⟩ ⟨rfl, rfl⟩
def qas37 (b : Nat) : mg_F := mg_up ((qas36 b)) 47 0 24 1
def qas38 (b : Nat) : mg_F := (qas37 b)
/-- X5_entry(r5.0, 1, 0) at (qas37 b) -/
theorem qa65 (l : Launch) {D : va_G} {E : mg_E} {B : Nat} (b : Nat) (h_b : 0 ≤ b) (k_b : b ≤ 100) : mg_C l (D, E, true, B) mX5_entry [rv (D, E, true, B) 5 0, iv 1, iv 0] (qas37 b) (fun v g' => v = some 24 ∧ g' = (qas38 b)) := by
  refine mg_C.of (by decide) rfl (Nat.le_of_ble_eq_true rfl) (List.forall_mem_cons.mpr ⟨rfl, (List.forall_mem_cons.mpr ⟨rfl, (List.forall_mem_cons.mpr ⟨rfl, (fun _ h => nomatch h)⟩)⟩)⟩) (fun K => ?_)
  refine g_bipush (pc := 0) (v := 24) dX5_entry_0 (by decide +kernel) ?_
  refine g_iload_n (pc := 2) dX5_entry_2 rfl ?_
  refine g_imul (pc := 3) dX5_entry_3 ?_
  refine g_top (b := 24) (by decide +kernel) ?_
  refine g_iload_n (pc := 4) dX5_entry_4 rfl ?_
  refine g_iadd (pc := 5) dX5_entry_5 ?_
  refine g_top (b := 24) (by decide +kernel) ?_
  exact g_iret (pc := 6) dX5_entry_6 ⟨mg_narI _, Or.inl rfl⟩ ⟨rfl, rfl⟩
def qas39 (b : Nat) : mg_F := mg_up (mg_up ((qas38 b)) 48 0 24 b) 46 0 1 1
set_option maxRecDepth 100000 in
/-- X5_come(r5.0, 1, 1, b[0,100]) at (qas32 b) -/
theorem qa66 (l : Launch) {D : va_G} {E : mg_E} {B : Nat} (b : Nat) (h_b : 0 ≤ b) (k_b : b ≤ 100) : mg_C l (D, E, true, B) mX5_come [rv (D, E, true, B) 5 0, iv 1, iv 1, iv b] (qas32 b) (fun v g' => v = none ∧ g' = (qas39 b)) := by
  refine mg_C.of (by decide) rfl (Nat.le_of_ble_eq_true rfl) (List.forall_mem_cons.mpr ⟨rfl, (List.forall_mem_cons.mpr ⟨rfl, (List.forall_mem_cons.mpr ⟨rfl, (List.forall_mem_cons.mpr ⟨rfl, (fun _ h => nomatch h)⟩)⟩)⟩)⟩) (fun K => ?_)
  refine g_aload_n (pc := 0) dX5_come_0 rfl ?_
  refine g_iload_n (pc := 1) dX5_come_1 rfl ?_
  refine g_iload_n (pc := 2) dX5_come_2 rfl ?_
  refine g_callVi (pc := 3) (Y' := mX5_placeOf) (As := [iv 1, iv 1]) (st := []) (k := 5) (i := 0) (qa63 K.2.1 b h_b k_b) gX5_come_X5_placeOf rfl (show 0 < 1 by omega) rfl rfl (na := 2) rfl (by decide +kernel) (by decide) (by decide) (Nat.le_of_ble_eq_true rfl) dX5_come_3 (fun r1 g1 hp => ?_)
  obtain ⟨h1, rfl⟩ := hp
  cases h1
  refine g_istore (pc := 6) (ls' := [rv (D, E, true, B) 5 0, iv 1, iv 1, iv b, iv 4294967295]) dX5_come_6 (Nat.le_of_ble_eq_true rfl) (Nat.le_of_ble_eq_true rfl) rfl ?_
  refine g_iload (pc := 8) dX5_come_8 rfl ?_
  refine g_sif_ge (pc := 10) 60 dX5_come_10 (by decide) (by decide) (fun h => absurd h (by decide)) (fun _ => ?_)
  refine g_aload_n (pc := 13) dX5_come_13 rfl ?_
  refine fg_X5_come_41 (pc := 14) (by rfl) dX5_come_14 ?_
  refine g_iload_n (pc := 17) dX5_come_17 rfl ?_
  refine g_iaload (pc := 18) (k := 46) (i := 0) (n := 24) (show 0 < 1 by omega) rfl (by decide) (by decide) dX5_come_18 ?_
  refine g_top (b := 0) rfl ?_
  refine g_istore (pc := 19) (ls' := [rv (D, E, true, B) 5 0, iv 1, iv 1, iv b, iv 0]) dX5_come_19 (Nat.le_of_ble_eq_true rfl) (Nat.le_of_ble_eq_true rfl) rfl ?_
  refine g_aload_n (pc := 21) dX5_come_21 rfl ?_
  refine fg_X5_come_44 (pc := 22) (by rfl) dX5_come_22 ?_
  refine g_aload_n (pc := 25) dX5_come_25 rfl ?_
  refine g_iload_n (pc := 26) dX5_come_26 rfl ?_
  refine g_iload (pc := 27) dX5_come_27 rfl ?_
  refine g_callVi (pc := 29) (Y' := mX5_entry) (As := [iv 1, iv 0]) (st := [rv (D, E, true, B) 47 0]) (k := 5) (i := 0) (qa64 K.2.1 b h_b k_b) gX5_come_X5_entry rfl (show 0 < 1 by omega) rfl rfl (na := 2) rfl (by decide +kernel) (by decide) (by decide) (Nat.le_of_ble_eq_true rfl) dX5_come_29 (fun r1 g1 hp => ?_)
  obtain ⟨h1, rfl⟩ := hp
  cases h1
  refine g_iload_n (pc := 32) dX5_come_32 rfl ?_
  refine g_iastore (pc := 33) (k := 47) (i := 0) (n := 576) (show 0 < 1 by omega) (fun _ => rfl) (by decide) (by decide) dX5_come_33 ?_
  refine g_aload_n (pc := 34) dX5_come_34 rfl ?_
  refine fg_X5_come_47 (pc := 35) (by rfl) dX5_come_35 ?_
  refine g_aload_n (pc := 38) dX5_come_38 rfl ?_
  refine g_iload_n (pc := 39) dX5_come_39 rfl ?_
  refine g_iload (pc := 40) dX5_come_40 rfl ?_
  refine g_callVi (pc := 42) (Y' := mX5_entry) (As := [iv 1, iv 0]) (st := [rv (D, E, true, B) 48 0]) (k := 5) (i := 0) (qa65 K.2.1 b h_b k_b) gX5_come_X5_entry rfl (show 0 < 1 by omega) rfl rfl (na := 2) rfl (by decide +kernel) (by decide) (by decide) (Nat.le_of_ble_eq_true rfl) dX5_come_42 (fun r1 g1 hp => ?_)
  obtain ⟨h1, rfl⟩ := hp
  cases h1
  refine g_iload_n (pc := 45) dX5_come_45 rfl ?_
  refine g_iastore (pc := 46) (k := 48) (i := 0) (n := 576) (show 0 < 1 by omega) (fun _ => rfl) (by decide) (by decide) dX5_come_46 ?_
  refine g_aload_n (pc := 47) dX5_come_47 rfl ?_
  refine fg_X5_come_41 (pc := 48) (by rfl) dX5_come_48 ?_
  refine g_iload_n (pc := 51) dX5_come_51 rfl ?_
  refine g_dup2 (pc := 52) dX5_come_52 rfl rfl ?_
  refine g_iaload (pc := 53) (k := 46) (i := 0) (n := 24) (show 0 < 1 by omega) rfl (by decide) (by decide) dX5_come_53 ?_
  refine g_top (b := 0) rfl ?_
  refine g_iconst (pc := 54) (v := 1) dX5_come_54 (by decide +kernel) ?_
  refine g_iadd (pc := 55) dX5_come_55 ?_
  refine g_top (b := 1) (by decide +kernel) ?_
  refine g_iastore (pc := 56) (k := 46) (i := 0) (n := 24) (show 0 < 1 by omega) (fun _ => rfl) (by decide) (by decide) dX5_come_56 ?_
  refine g_goto (pc := 57) 89 dX5_come_57 (by decide) ?_
  exact g_ret (pc := 89) dX5_come_89 trivial ⟨rfl, rfl⟩
def qas40 (b : Nat) : mg_F := mg_up ((qas39 b)) 43 0 1 0
set_option maxRecDepth 100000 in
/-- X5_want(r5.0, 1, b[0,100]) at (qas25 b) -/
theorem qa67 (l : Launch) {D : va_G} {E : mg_E} {B : Nat} (b : Nat) (h_b : 0 ≤ b) (k_b : b ≤ 100) : mg_C l (D, E, true, B) mX5_want [rv (D, E, true, B) 5 0, iv 1, iv b] (qas25 b) (fun v g' => v = some 1 ∧ g' = (qas40 b)) := by
  refine mg_C.of (by decide) rfl (Nat.le_of_ble_eq_true rfl) (List.forall_mem_cons.mpr ⟨rfl, (List.forall_mem_cons.mpr ⟨rfl, (List.forall_mem_cons.mpr ⟨rfl, (fun _ h => nomatch h)⟩)⟩)⟩) (fun K => ?_)
  refine g_aload_n (pc := 0) dX5_want_0 rfl ?_
  refine g_iload_n (pc := 1) dX5_want_1 rfl ?_
  refine g_callVi (pc := 2) (Y' := mX5_isUp) (As := [iv 1]) (st := []) (k := 5) (i := 0) (qa61 K.2.1 b h_b k_b) gX5_want_X5_isUp rfl (show 0 < 1 by omega) rfl rfl (na := 1) rfl (by decide +kernel) (by decide) (by decide) (Nat.le_of_ble_eq_true rfl) dX5_want_2 (fun r1 g1 hp => ?_)
  obtain ⟨h1, rfl⟩ := hp
  cases h1
  refine g_if_eq (pc := 5) 36 dX5_want_5 (by decide) (by decide) (fun h => absurd h (by decide)) (fun _ => ?_)
  refine g_iload_n (pc := 8) dX5_want_8 rfl ?_
  refine g_sif_lt (pc := 9) 36 dX5_want_9 (by decide) (by omega) (fun h => absurd h (by have q := mg_sgs (a := b) (by omega); omega)) (fun _ => ?_)
  refine g_iload_n (pc := 12) dX5_want_12 rfl ?_
  refine g_bipush (pc := 13) (v := 100) dX5_want_13 (by decide +kernel) ?_
  refine g_icmp_gt (pc := 15) 36 dX5_want_15 (by decide) (by omega) (by decide) (fun h => absurd h (by omega)) (fun _ => ?_)
  refine g_aload_n (pc := 18) dX5_want_18 rfl ?_
  refine fg_X5_want_20 (pc := 19) (by rfl) dX5_want_19 ?_
  refine g_iload_n (pc := 22) dX5_want_22 rfl ?_
  refine g_baload (pc := 23) (k := 38) (i := 0) (n := 24) (show 0 < 1 by omega) rfl (by decide) (by decide) dX5_want_23 ?_
  refine g_top (b := 0) rfl ?_
  refine g_if_ne (pc := 24) 36 dX5_want_24 (by decide) (by decide) (fun h => absurd (by decide) h) (fun _ => ?_)
  refine g_aload_n (pc := 27) dX5_want_27 rfl ?_
  refine g_iload_n (pc := 28) dX5_want_28 rfl ?_
  refine g_iload_n (pc := 29) dX5_want_29 rfl ?_
  refine g_callVi (pc := 30) (Y' := mX5_placeOf) (As := [iv 1, iv 1]) (st := []) (k := 5) (i := 0) (qa62 K.2.1 b h_b k_b) gX5_want_X5_placeOf rfl (show 0 < 1 by omega) rfl rfl (na := 2) rfl (by decide +kernel) (by decide) (by decide) (Nat.le_of_ble_eq_true rfl) dX5_want_30 (fun r1 g1 hp => ?_)
  obtain ⟨h1, rfl⟩ := hp
  cases h1
  refine g_sif_lt (pc := 33) 38 dX5_want_33 (by decide) (by decide) (fun _ => ?_) (fun h => absurd (by decide) h)
  refine g_aload_n (pc := 38) dX5_want_38 rfl ?_
  refine g_iload_n (pc := 39) dX5_want_39 rfl ?_
  refine g_iload_n (pc := 40) dX5_want_40 rfl ?_
  refine g_iload_n (pc := 41) dX5_want_41 rfl ?_
  refine g_callVv (pc := 42) (Y' := mX5_come) (As := [iv 1, iv 1, iv b]) (st := []) (k := 5) (i := 0) (qa66 K.2.1 b h_b k_b) gX5_want_X5_come rfl (show 0 < 1 by omega) rfl rfl (na := 3) rfl (by decide +kernel) (by decide) (by decide) (Nat.le_of_ble_eq_true rfl) dX5_want_42 (fun g1 hp => ?_)
  obtain ⟨-, rfl⟩ := hp
  refine g_aload_n (pc := 45) dX5_want_45 rfl ?_
  refine fg_X5_want_35 (pc := 46) (by rfl) dX5_want_46 ?_
  refine g_iload_n (pc := 49) dX5_want_49 rfl ?_
  refine g_iconst (pc := 50) (v := 0) dX5_want_50 (by decide +kernel) ?_
  refine g_iastore (pc := 51) (k := 43) (i := 0) (n := 24) (show 0 < 1 by omega) (fun _ => rfl) (by decide) (by decide) dX5_want_51 ?_
  refine g_aload_n (pc := 52) dX5_want_52 rfl ?_
  refine fg_X5_want_41 (pc := 53) (by rfl) dX5_want_53 ?_
  refine g_iload_n (pc := 56) dX5_want_56 rfl ?_
  refine g_iaload (pc := 57) (k := 46) (i := 0) (n := 24) (show 0 < 1 by omega) rfl (by decide) (by decide) dX5_want_57 ?_
  refine g_top (b := 1) rfl ?_
  exact g_iret (pc := 58) dX5_want_58 ⟨mg_narI _, Or.inl rfl⟩ ⟨rfl, rfl⟩
/-- X4_want(r4.0, 1, b[101,2147483647]) at qms6 -/
theorem qa68 (l : Launch) {D : va_G} {E : mg_E} {B : Nat} (b : Nat) (h_b : 101 ≤ b) (k_b : b ≤ 2147483647) : mg_C l (D, E, true, B) mX4_want [rv (D, E, true, B) 4 0, iv 1, iv b] qms6 (fun v g' => v = some 4294967295 ∧ g' = qms6) := by
  refine mg_C.of (by decide) rfl (Nat.le_of_ble_eq_true rfl) (List.forall_mem_cons.mpr ⟨rfl, (List.forall_mem_cons.mpr ⟨rfl, (List.forall_mem_cons.mpr ⟨rfl, (fun _ h => nomatch h)⟩)⟩)⟩) (fun K => ?_)
  refine g_aload_n (pc := 0) dX4_want_0 rfl ?_
  refine g_iload_n (pc := 1) dX4_want_1 rfl ?_
  refine g_callVi (pc := 2) (Y' := mX4_isUp) (As := [iv 1]) (st := []) (k := 4) (i := 0) (qa51 K.2.1) gX4_want_X4_isUp rfl (show 0 < 1 by omega) rfl rfl (na := 1) rfl (by decide +kernel) (by decide) (by decide) (Nat.le_of_ble_eq_true rfl) dX4_want_2 (fun r1 g1 hp => ?_)
  obtain ⟨h1, rfl⟩ := hp
  cases h1
  refine g_if_eq (pc := 5) 18 dX4_want_5 (by decide) (by decide) (fun h => absurd h (by decide)) (fun _ => ?_)
  refine g_iload_n (pc := 8) dX4_want_8 rfl ?_
  refine g_sif_lt (pc := 9) 18 dX4_want_9 (by decide) (by omega) (fun h => absurd h (by have q := mg_sgs (a := b) (by omega); omega)) (fun _ => ?_)
  refine g_iload_n (pc := 12) dX4_want_12 rfl ?_
  refine g_bipush (pc := 13) (v := 100) dX4_want_13 (by decide +kernel) ?_
  refine g_icmp_le (pc := 15) 20 dX4_want_15 (by decide) (by omega) (by decide) (fun h => absurd h (by omega)) (fun _ => ?_)
  refine g_iconst (pc := 18) (v := 4294967295) dX4_want_18 (by decide +kernel) ?_
  exact g_iret (pc := 19) dX4_want_19 ⟨mg_narI _, Or.inl rfl⟩ ⟨rfl, rfl⟩
/-- X5_want(r5.0, 1, b[101,2147483647]) at qms6 -/
theorem qa69 (l : Launch) {D : va_G} {E : mg_E} {B : Nat} (b : Nat) (h_b : 101 ≤ b) (k_b : b ≤ 2147483647) : mg_C l (D, E, true, B) mX5_want [rv (D, E, true, B) 5 0, iv 1, iv b] qms6 (fun v g' => v = some 4294967295 ∧ g' = qms6) := by
  refine mg_C.of (by decide) rfl (Nat.le_of_ble_eq_true rfl) (List.forall_mem_cons.mpr ⟨rfl, (List.forall_mem_cons.mpr ⟨rfl, (List.forall_mem_cons.mpr ⟨rfl, (fun _ h => nomatch h)⟩)⟩)⟩) (fun K => ?_)
  refine g_aload_n (pc := 0) dX5_want_0 rfl ?_
  refine g_iload_n (pc := 1) dX5_want_1 rfl ?_
  refine g_callVi (pc := 2) (Y' := mX5_isUp) (As := [iv 1]) (st := []) (k := 5) (i := 0) (qa54 K.2.1) gX5_want_X5_isUp rfl (show 0 < 1 by omega) rfl rfl (na := 1) rfl (by decide +kernel) (by decide) (by decide) (Nat.le_of_ble_eq_true rfl) dX5_want_2 (fun r1 g1 hp => ?_)
  obtain ⟨h1, rfl⟩ := hp
  cases h1
  refine g_if_eq (pc := 5) 36 dX5_want_5 (by decide) (by decide) (fun h => absurd h (by decide)) (fun _ => ?_)
  refine g_iload_n (pc := 8) dX5_want_8 rfl ?_
  refine g_sif_lt (pc := 9) 36 dX5_want_9 (by decide) (by omega) (fun h => absurd h (by have q := mg_sgs (a := b) (by omega); omega)) (fun _ => ?_)
  refine g_iload_n (pc := 12) dX5_want_12 rfl ?_
  refine g_bipush (pc := 13) (v := 100) dX5_want_13 (by decide +kernel) ?_
  refine g_icmp_gt (pc := 15) 36 dX5_want_15 (by decide) (by omega) (by decide) (fun _ => ?_) (fun h => absurd (by omega) h)
  refine g_iconst (pc := 36) (v := 4294967295) dX5_want_36 (by decide +kernel) ?_
  exact g_iret (pc := 37) dX5_want_37 ⟨mg_narI _, Or.inl rfl⟩ ⟨rfl, rfl⟩
/-- X4_begin(r4.0, a[2147483648,4294967295]) at qms6 -/
theorem qa70 (l : Launch) {D : va_G} {E : mg_E} {B : Nat} (a : Nat) (h_a : 2147483648 ≤ a) (k_a : a ≤ 4294967295) : mg_C l (D, E, true, B) mX4_begin [rv (D, E, true, B) 4 0, iv a] qms6 (fun v g' => v = some 4294967295 ∧ g' = qms6) := by
  refine mg_C.of (by decide) rfl (Nat.le_of_ble_eq_true rfl) (List.forall_mem_cons.mpr ⟨rfl, (List.forall_mem_cons.mpr ⟨rfl, (fun _ h => nomatch h)⟩)⟩) (fun K => ?_)
  refine g_aload_n (pc := 0) dX4_begin_0 rfl ?_
  refine g_iload_n (pc := 1) dX4_begin_1 rfl ?_
  refine g_callVi (pc := 2) (Y' := mX4_isUp) (As := [iv a]) (st := []) (k := 4) (i := 0) (qa16 K.2.1 a h_a k_a) gX4_begin_X4_isUp rfl (show 0 < 1 by omega) rfl rfl (na := 1) rfl (by decide +kernel) (by decide) (by decide) (Nat.le_of_ble_eq_true rfl) dX4_begin_2 (fun r1 g1 hp => ?_)
  obtain ⟨h1, rfl⟩ := hp
  cases h1
  refine g_if_ne (pc := 5) 10 dX4_begin_5 (by decide) (by decide) (fun h => absurd (by decide) h) (fun _ => ?_)
  refine g_iconst (pc := 8) (v := 4294967295) dX4_begin_8 (by decide +kernel) ?_
  exact g_iret (pc := 9) dX4_begin_9 ⟨mg_narI _, Or.inl rfl⟩ ⟨rfl, rfl⟩
/-- X5_begin(r5.0, a[2147483648,4294967295]) at qms6 -/
theorem qa71 (l : Launch) {D : va_G} {E : mg_E} {B : Nat} (a : Nat) (h_a : 2147483648 ≤ a) (k_a : a ≤ 4294967295) : mg_C l (D, E, true, B) mX5_begin [rv (D, E, true, B) 5 0, iv a] qms6 (fun v g' => v = some 4294967295 ∧ g' = qms6) := by
  refine mg_C.of (by decide) rfl (Nat.le_of_ble_eq_true rfl) (List.forall_mem_cons.mpr ⟨rfl, (List.forall_mem_cons.mpr ⟨rfl, (fun _ h => nomatch h)⟩)⟩) (fun K => ?_)
  refine g_aload_n (pc := 0) dX5_begin_0 rfl ?_
  refine g_iload_n (pc := 1) dX5_begin_1 rfl ?_
  refine g_callVi (pc := 2) (Y' := mX5_isUp) (As := [iv a]) (st := []) (k := 5) (i := 0) (qa19 K.2.1 a h_a k_a) gX5_begin_X5_isUp rfl (show 0 < 1 by omega) rfl rfl (na := 1) rfl (by decide +kernel) (by decide) (by decide) (Nat.le_of_ble_eq_true rfl) dX5_begin_2 (fun r1 g1 hp => ?_)
  obtain ⟨h1, rfl⟩ := hp
  cases h1
  refine g_if_ne (pc := 5) 10 dX5_begin_5 (by decide) (by decide) (fun h => absurd (by decide) h) (fun _ => ?_)
  refine g_iconst (pc := 8) (v := 4294967295) dX5_begin_8 (by decide +kernel) ?_
  exact g_iret (pc := 9) dX5_begin_9 ⟨mg_narI _, Or.inl rfl⟩ ⟨rfl, rfl⟩
/-- X4_begin(r4.0, a[2,2147483647]) at qms6 -/
theorem qa72 (l : Launch) {D : va_G} {E : mg_E} {B : Nat} (a : Nat) (h_a : 2 ≤ a) (k_a : a ≤ 2147483647) : mg_C l (D, E, true, B) mX4_begin [rv (D, E, true, B) 4 0, iv a] qms6 (fun v g' => v = some 4294967295 ∧ g' = qms6) := by
  refine mg_C.of (by decide) rfl (Nat.le_of_ble_eq_true rfl) (List.forall_mem_cons.mpr ⟨rfl, (List.forall_mem_cons.mpr ⟨rfl, (fun _ h => nomatch h)⟩)⟩) (fun K => ?_)
  refine g_aload_n (pc := 0) dX4_begin_0 rfl ?_
  refine g_iload_n (pc := 1) dX4_begin_1 rfl ?_
  refine g_callVi (pc := 2) (Y' := mX4_isUp) (As := [iv a]) (st := []) (k := 4) (i := 0) (qa23 K.2.1 a h_a k_a) gX4_begin_X4_isUp rfl (show 0 < 1 by omega) rfl rfl (na := 1) rfl (by decide +kernel) (by decide) (by decide) (Nat.le_of_ble_eq_true rfl) dX4_begin_2 (fun r1 g1 hp => ?_)
  obtain ⟨h1, rfl⟩ := hp
  cases h1
  refine g_if_ne (pc := 5) 10 dX4_begin_5 (by decide) (by decide) (fun h => absurd (by decide) h) (fun _ => ?_)
  refine g_iconst (pc := 8) (v := 4294967295) dX4_begin_8 (by decide +kernel) ?_
  exact g_iret (pc := 9) dX4_begin_9 ⟨mg_narI _, Or.inl rfl⟩ ⟨rfl, rfl⟩
/-- X5_begin(r5.0, a[2,2147483647]) at qms6 -/
theorem qa73 (l : Launch) {D : va_G} {E : mg_E} {B : Nat} (a : Nat) (h_a : 2 ≤ a) (k_a : a ≤ 2147483647) : mg_C l (D, E, true, B) mX5_begin [rv (D, E, true, B) 5 0, iv a] qms6 (fun v g' => v = some 4294967295 ∧ g' = qms6) := by
  refine mg_C.of (by decide) rfl (Nat.le_of_ble_eq_true rfl) (List.forall_mem_cons.mpr ⟨rfl, (List.forall_mem_cons.mpr ⟨rfl, (fun _ h => nomatch h)⟩)⟩) (fun K => ?_)
  refine g_aload_n (pc := 0) dX5_begin_0 rfl ?_
  refine g_iload_n (pc := 1) dX5_begin_1 rfl ?_
  refine g_callVi (pc := 2) (Y' := mX5_isUp) (As := [iv a]) (st := []) (k := 5) (i := 0) (qa26 K.2.1 a h_a k_a) gX5_begin_X5_isUp rfl (show 0 < 1 by omega) rfl rfl (na := 1) rfl (by decide +kernel) (by decide) (by decide) (Nat.le_of_ble_eq_true rfl) dX5_begin_2 (fun r1 g1 hp => ?_)
  obtain ⟨h1, rfl⟩ := hp
  cases h1
  refine g_if_ne (pc := 5) 10 dX5_begin_5 (by decide) (by decide) (fun h => absurd (by decide) h) (fun _ => ?_)
  refine g_iconst (pc := 8) (v := 4294967295) dX5_begin_8 (by decide +kernel) ?_
  exact g_iret (pc := 9) dX5_begin_9 ⟨mg_narI _, Or.inl rfl⟩ ⟨rfl, rfl⟩
/-- X3_firstPlace(r3.0, 0, 1) at qms6 -/
theorem qa74 (l : Launch) {D : va_G} {E : mg_E} {B : Nat} : mg_C l (D, E, true, B) mX3_firstPlace [rv (D, E, true, B) 3 0, iv 0, iv 1] qms6 (fun v g' => v = some 4294967294 ∧ g' = qms6) := by
  refine mg_C.of (by decide) rfl (Nat.le_of_ble_eq_true rfl) (List.forall_mem_cons.mpr ⟨rfl, (List.forall_mem_cons.mpr ⟨rfl, (List.forall_mem_cons.mpr ⟨rfl, (fun _ h => nomatch h)⟩)⟩)⟩) (fun K => ?_)
  refine g_aload_n (pc := 0) dX3_firstPlace_0 rfl ?_
  refine fg_X3_firstPlace_12 (pc := 1) (show 0 < 24 by omega) dX3_firstPlace_1 ?_
  refine fg_X3_firstPlace_22 (pc := 4) (show 0 < 24 by omega) dX3_firstPlace_4 ?_
  refine g_top (b := 0) (by decide +kernel) ?_
  refine g_if_ne (pc := 7) 13 dX3_firstPlace_7 (by decide) (by decide) (fun h => absurd (by decide) h) (fun _ => ?_)
  refine g_bipush (pc := 10) (v := 4294967294) dX3_firstPlace_10 (by decide +kernel) ?_
  exact g_iret (pc := 12) dX3_firstPlace_12 ⟨mg_narI _, Or.inl rfl⟩ ⟨rfl, rfl⟩
/-- X3_holds(r3.0) at qms6 -/
theorem qa75 (l : Launch) {D : va_G} {E : mg_E} {B : Nat} : mg_C l (D, E, true, B) mX3_holds [rv (D, E, true, B) 3 0] qms6 (fun v g' => v = some 1 ∧ g' = qms6) := by
  refine mg_C.of (by decide) rfl (Nat.le_of_ble_eq_true rfl) (List.forall_mem_cons.mpr ⟨rfl, (fun _ h => nomatch h)⟩) (fun K => ?_)
  refine g_aload_n (pc := 0) dX3_holds_0 rfl ?_
  refine fg_X3_holds_25 (pc := 1) (show 0 < 24 by omega) dX3_holds_1 ?_
  refine g_top (b := 0) (by decide +kernel) ?_
  refine g_aload_n (pc := 4) dX3_holds_4 rfl ?_
  refine fg_X3_holds_18 (pc := 5) (show 0 < 24 by omega) dX3_holds_5 ?_
  refine g_icmp_ne (pc := 8) 15 dX3_holds_8 (by decide) (by decide) (by decide) (fun h => absurd (by decide) h) (fun _ => ?_)
  refine g_iconst (pc := 11) (v := 1) dX3_holds_11 (by decide +kernel) ?_
  refine g_goto (pc := 12) 16 dX3_holds_12 (by decide) ?_
  exact g_iret (pc := 16) dX3_holds_16 ⟨mg_narZ (by decide), Or.inr rfl⟩ ⟨rfl, rfl⟩
/-- X4_begin(r4.0, 0) at qms6 -/
theorem qa76 (l : Launch) {D : va_G} {E : mg_E} {B : Nat} : mg_C l (D, E, true, B) mX4_begin [rv (D, E, true, B) 4 0, iv 0] qms6 (fun v g' => v = some 4294967294 ∧ g' = qms6) := by
  refine mg_C.of (by decide) rfl (Nat.le_of_ble_eq_true rfl) (List.forall_mem_cons.mpr ⟨rfl, (List.forall_mem_cons.mpr ⟨rfl, (fun _ h => nomatch h)⟩)⟩) (fun K => ?_)
  refine g_aload_n (pc := 0) dX4_begin_0 rfl ?_
  refine g_iload_n (pc := 1) dX4_begin_1 rfl ?_
  refine g_callVi (pc := 2) (Y' := mX4_isUp) (As := [iv 0]) (st := []) (k := 4) (i := 0) (qa30 K.2.1) gX4_begin_X4_isUp rfl (show 0 < 1 by omega) rfl rfl (na := 1) rfl (by decide +kernel) (by decide) (by decide) (Nat.le_of_ble_eq_true rfl) dX4_begin_2 (fun r1 g1 hp => ?_)
  obtain ⟨h1, rfl⟩ := hp
  cases h1
  refine g_if_ne (pc := 5) 10 dX4_begin_5 (by decide) (by decide) (fun _ => ?_) (fun h => absurd h (by decide))
  refine g_aload_n (pc := 10) dX4_begin_10 rfl ?_
  refine fg_X4_begin_18 (pc := 11) dX4_begin_11 ?_
  refine g_iload_n (pc := 14) dX4_begin_14 rfl ?_
  refine g_aastation (pc := 15) (a := 0) (by decide) dX4_begin_15 ?_
  refine g_astore_n (pc := 16) (ls' := [rv (D, E, true, B) 4 0, iv 0, rv (D, E, true, B) 3 0]) dX4_begin_16 (Nat.le_of_ble_eq_true rfl) (Nat.le_of_ble_eq_true rfl) rfl ?_
  refine g_aload_n (pc := 17) dX4_begin_17 rfl ?_
  refine g_aload_n (pc := 18) dX4_begin_18 rfl ?_
  refine fg_X4_begin_85 (pc := 19) dX4_begin_19 ?_
  refine g_top (b := 0) (by decide +kernel) ?_
  refine g_aload_n (pc := 22) dX4_begin_22 rfl ?_
  refine fg_X4_begin_88 (pc := 23) dX4_begin_23 ?_
  refine g_top (b := 1) (by decide +kernel) ?_
  refine g_callVi (pc := 26) (Y' := mX3_firstPlace) (As := [iv 0, iv 1]) (st := []) (k := 3) (i := 0) (qa74 K.2.1) gX4_begin_X3_firstPlace rfl (show 0 < 24 by omega) rfl rfl (na := 2) rfl (by decide +kernel) (by decide) (by decide) (Nat.le_of_ble_eq_true rfl) dX4_begin_26 (fun r1 g1 hp => ?_)
  obtain ⟨h1, rfl⟩ := hp
  cases h1
  refine g_istore_n (pc := 29) (ls' := [rv (D, E, true, B) 4 0, iv 0, rv (D, E, true, B) 3 0, iv 4294967294]) dX4_begin_29 (Nat.le_of_ble_eq_true rfl) (Nat.le_of_ble_eq_true rfl) rfl ?_
  refine g_aload_n (pc := 30) dX4_begin_30 rfl ?_
  refine g_callVi (pc := 31) (Y' := mX3_holds) (As := []) (st := []) (k := 3) (i := 0) (qa75 K.2.1) gX4_begin_X3_holds rfl (show 0 < 24 by omega) rfl rfl (na := 0) rfl (by decide +kernel) (by decide) (by decide) (Nat.le_of_ble_eq_true rfl) dX4_begin_31 (fun r1 g1 hp => ?_)
  obtain ⟨h1, rfl⟩ := hp
  cases h1
  refine g_if_eq (pc := 34) 63 dX4_begin_34 (by decide) (by decide) (fun h => absurd h (by decide)) (fun _ => ?_)
  refine g_aload_n (pc := 37) dX4_begin_37 rfl ?_
  refine fg_X4_begin_111 (pc := 38) (show 0 < 24 by omega) dX4_begin_38 ?_
  refine g_top (b := 0) (by decide +kernel) ?_
  refine g_if_ne (pc := 41) 63 dX4_begin_41 (by decide) (by decide) (fun h => absurd (by decide) h) (fun _ => ?_)
  refine g_iload_n (pc := 44) dX4_begin_44 rfl ?_
  refine g_bipush (pc := 45) (v := 4294967294) dX4_begin_45 (by decide +kernel) ?_
  refine g_icmp_eq (pc := 47) 63 dX4_begin_47 (by decide) (by decide) (by decide) (fun _ => ?_) (fun h => absurd (by decide) h)
  refine g_bipush (pc := 63) (v := 4294967294) dX4_begin_63 (by decide +kernel) ?_
  exact g_iret (pc := 65) dX4_begin_65 ⟨mg_narI _, Or.inl rfl⟩ ⟨rfl, rfl⟩
/-- X5_begin(r5.0, 0) at qms6 -/
theorem qa77 (l : Launch) {D : va_G} {E : mg_E} {B : Nat} : mg_C l (D, E, true, B) mX5_begin [rv (D, E, true, B) 5 0, iv 0] qms6 (fun v g' => v = some 4294967294 ∧ g' = qms6) := by
  refine mg_C.of (by decide) rfl (Nat.le_of_ble_eq_true rfl) (List.forall_mem_cons.mpr ⟨rfl, (List.forall_mem_cons.mpr ⟨rfl, (fun _ h => nomatch h)⟩)⟩) (fun K => ?_)
  refine g_aload_n (pc := 0) dX5_begin_0 rfl ?_
  refine g_iload_n (pc := 1) dX5_begin_1 rfl ?_
  refine g_callVi (pc := 2) (Y' := mX5_isUp) (As := [iv 0]) (st := []) (k := 5) (i := 0) (qa33 K.2.1) gX5_begin_X5_isUp rfl (show 0 < 1 by omega) rfl rfl (na := 1) rfl (by decide +kernel) (by decide) (by decide) (Nat.le_of_ble_eq_true rfl) dX5_begin_2 (fun r1 g1 hp => ?_)
  obtain ⟨h1, rfl⟩ := hp
  cases h1
  refine g_if_ne (pc := 5) 10 dX5_begin_5 (by decide) (by decide) (fun _ => ?_) (fun h => absurd h (by decide))
  refine g_aload_n (pc := 10) dX5_begin_10 rfl ?_
  refine fg_X5_begin_13 (pc := 11) (by rfl) dX5_begin_11 ?_
  refine g_iload_n (pc := 14) dX5_begin_14 rfl ?_
  refine g_iaload (pc := 15) (k := 36) (i := 0) (n := 24) (show 0 < 1 by omega) rfl (by decide) (by decide) dX5_begin_15 ?_
  refine g_top (b := 0) (by decide +kernel) ?_
  refine g_iload_n (pc := 16) dX5_begin_16 rfl ?_
  refine g_icmp_ne (pc := 17) 57 dX5_begin_17 (by decide) (by decide) (by decide) (fun h => absurd (by decide) h) (fun _ => ?_)
  refine g_aload_n (pc := 20) dX5_begin_20 rfl ?_
  refine fg_X5_begin_20 (pc := 21) (by rfl) dX5_begin_21 ?_
  refine g_iload_n (pc := 24) dX5_begin_24 rfl ?_
  refine g_baload (pc := 25) (k := 38) (i := 0) (n := 24) (show 0 < 1 by omega) rfl (by decide) (by decide) dX5_begin_25 ?_
  refine g_top (b := 0) (by decide +kernel) ?_
  refine g_if_ne (pc := 26) 57 dX5_begin_26 (by decide) (by decide) (fun h => absurd (by decide) h) (fun _ => ?_)
  refine g_aload_n (pc := 29) dX5_begin_29 rfl ?_
  refine fg_X5_begin_41 (pc := 30) (by rfl) dX5_begin_30 ?_
  refine g_iload_n (pc := 33) dX5_begin_33 rfl ?_
  refine g_iaload (pc := 34) (k := 46) (i := 0) (n := 24) (show 0 < 1 by omega) rfl (by decide) (by decide) dX5_begin_34 ?_
  refine g_top (b := 0) (by decide +kernel) ?_
  refine g_if_eq (pc := 35) 57 dX5_begin_35 (by decide) (by decide) (fun _ => ?_) (fun h => absurd (by decide) h)
  refine g_bipush (pc := 57) (v := 4294967294) dX5_begin_57 (by decide +kernel) ?_
  exact g_iret (pc := 59) dX5_begin_59 ⟨mg_narI _, Or.inl rfl⟩ ⟨rfl, rfl⟩
/-- X3_firstPlace(r3.1, 0, 1) at qms6 -/
theorem qa78 (l : Launch) {D : va_G} {E : mg_E} {B : Nat} : mg_C l (D, E, true, B) mX3_firstPlace [rv (D, E, true, B) 3 1, iv 0, iv 1] qms6 (fun v g' => v = some 4294967294 ∧ g' = qms6) := by
  refine mg_C.of (by decide) rfl (Nat.le_of_ble_eq_true rfl) (List.forall_mem_cons.mpr ⟨rfl, (List.forall_mem_cons.mpr ⟨rfl, (List.forall_mem_cons.mpr ⟨rfl, (fun _ h => nomatch h)⟩)⟩)⟩) (fun K => ?_)
  refine g_aload_n (pc := 0) dX3_firstPlace_0 rfl ?_
  refine fg_X3_firstPlace_12 (pc := 1) (show 1 < 24 by omega) dX3_firstPlace_1 ?_
  refine fg_X3_firstPlace_22 (pc := 4) (show 1 < 24 by omega) dX3_firstPlace_4 ?_
  refine g_top (b := 0) (by decide +kernel) ?_
  refine g_if_ne (pc := 7) 13 dX3_firstPlace_7 (by decide) (by decide) (fun h => absurd (by decide) h) (fun _ => ?_)
  refine g_bipush (pc := 10) (v := 4294967294) dX3_firstPlace_10 (by decide +kernel) ?_
  exact g_iret (pc := 12) dX3_firstPlace_12 ⟨mg_narI _, Or.inl rfl⟩ ⟨rfl, rfl⟩
/-- X3_holds(r3.1) at qms6 -/
theorem qa79 (l : Launch) {D : va_G} {E : mg_E} {B : Nat} : mg_C l (D, E, true, B) mX3_holds [rv (D, E, true, B) 3 1] qms6 (fun v g' => v = some 0 ∧ g' = qms6) := by
  refine mg_C.of (by decide) rfl (Nat.le_of_ble_eq_true rfl) (List.forall_mem_cons.mpr ⟨rfl, (fun _ h => nomatch h)⟩) (fun K => ?_)
  refine g_aload_n (pc := 0) dX3_holds_0 rfl ?_
  refine fg_X3_holds_25 (pc := 1) (show 1 < 24 by omega) dX3_holds_1 ?_
  refine g_top (b := 0) (by decide +kernel) ?_
  refine g_aload_n (pc := 4) dX3_holds_4 rfl ?_
  refine fg_X3_holds_18 (pc := 5) (show 1 < 24 by omega) dX3_holds_5 ?_
  refine g_icmp_ne (pc := 8) 15 dX3_holds_8 (by decide) (by decide) (by decide) (fun _ => ?_) (fun h => absurd h (by decide))
  refine g_iconst (pc := 15) (v := 0) dX3_holds_15 (by decide +kernel) ?_
  exact g_iret (pc := 16) dX3_holds_16 ⟨mg_narZ (by decide), Or.inr rfl⟩ ⟨rfl, rfl⟩
/-- X4_begin(r4.0, 1) at qms6 -/
theorem qa80 (l : Launch) {D : va_G} {E : mg_E} {B : Nat} : mg_C l (D, E, true, B) mX4_begin [rv (D, E, true, B) 4 0, iv 1] qms6 (fun v g' => v = some 4294967294 ∧ g' = qms6) := by
  refine mg_C.of (by decide) rfl (Nat.le_of_ble_eq_true rfl) (List.forall_mem_cons.mpr ⟨rfl, (List.forall_mem_cons.mpr ⟨rfl, (fun _ h => nomatch h)⟩)⟩) (fun K => ?_)
  refine g_aload_n (pc := 0) dX4_begin_0 rfl ?_
  refine g_iload_n (pc := 1) dX4_begin_1 rfl ?_
  refine g_callVi (pc := 2) (Y' := mX4_isUp) (As := [iv 1]) (st := []) (k := 4) (i := 0) (qa51 K.2.1) gX4_begin_X4_isUp rfl (show 0 < 1 by omega) rfl rfl (na := 1) rfl (by decide +kernel) (by decide) (by decide) (Nat.le_of_ble_eq_true rfl) dX4_begin_2 (fun r1 g1 hp => ?_)
  obtain ⟨h1, rfl⟩ := hp
  cases h1
  refine g_if_ne (pc := 5) 10 dX4_begin_5 (by decide) (by decide) (fun _ => ?_) (fun h => absurd h (by decide))
  refine g_aload_n (pc := 10) dX4_begin_10 rfl ?_
  refine fg_X4_begin_18 (pc := 11) dX4_begin_11 ?_
  refine g_iload_n (pc := 14) dX4_begin_14 rfl ?_
  refine g_aastation (pc := 15) (a := 1) (by decide) dX4_begin_15 ?_
  refine g_astore_n (pc := 16) (ls' := [rv (D, E, true, B) 4 0, iv 1, rv (D, E, true, B) 3 1]) dX4_begin_16 (Nat.le_of_ble_eq_true rfl) (Nat.le_of_ble_eq_true rfl) rfl ?_
  refine g_aload_n (pc := 17) dX4_begin_17 rfl ?_
  refine g_aload_n (pc := 18) dX4_begin_18 rfl ?_
  refine fg_X4_begin_85 (pc := 19) dX4_begin_19 ?_
  refine g_top (b := 0) (by decide +kernel) ?_
  refine g_aload_n (pc := 22) dX4_begin_22 rfl ?_
  refine fg_X4_begin_88 (pc := 23) dX4_begin_23 ?_
  refine g_top (b := 1) (by decide +kernel) ?_
  refine g_callVi (pc := 26) (Y' := mX3_firstPlace) (As := [iv 0, iv 1]) (st := []) (k := 3) (i := 1) (qa78 K.2.1) gX4_begin_X3_firstPlace rfl (show 1 < 24 by omega) rfl rfl (na := 2) rfl (by decide +kernel) (by decide) (by decide) (Nat.le_of_ble_eq_true rfl) dX4_begin_26 (fun r1 g1 hp => ?_)
  obtain ⟨h1, rfl⟩ := hp
  cases h1
  refine g_istore_n (pc := 29) (ls' := [rv (D, E, true, B) 4 0, iv 1, rv (D, E, true, B) 3 1, iv 4294967294]) dX4_begin_29 (Nat.le_of_ble_eq_true rfl) (Nat.le_of_ble_eq_true rfl) rfl ?_
  refine g_aload_n (pc := 30) dX4_begin_30 rfl ?_
  refine g_callVi (pc := 31) (Y' := mX3_holds) (As := []) (st := []) (k := 3) (i := 1) (qa79 K.2.1) gX4_begin_X3_holds rfl (show 1 < 24 by omega) rfl rfl (na := 0) rfl (by decide +kernel) (by decide) (by decide) (Nat.le_of_ble_eq_true rfl) dX4_begin_31 (fun r1 g1 hp => ?_)
  obtain ⟨h1, rfl⟩ := hp
  cases h1
  refine g_if_eq (pc := 34) 63 dX4_begin_34 (by decide) (by decide) (fun _ => ?_) (fun h => absurd (by decide) h)
  refine g_bipush (pc := 63) (v := 4294967294) dX4_begin_63 (by decide +kernel) ?_
  exact g_iret (pc := 65) dX4_begin_65 ⟨mg_narI _, Or.inl rfl⟩ ⟨rfl, rfl⟩
/-- X5_begin(r5.0, 1) at qms6 -/
theorem qa81 (l : Launch) {D : va_G} {E : mg_E} {B : Nat} : mg_C l (D, E, true, B) mX5_begin [rv (D, E, true, B) 5 0, iv 1] qms6 (fun v g' => v = some 4294967294 ∧ g' = qms6) := by
  refine mg_C.of (by decide) rfl (Nat.le_of_ble_eq_true rfl) (List.forall_mem_cons.mpr ⟨rfl, (List.forall_mem_cons.mpr ⟨rfl, (fun _ h => nomatch h)⟩)⟩) (fun K => ?_)
  refine g_aload_n (pc := 0) dX5_begin_0 rfl ?_
  refine g_iload_n (pc := 1) dX5_begin_1 rfl ?_
  refine g_callVi (pc := 2) (Y' := mX5_isUp) (As := [iv 1]) (st := []) (k := 5) (i := 0) (qa54 K.2.1) gX5_begin_X5_isUp rfl (show 0 < 1 by omega) rfl rfl (na := 1) rfl (by decide +kernel) (by decide) (by decide) (Nat.le_of_ble_eq_true rfl) dX5_begin_2 (fun r1 g1 hp => ?_)
  obtain ⟨h1, rfl⟩ := hp
  cases h1
  refine g_if_ne (pc := 5) 10 dX5_begin_5 (by decide) (by decide) (fun _ => ?_) (fun h => absurd h (by decide))
  refine g_aload_n (pc := 10) dX5_begin_10 rfl ?_
  refine fg_X5_begin_13 (pc := 11) (by rfl) dX5_begin_11 ?_
  refine g_iload_n (pc := 14) dX5_begin_14 rfl ?_
  refine g_iaload (pc := 15) (k := 36) (i := 0) (n := 24) (show 0 < 1 by omega) rfl (by decide) (by decide) dX5_begin_15 ?_
  refine g_top (b := 0) (by decide +kernel) ?_
  refine g_iload_n (pc := 16) dX5_begin_16 rfl ?_
  refine g_icmp_ne (pc := 17) 57 dX5_begin_17 (by decide) (by decide) (by decide) (fun _ => ?_) (fun h => absurd h (by decide))
  refine g_bipush (pc := 57) (v := 4294967294) dX5_begin_57 (by decide +kernel) ?_
  exact g_iret (pc := 59) dX5_begin_59 ⟨mg_narI _, Or.inl rfl⟩ ⟨rfl, rfl⟩
/-- X4_end(r4.0, a[2147483648,4294967295]) at qms6 -/
theorem qa82 (l : Launch) {D : va_G} {E : mg_E} {B : Nat} (a : Nat) (h_a : 2147483648 ≤ a) (k_a : a ≤ 4294967295) : mg_C l (D, E, true, B) mX4_end [rv (D, E, true, B) 4 0, iv a] qms6 (fun v g' => v = some 4294967295 ∧ g' = qms6) := by
  refine mg_C.of (by decide) rfl (Nat.le_of_ble_eq_true rfl) (List.forall_mem_cons.mpr ⟨rfl, (List.forall_mem_cons.mpr ⟨rfl, (fun _ h => nomatch h)⟩)⟩) (fun K => ?_)
  refine g_aload_n (pc := 0) dX4_end_0 rfl ?_
  refine g_iload_n (pc := 1) dX4_end_1 rfl ?_
  refine g_callVi (pc := 2) (Y' := mX4_isStation) (As := [iv a]) (st := []) (k := 4) (i := 0) (qa15 K.2.1 a h_a k_a) gX4_end_X4_isStation rfl (show 0 < 1 by omega) rfl rfl (na := 1) rfl (by decide +kernel) (by decide) (by decide) (Nat.le_of_ble_eq_true rfl) dX4_end_2 (fun r1 g1 hp => ?_)
  obtain ⟨h1, rfl⟩ := hp
  cases h1
  refine g_if_eq (pc := 5) 20 dX4_end_5 (by decide) (by decide) (fun _ => ?_) (fun h => absurd (by decide) h)
  refine g_iconst (pc := 20) (v := 4294967295) dX4_end_20 (by decide +kernel) ?_
  exact g_iret (pc := 21) dX4_end_21 ⟨mg_narI _, Or.inl rfl⟩ ⟨rfl, rfl⟩
/-- X5_end(r5.0, a[2147483648,4294967295]) at qms6 -/
theorem qa83 (l : Launch) {D : va_G} {E : mg_E} {B : Nat} (a : Nat) (h_a : 2147483648 ≤ a) (k_a : a ≤ 4294967295) : mg_C l (D, E, true, B) mX5_end [rv (D, E, true, B) 5 0, iv a] qms6 (fun v g' => v = some 4294967295 ∧ g' = qms6) := by
  refine mg_C.of (by decide) rfl (Nat.le_of_ble_eq_true rfl) (List.forall_mem_cons.mpr ⟨rfl, (List.forall_mem_cons.mpr ⟨rfl, (fun _ h => nomatch h)⟩)⟩) (fun K => ?_)
  refine g_aload_n (pc := 0) dX5_end_0 rfl ?_
  refine fg_X5_end_105 (pc := 1) (by rfl) dX5_end_1 ?_
  refine g_top (b := 1) (by decide +kernel) ?_
  refine g_if_eq (pc := 4) 24 dX5_end_4 (by decide) (by decide) (fun h => absurd h (by decide)) (fun _ => ?_)
  refine g_aload_n (pc := 7) dX5_end_7 rfl ?_
  refine g_iload_n (pc := 8) dX5_end_8 rfl ?_
  refine g_callVi (pc := 9) (Y' := mX5_isStation) (As := [iv a]) (st := []) (k := 5) (i := 0) (qa18 K.2.1 a h_a k_a) gX5_end_X5_isStation rfl (show 0 < 1 by omega) rfl rfl (na := 1) rfl (by decide +kernel) (by decide) (by decide) (Nat.le_of_ble_eq_true rfl) dX5_end_9 (fun r1 g1 hp => ?_)
  obtain ⟨h1, rfl⟩ := hp
  cases h1
  refine g_if_eq (pc := 12) 24 dX5_end_12 (by decide) (by decide) (fun _ => ?_) (fun h => absurd (by decide) h)
  refine g_iconst (pc := 24) (v := 4294967295) dX5_end_24 (by decide +kernel) ?_
  exact g_iret (pc := 25) dX5_end_25 ⟨mg_narI _, Or.inl rfl⟩ ⟨rfl, rfl⟩
/-- X4_end(r4.0, a[2,2147483647]) at qms6 -/
theorem qa84 (l : Launch) {D : va_G} {E : mg_E} {B : Nat} (a : Nat) (h_a : 2 ≤ a) (k_a : a ≤ 2147483647) : mg_C l (D, E, true, B) mX4_end [rv (D, E, true, B) 4 0, iv a] qms6 (fun v g' => v = some 4294967295 ∧ g' = qms6) := by
  refine mg_C.of (by decide) rfl (Nat.le_of_ble_eq_true rfl) (List.forall_mem_cons.mpr ⟨rfl, (List.forall_mem_cons.mpr ⟨rfl, (fun _ h => nomatch h)⟩)⟩) (fun K => ?_)
  refine g_aload_n (pc := 0) dX4_end_0 rfl ?_
  refine g_iload_n (pc := 1) dX4_end_1 rfl ?_
  refine g_callVi (pc := 2) (Y' := mX4_isStation) (As := [iv a]) (st := []) (k := 4) (i := 0) (qa22 K.2.1 a h_a k_a) gX4_end_X4_isStation rfl (show 0 < 1 by omega) rfl rfl (na := 1) rfl (by decide +kernel) (by decide) (by decide) (Nat.le_of_ble_eq_true rfl) dX4_end_2 (fun r1 g1 hp => ?_)
  obtain ⟨h1, rfl⟩ := hp
  cases h1
  refine g_if_eq (pc := 5) 20 dX4_end_5 (by decide) (by decide) (fun _ => ?_) (fun h => absurd (by decide) h)
  refine g_iconst (pc := 20) (v := 4294967295) dX4_end_20 (by decide +kernel) ?_
  exact g_iret (pc := 21) dX4_end_21 ⟨mg_narI _, Or.inl rfl⟩ ⟨rfl, rfl⟩
/-- X5_end(r5.0, a[2,2147483647]) at qms6 -/
theorem qa85 (l : Launch) {D : va_G} {E : mg_E} {B : Nat} (a : Nat) (h_a : 2 ≤ a) (k_a : a ≤ 2147483647) : mg_C l (D, E, true, B) mX5_end [rv (D, E, true, B) 5 0, iv a] qms6 (fun v g' => v = some 4294967295 ∧ g' = qms6) := by
  refine mg_C.of (by decide) rfl (Nat.le_of_ble_eq_true rfl) (List.forall_mem_cons.mpr ⟨rfl, (List.forall_mem_cons.mpr ⟨rfl, (fun _ h => nomatch h)⟩)⟩) (fun K => ?_)
  refine g_aload_n (pc := 0) dX5_end_0 rfl ?_
  refine fg_X5_end_105 (pc := 1) (by rfl) dX5_end_1 ?_
  refine g_top (b := 1) (by decide +kernel) ?_
  refine g_if_eq (pc := 4) 24 dX5_end_4 (by decide) (by decide) (fun h => absurd h (by decide)) (fun _ => ?_)
  refine g_aload_n (pc := 7) dX5_end_7 rfl ?_
  refine g_iload_n (pc := 8) dX5_end_8 rfl ?_
  refine g_callVi (pc := 9) (Y' := mX5_isStation) (As := [iv a]) (st := []) (k := 5) (i := 0) (qa25 K.2.1 a h_a k_a) gX5_end_X5_isStation rfl (show 0 < 1 by omega) rfl rfl (na := 1) rfl (by decide +kernel) (by decide) (by decide) (Nat.le_of_ble_eq_true rfl) dX5_end_9 (fun r1 g1 hp => ?_)
  obtain ⟨h1, rfl⟩ := hp
  cases h1
  refine g_if_eq (pc := 12) 24 dX5_end_12 (by decide) (by decide) (fun _ => ?_) (fun h => absurd (by decide) h)
  refine g_iconst (pc := 24) (v := 4294967295) dX5_end_24 (by decide +kernel) ?_
  exact g_iret (pc := 25) dX5_end_25 ⟨mg_narI _, Or.inl rfl⟩ ⟨rfl, rfl⟩
/-- X4_end(r4.0, 0) at qms6 -/
theorem qa86 (l : Launch) {D : va_G} {E : mg_E} {B : Nat} : mg_C l (D, E, true, B) mX4_end [rv (D, E, true, B) 4 0, iv 0] qms6 (fun v g' => v = some 4294967295 ∧ g' = qms6) := by
  refine mg_C.of (by decide) rfl (Nat.le_of_ble_eq_true rfl) (List.forall_mem_cons.mpr ⟨rfl, (List.forall_mem_cons.mpr ⟨rfl, (fun _ h => nomatch h)⟩)⟩) (fun K => ?_)
  refine g_aload_n (pc := 0) dX4_end_0 rfl ?_
  refine g_iload_n (pc := 1) dX4_end_1 rfl ?_
  refine g_callVi (pc := 2) (Y' := mX4_isStation) (As := [iv 0]) (st := []) (k := 4) (i := 0) (qa29 K.2.1) gX4_end_X4_isStation rfl (show 0 < 1 by omega) rfl rfl (na := 1) rfl (by decide +kernel) (by decide) (by decide) (Nat.le_of_ble_eq_true rfl) dX4_end_2 (fun r1 g1 hp => ?_)
  obtain ⟨h1, rfl⟩ := hp
  cases h1
  refine g_if_eq (pc := 5) 20 dX4_end_5 (by decide) (by decide) (fun h => absurd h (by decide)) (fun _ => ?_)
  refine g_aload_n (pc := 8) dX4_end_8 rfl ?_
  refine fg_X4_end_18 (pc := 9) dX4_end_9 ?_
  refine g_iload_n (pc := 12) dX4_end_12 rfl ?_
  refine g_aastation (pc := 13) (a := 0) (by decide) dX4_end_13 ?_
  refine fg_X4_end_111 (pc := 14) (show 0 < 24 by omega) dX4_end_14 ?_
  refine g_top (b := 0) (by decide +kernel) ?_
  refine g_if_ne (pc := 17) 22 dX4_end_17 (by decide) (by decide) (fun h => absurd (by decide) h) (fun _ => ?_)
  refine g_iconst (pc := 20) (v := 4294967295) dX4_end_20 (by decide +kernel) ?_
  exact g_iret (pc := 21) dX4_end_21 ⟨mg_narI _, Or.inl rfl⟩ ⟨rfl, rfl⟩
/-- X5_end(r5.0, 0) at qms6 -/
theorem qa87 (l : Launch) {D : va_G} {E : mg_E} {B : Nat} : mg_C l (D, E, true, B) mX5_end [rv (D, E, true, B) 5 0, iv 0] qms6 (fun v g' => v = some 4294967295 ∧ g' = qms6) := by
  refine mg_C.of (by decide) rfl (Nat.le_of_ble_eq_true rfl) (List.forall_mem_cons.mpr ⟨rfl, (List.forall_mem_cons.mpr ⟨rfl, (fun _ h => nomatch h)⟩)⟩) (fun K => ?_)
  refine g_aload_n (pc := 0) dX5_end_0 rfl ?_
  refine fg_X5_end_105 (pc := 1) (by rfl) dX5_end_1 ?_
  refine g_top (b := 1) (by decide +kernel) ?_
  refine g_if_eq (pc := 4) 24 dX5_end_4 (by decide) (by decide) (fun h => absurd h (by decide)) (fun _ => ?_)
  refine g_aload_n (pc := 7) dX5_end_7 rfl ?_
  refine g_iload_n (pc := 8) dX5_end_8 rfl ?_
  refine g_callVi (pc := 9) (Y' := mX5_isStation) (As := [iv 0]) (st := []) (k := 5) (i := 0) (qa32 K.2.1) gX5_end_X5_isStation rfl (show 0 < 1 by omega) rfl rfl (na := 1) rfl (by decide +kernel) (by decide) (by decide) (Nat.le_of_ble_eq_true rfl) dX5_end_9 (fun r1 g1 hp => ?_)
  obtain ⟨h1, rfl⟩ := hp
  cases h1
  refine g_if_eq (pc := 12) 24 dX5_end_12 (by decide) (by decide) (fun h => absurd h (by decide)) (fun _ => ?_)
  refine g_aload_n (pc := 15) dX5_end_15 rfl ?_
  refine fg_X5_end_20 (pc := 16) (by rfl) dX5_end_16 ?_
  refine g_iload_n (pc := 19) dX5_end_19 rfl ?_
  refine g_baload (pc := 20) (k := 38) (i := 0) (n := 24) (show 0 < 1 by omega) rfl (by decide) (by decide) dX5_end_20 ?_
  refine g_top (b := 0) (by decide +kernel) ?_
  refine g_if_ne (pc := 21) 26 dX5_end_21 (by decide) (by decide) (fun h => absurd (by decide) h) (fun _ => ?_)
  refine g_iconst (pc := 24) (v := 4294967295) dX5_end_24 (by decide +kernel) ?_
  exact g_iret (pc := 25) dX5_end_25 ⟨mg_narI _, Or.inl rfl⟩ ⟨rfl, rfl⟩
/-- X4_end(r4.0, 1) at qms6 -/
theorem qa88 (l : Launch) {D : va_G} {E : mg_E} {B : Nat} : mg_C l (D, E, true, B) mX4_end [rv (D, E, true, B) 4 0, iv 1] qms6 (fun v g' => v = some 4294967295 ∧ g' = qms6) := by
  refine mg_C.of (by decide) rfl (Nat.le_of_ble_eq_true rfl) (List.forall_mem_cons.mpr ⟨rfl, (List.forall_mem_cons.mpr ⟨rfl, (fun _ h => nomatch h)⟩)⟩) (fun K => ?_)
  refine g_aload_n (pc := 0) dX4_end_0 rfl ?_
  refine g_iload_n (pc := 1) dX4_end_1 rfl ?_
  refine g_callVi (pc := 2) (Y' := mX4_isStation) (As := [iv 1]) (st := []) (k := 4) (i := 0) (qa50 K.2.1) gX4_end_X4_isStation rfl (show 0 < 1 by omega) rfl rfl (na := 1) rfl (by decide +kernel) (by decide) (by decide) (Nat.le_of_ble_eq_true rfl) dX4_end_2 (fun r1 g1 hp => ?_)
  obtain ⟨h1, rfl⟩ := hp
  cases h1
  refine g_if_eq (pc := 5) 20 dX4_end_5 (by decide) (by decide) (fun h => absurd h (by decide)) (fun _ => ?_)
  refine g_aload_n (pc := 8) dX4_end_8 rfl ?_
  refine fg_X4_end_18 (pc := 9) dX4_end_9 ?_
  refine g_iload_n (pc := 12) dX4_end_12 rfl ?_
  refine g_aastation (pc := 13) (a := 1) (by decide) dX4_end_13 ?_
  refine fg_X4_end_111 (pc := 14) (show 1 < 24 by omega) dX4_end_14 ?_
  refine g_top (b := 0) (by decide +kernel) ?_
  refine g_if_ne (pc := 17) 22 dX4_end_17 (by decide) (by decide) (fun h => absurd (by decide) h) (fun _ => ?_)
  refine g_iconst (pc := 20) (v := 4294967295) dX4_end_20 (by decide +kernel) ?_
  exact g_iret (pc := 21) dX4_end_21 ⟨mg_narI _, Or.inl rfl⟩ ⟨rfl, rfl⟩
/-- X5_end(r5.0, 1) at qms6 -/
theorem qa89 (l : Launch) {D : va_G} {E : mg_E} {B : Nat} : mg_C l (D, E, true, B) mX5_end [rv (D, E, true, B) 5 0, iv 1] qms6 (fun v g' => v = some 4294967295 ∧ g' = qms6) := by
  refine mg_C.of (by decide) rfl (Nat.le_of_ble_eq_true rfl) (List.forall_mem_cons.mpr ⟨rfl, (List.forall_mem_cons.mpr ⟨rfl, (fun _ h => nomatch h)⟩)⟩) (fun K => ?_)
  refine g_aload_n (pc := 0) dX5_end_0 rfl ?_
  refine fg_X5_end_105 (pc := 1) (by rfl) dX5_end_1 ?_
  refine g_top (b := 1) (by decide +kernel) ?_
  refine g_if_eq (pc := 4) 24 dX5_end_4 (by decide) (by decide) (fun h => absurd h (by decide)) (fun _ => ?_)
  refine g_aload_n (pc := 7) dX5_end_7 rfl ?_
  refine g_iload_n (pc := 8) dX5_end_8 rfl ?_
  refine g_callVi (pc := 9) (Y' := mX5_isStation) (As := [iv 1]) (st := []) (k := 5) (i := 0) (qa53 K.2.1) gX5_end_X5_isStation rfl (show 0 < 1 by omega) rfl rfl (na := 1) rfl (by decide +kernel) (by decide) (by decide) (Nat.le_of_ble_eq_true rfl) dX5_end_9 (fun r1 g1 hp => ?_)
  obtain ⟨h1, rfl⟩ := hp
  cases h1
  refine g_if_eq (pc := 12) 24 dX5_end_12 (by decide) (by decide) (fun h => absurd h (by decide)) (fun _ => ?_)
  refine g_aload_n (pc := 15) dX5_end_15 rfl ?_
  refine fg_X5_end_20 (pc := 16) (by rfl) dX5_end_16 ?_
  refine g_iload_n (pc := 19) dX5_end_19 rfl ?_
  refine g_baload (pc := 20) (k := 38) (i := 0) (n := 24) (show 0 < 1 by omega) rfl (by decide) (by decide) dX5_end_20 ?_
  refine g_top (b := 0) (by decide +kernel) ?_
  refine g_if_ne (pc := 21) 26 dX5_end_21 (by decide) (by decide) (fun h => absurd (by decide) h) (fun _ => ?_)
  refine g_iconst (pc := 24) (v := 4294967295) dX5_end_24 (by decide +kernel) ?_
  exact g_iret (pc := 25) dX5_end_25 ⟨mg_narI _, Or.inl rfl⟩ ⟨rfl, rfl⟩
/-- X4_step(r4.0, a[2147483648,4294967295]) at qms6 -/
theorem qa90 (l : Launch) {D : va_G} {E : mg_E} {B : Nat} (a : Nat) (h_a : 2147483648 ≤ a) (k_a : a ≤ 4294967295) : mg_C l (D, E, true, B) mX4_step [rv (D, E, true, B) 4 0, iv a] qms6 (fun v g' => v = some 4294967295 ∧ g' = qms6) := by
  refine mg_C.of (by decide) rfl (Nat.le_of_ble_eq_true rfl) (List.forall_mem_cons.mpr ⟨rfl, (List.forall_mem_cons.mpr ⟨rfl, (fun _ h => nomatch h)⟩)⟩) (fun K => ?_)
  refine g_aload_n (pc := 0) dX4_step_0 rfl ?_
  refine g_iload_n (pc := 1) dX4_step_1 rfl ?_
  refine g_callVi (pc := 2) (Y' := mX4_isUp) (As := [iv a]) (st := []) (k := 4) (i := 0) (qa16 K.2.1 a h_a k_a) gX4_step_X4_isUp rfl (show 0 < 1 by omega) rfl rfl (na := 1) rfl (by decide +kernel) (by decide) (by decide) (Nat.le_of_ble_eq_true rfl) dX4_step_2 (fun r1 g1 hp => ?_)
  obtain ⟨h1, rfl⟩ := hp
  cases h1
  refine g_if_ne (pc := 5) 10 dX4_step_5 (by decide) (by decide) (fun h => absurd (by decide) h) (fun _ => ?_)
  refine g_iconst (pc := 8) (v := 4294967295) dX4_step_8 (by decide +kernel) ?_
  exact g_iret (pc := 9) dX4_step_9 ⟨mg_narI _, Or.inl rfl⟩ ⟨rfl, rfl⟩
/-- X5_step(r5.0, a[2147483648,4294967295]) at qms6 -/
theorem qa91 (l : Launch) {D : va_G} {E : mg_E} {B : Nat} (a : Nat) (h_a : 2147483648 ≤ a) (k_a : a ≤ 4294967295) : mg_C l (D, E, true, B) mX5_step [rv (D, E, true, B) 5 0, iv a] qms6 (fun v g' => v = some 4294967295 ∧ g' = qms6) := by
  refine mg_C.of (by decide) rfl (Nat.le_of_ble_eq_true rfl) (List.forall_mem_cons.mpr ⟨rfl, (List.forall_mem_cons.mpr ⟨rfl, (fun _ h => nomatch h)⟩)⟩) (fun K => ?_)
  refine g_aload_n (pc := 0) dX5_step_0 rfl ?_
  refine g_iload_n (pc := 1) dX5_step_1 rfl ?_
  refine g_callVi (pc := 2) (Y' := mX5_isUp) (As := [iv a]) (st := []) (k := 5) (i := 0) (qa19 K.2.1 a h_a k_a) gX5_step_X5_isUp rfl (show 0 < 1 by omega) rfl rfl (na := 1) rfl (by decide +kernel) (by decide) (by decide) (Nat.le_of_ble_eq_true rfl) dX5_step_2 (fun r1 g1 hp => ?_)
  obtain ⟨h1, rfl⟩ := hp
  cases h1
  refine g_if_ne (pc := 5) 10 dX5_step_5 (by decide) (by decide) (fun h => absurd (by decide) h) (fun _ => ?_)
  refine g_iconst (pc := 8) (v := 4294967295) dX5_step_8 (by decide +kernel) ?_
  exact g_iret (pc := 9) dX5_step_9 ⟨mg_narI _, Or.inl rfl⟩ ⟨rfl, rfl⟩
/-- X4_step(r4.0, a[2,2147483647]) at qms6 -/
theorem qa92 (l : Launch) {D : va_G} {E : mg_E} {B : Nat} (a : Nat) (h_a : 2 ≤ a) (k_a : a ≤ 2147483647) : mg_C l (D, E, true, B) mX4_step [rv (D, E, true, B) 4 0, iv a] qms6 (fun v g' => v = some 4294967295 ∧ g' = qms6) := by
  refine mg_C.of (by decide) rfl (Nat.le_of_ble_eq_true rfl) (List.forall_mem_cons.mpr ⟨rfl, (List.forall_mem_cons.mpr ⟨rfl, (fun _ h => nomatch h)⟩)⟩) (fun K => ?_)
  refine g_aload_n (pc := 0) dX4_step_0 rfl ?_
  refine g_iload_n (pc := 1) dX4_step_1 rfl ?_
  refine g_callVi (pc := 2) (Y' := mX4_isUp) (As := [iv a]) (st := []) (k := 4) (i := 0) (qa23 K.2.1 a h_a k_a) gX4_step_X4_isUp rfl (show 0 < 1 by omega) rfl rfl (na := 1) rfl (by decide +kernel) (by decide) (by decide) (Nat.le_of_ble_eq_true rfl) dX4_step_2 (fun r1 g1 hp => ?_)
  obtain ⟨h1, rfl⟩ := hp
  cases h1
  refine g_if_ne (pc := 5) 10 dX4_step_5 (by decide) (by decide) (fun h => absurd (by decide) h) (fun _ => ?_)
  refine g_iconst (pc := 8) (v := 4294967295) dX4_step_8 (by decide +kernel) ?_
  exact g_iret (pc := 9) dX4_step_9 ⟨mg_narI _, Or.inl rfl⟩ ⟨rfl, rfl⟩
/-- X5_step(r5.0, a[2,2147483647]) at qms6 -/
theorem qa93 (l : Launch) {D : va_G} {E : mg_E} {B : Nat} (a : Nat) (h_a : 2 ≤ a) (k_a : a ≤ 2147483647) : mg_C l (D, E, true, B) mX5_step [rv (D, E, true, B) 5 0, iv a] qms6 (fun v g' => v = some 4294967295 ∧ g' = qms6) := by
  refine mg_C.of (by decide) rfl (Nat.le_of_ble_eq_true rfl) (List.forall_mem_cons.mpr ⟨rfl, (List.forall_mem_cons.mpr ⟨rfl, (fun _ h => nomatch h)⟩)⟩) (fun K => ?_)
  refine g_aload_n (pc := 0) dX5_step_0 rfl ?_
  refine g_iload_n (pc := 1) dX5_step_1 rfl ?_
  refine g_callVi (pc := 2) (Y' := mX5_isUp) (As := [iv a]) (st := []) (k := 5) (i := 0) (qa26 K.2.1 a h_a k_a) gX5_step_X5_isUp rfl (show 0 < 1 by omega) rfl rfl (na := 1) rfl (by decide +kernel) (by decide) (by decide) (Nat.le_of_ble_eq_true rfl) dX5_step_2 (fun r1 g1 hp => ?_)
  obtain ⟨h1, rfl⟩ := hp
  cases h1
  refine g_if_ne (pc := 5) 10 dX5_step_5 (by decide) (by decide) (fun h => absurd (by decide) h) (fun _ => ?_)
  refine g_iconst (pc := 8) (v := 4294967295) dX5_step_8 (by decide +kernel) ?_
  exact g_iret (pc := 9) dX5_step_9 ⟨mg_narI _, Or.inl rfl⟩ ⟨rfl, rfl⟩
/-- X4_canPassOn(r4.0, r3.0) at qms6 -/
theorem qa94 (l : Launch) {D : va_G} {E : mg_E} {B : Nat} : mg_C l (D, E, true, B) mX4_canPassOn [rv (D, E, true, B) 4 0, rv (D, E, true, B) 3 0] qms6 (fun v g' => v = some 0 ∧ g' = qms6) := by
  refine mg_C.of (by decide) rfl (Nat.le_of_ble_eq_true rfl) (List.forall_mem_cons.mpr ⟨rfl, (List.forall_mem_cons.mpr ⟨rfl, (fun _ h => nomatch h)⟩)⟩) (fun K => ?_)
  refine g_aload_n (pc := 0) dX4_canPassOn_0 rfl ?_
  refine g_aload_n (pc := 1) dX4_canPassOn_1 rfl ?_
  refine fg_X4_canPassOn_85 (pc := 2) dX4_canPassOn_2 ?_
  refine g_top (b := 0) (by decide +kernel) ?_
  refine g_aload_n (pc := 5) dX4_canPassOn_5 rfl ?_
  refine fg_X4_canPassOn_88 (pc := 6) dX4_canPassOn_6 ?_
  refine g_top (b := 1) (by decide +kernel) ?_
  refine g_callVi (pc := 9) (Y' := mX3_firstPlace) (As := [iv 0, iv 1]) (st := []) (k := 3) (i := 0) (qa74 K.2.1) gX4_canPassOn_X3_firstPlace rfl (show 0 < 24 by omega) rfl rfl (na := 2) rfl (by decide +kernel) (by decide) (by decide) (Nat.le_of_ble_eq_true rfl) dX4_canPassOn_9 (fun r1 g1 hp => ?_)
  obtain ⟨h1, rfl⟩ := hp
  cases h1
  refine g_istore_n (pc := 12) (ls' := [rv (D, E, true, B) 4 0, rv (D, E, true, B) 3 0, iv 4294967294]) dX4_canPassOn_12 (Nat.le_of_ble_eq_true rfl) (Nat.le_of_ble_eq_true rfl) rfl ?_
  refine g_aload_n (pc := 13) dX4_canPassOn_13 rfl ?_
  refine g_callVi (pc := 14) (Y' := mX3_holds) (As := []) (st := []) (k := 3) (i := 0) (qa75 K.2.1) gX4_canPassOn_X3_holds rfl (show 0 < 24 by omega) rfl rfl (na := 0) rfl (by decide +kernel) (by decide) (by decide) (Nat.le_of_ble_eq_true rfl) dX4_canPassOn_14 (fun r1 g1 hp => ?_)
  obtain ⟨h1, rfl⟩ := hp
  cases h1
  refine g_if_eq (pc := 17) 53 dX4_canPassOn_17 (by decide) (by decide) (fun h => absurd h (by decide)) (fun _ => ?_)
  refine g_aload_n (pc := 20) dX4_canPassOn_20 rfl ?_
  refine fg_X4_canPassOn_111 (pc := 21) (show 0 < 24 by omega) dX4_canPassOn_21 ?_
  refine g_top (b := 0) (by decide +kernel) ?_
  refine g_if_ne (pc := 24) 53 dX4_canPassOn_24 (by decide) (by decide) (fun h => absurd (by decide) h) (fun _ => ?_)
  refine g_iload_n (pc := 27) dX4_canPassOn_27 rfl ?_
  refine g_bipush (pc := 28) (v := 4294967294) dX4_canPassOn_28 (by decide +kernel) ?_
  refine g_icmp_eq (pc := 30) 53 dX4_canPassOn_30 (by decide) (by decide) (by decide) (fun _ => ?_) (fun h => absurd (by decide) h)
  refine g_iconst (pc := 53) (v := 0) dX4_canPassOn_53 (by decide +kernel) ?_
  exact g_iret (pc := 54) dX4_canPassOn_54 ⟨mg_narZ (by decide), Or.inr rfl⟩ ⟨rfl, rfl⟩
/-- X3_pointsAway(r3.0) at qms6 -/
theorem qa95 (l : Launch) {D : va_G} {E : mg_E} {B : Nat} : mg_C l (D, E, true, B) mX3_pointsAway [rv (D, E, true, B) 3 0] qms6 (fun v g' => v = some 0 ∧ g' = qms6) := by
  refine mg_C.of (by decide) rfl (Nat.le_of_ble_eq_true rfl) (List.forall_mem_cons.mpr ⟨rfl, (fun _ h => nomatch h)⟩) (fun K => ?_)
  refine g_aload_n (pc := 0) dX3_pointsAway_0 rfl ?_
  refine fg_X3_pointsAway_25 (pc := 1) (show 0 < 24 by omega) dX3_pointsAway_1 ?_
  refine g_top (b := 0) (by decide +kernel) ?_
  refine g_aload_n (pc := 4) dX3_pointsAway_4 rfl ?_
  refine fg_X3_pointsAway_18 (pc := 5) (show 0 < 24 by omega) dX3_pointsAway_5 ?_
  refine g_icmp_eq (pc := 8) 24 dX3_pointsAway_8 (by decide) (by decide) (by decide) (fun _ => ?_) (fun h => absurd (by decide) h)
  refine g_iconst (pc := 24) (v := 0) dX3_pointsAway_24 (by decide +kernel) ?_
  exact g_iret (pc := 25) dX3_pointsAway_25 ⟨mg_narZ (by decide), Or.inr rfl⟩ ⟨rfl, rfl⟩
/-- X4_step(r4.0, 0) at qms6 -/
theorem qa96 (l : Launch) {D : va_G} {E : mg_E} {B : Nat} : mg_C l (D, E, true, B) mX4_step [rv (D, E, true, B) 4 0, iv 0] qms6 (fun v g' => v = some 0 ∧ g' = qms6) := by
  refine mg_C.of (by decide) rfl (Nat.le_of_ble_eq_true rfl) (List.forall_mem_cons.mpr ⟨rfl, (List.forall_mem_cons.mpr ⟨rfl, (fun _ h => nomatch h)⟩)⟩) (fun K => ?_)
  refine g_aload_n (pc := 0) dX4_step_0 rfl ?_
  refine g_iload_n (pc := 1) dX4_step_1 rfl ?_
  refine g_callVi (pc := 2) (Y' := mX4_isUp) (As := [iv 0]) (st := []) (k := 4) (i := 0) (qa30 K.2.1) gX4_step_X4_isUp rfl (show 0 < 1 by omega) rfl rfl (na := 1) rfl (by decide +kernel) (by decide) (by decide) (Nat.le_of_ble_eq_true rfl) dX4_step_2 (fun r1 g1 hp => ?_)
  obtain ⟨h1, rfl⟩ := hp
  cases h1
  refine g_if_ne (pc := 5) 10 dX4_step_5 (by decide) (by decide) (fun _ => ?_) (fun h => absurd h (by decide))
  refine g_aload_n (pc := 10) dX4_step_10 rfl ?_
  refine fg_X4_step_18 (pc := 11) dX4_step_11 ?_
  refine g_iload_n (pc := 14) dX4_step_14 rfl ?_
  refine g_aastation (pc := 15) (a := 0) (by decide) dX4_step_15 ?_
  refine g_astore_n (pc := 16) (ls' := [rv (D, E, true, B) 4 0, iv 0, rv (D, E, true, B) 3 0]) dX4_step_16 (Nat.le_of_ble_eq_true rfl) (Nat.le_of_ble_eq_true rfl) rfl ?_
  refine g_aload_n (pc := 17) dX4_step_17 rfl ?_
  refine g_aload_n (pc := 18) dX4_step_18 rfl ?_
  refine g_callVi (pc := 19) (Y' := mX4_canPassOn) (As := [rv (D, E, true, B) 3 0]) (st := []) (k := 4) (i := 0) (qa94 K.2.1) gX4_step_X4_canPassOn rfl (show 0 < 1 by omega) rfl rfl (na := 1) rfl (by decide +kernel) (by decide) (by decide) (Nat.le_of_ble_eq_true rfl) dX4_step_19 (fun r1 g1 hp => ?_)
  obtain ⟨h1, rfl⟩ := hp
  cases h1
  refine g_if_eq (pc := 22) 32 dX4_step_22 (by decide) (by decide) (fun _ => ?_) (fun h => absurd (by decide) h)
  refine g_aload_n (pc := 32) dX4_step_32 rfl ?_
  refine g_callVi (pc := 33) (Y' := mX3_pointsAway) (As := []) (st := []) (k := 3) (i := 0) (qa95 K.2.1) gX4_step_X3_pointsAway rfl (show 0 < 24 by omega) rfl rfl (na := 0) rfl (by decide +kernel) (by decide) (by decide) (Nat.le_of_ble_eq_true rfl) dX4_step_33 (fun r1 g1 hp => ?_)
  obtain ⟨h1, rfl⟩ := hp
  cases h1
  refine g_if_eq (pc := 36) 49 dX4_step_36 (by decide) (by decide) (fun _ => ?_) (fun h => absurd (by decide) h)
  refine g_iconst (pc := 49) (v := 0) dX4_step_49 (by decide +kernel) ?_
  exact g_iret (pc := 50) dX4_step_50 ⟨mg_narI _, Or.inl rfl⟩ ⟨rfl, rfl⟩
/-- X5_step(r5.0, 0) at qms6 -/
theorem qa97 (l : Launch) {D : va_G} {E : mg_E} {B : Nat} : mg_C l (D, E, true, B) mX5_step [rv (D, E, true, B) 5 0, iv 0] qms6 (fun v g' => v = some 0 ∧ g' = qms6) := by
  refine mg_C.of (by decide) rfl (Nat.le_of_ble_eq_true rfl) (List.forall_mem_cons.mpr ⟨rfl, (List.forall_mem_cons.mpr ⟨rfl, (fun _ h => nomatch h)⟩)⟩) (fun K => ?_)
  refine g_aload_n (pc := 0) dX5_step_0 rfl ?_
  refine g_iload_n (pc := 1) dX5_step_1 rfl ?_
  refine g_callVi (pc := 2) (Y' := mX5_isUp) (As := [iv 0]) (st := []) (k := 5) (i := 0) (qa33 K.2.1) gX5_step_X5_isUp rfl (show 0 < 1 by omega) rfl rfl (na := 1) rfl (by decide +kernel) (by decide) (by decide) (Nat.le_of_ble_eq_true rfl) dX5_step_2 (fun r1 g1 hp => ?_)
  obtain ⟨h1, rfl⟩ := hp
  cases h1
  refine g_if_ne (pc := 5) 10 dX5_step_5 (by decide) (by decide) (fun _ => ?_) (fun h => absurd h (by decide))
  refine g_aload_n (pc := 10) dX5_step_10 rfl ?_
  refine fg_X5_step_41 (pc := 11) (by rfl) dX5_step_11 ?_
  refine g_iload_n (pc := 14) dX5_step_14 rfl ?_
  refine g_iaload (pc := 15) (k := 46) (i := 0) (n := 24) (show 0 < 1 by omega) rfl (by decide) (by decide) dX5_step_15 ?_
  refine g_top (b := 0) (by decide +kernel) ?_
  refine g_if_ne (pc := 16) 21 dX5_step_16 (by decide) (by decide) (fun h => absurd (by decide) h) (fun _ => ?_)
  refine g_iconst (pc := 19) (v := 0) dX5_step_19 (by decide +kernel) ?_
  exact g_iret (pc := 20) dX5_step_20 ⟨mg_narI _, Or.inl rfl⟩ ⟨rfl, rfl⟩
/-- X4_canPassOn(r4.0, r3.1) at qms6 -/
theorem qa98 (l : Launch) {D : va_G} {E : mg_E} {B : Nat} : mg_C l (D, E, true, B) mX4_canPassOn [rv (D, E, true, B) 4 0, rv (D, E, true, B) 3 1] qms6 (fun v g' => v = some 0 ∧ g' = qms6) := by
  refine mg_C.of (by decide) rfl (Nat.le_of_ble_eq_true rfl) (List.forall_mem_cons.mpr ⟨rfl, (List.forall_mem_cons.mpr ⟨rfl, (fun _ h => nomatch h)⟩)⟩) (fun K => ?_)
  refine g_aload_n (pc := 0) dX4_canPassOn_0 rfl ?_
  refine g_aload_n (pc := 1) dX4_canPassOn_1 rfl ?_
  refine fg_X4_canPassOn_85 (pc := 2) dX4_canPassOn_2 ?_
  refine g_top (b := 0) (by decide +kernel) ?_
  refine g_aload_n (pc := 5) dX4_canPassOn_5 rfl ?_
  refine fg_X4_canPassOn_88 (pc := 6) dX4_canPassOn_6 ?_
  refine g_top (b := 1) (by decide +kernel) ?_
  refine g_callVi (pc := 9) (Y' := mX3_firstPlace) (As := [iv 0, iv 1]) (st := []) (k := 3) (i := 1) (qa78 K.2.1) gX4_canPassOn_X3_firstPlace rfl (show 1 < 24 by omega) rfl rfl (na := 2) rfl (by decide +kernel) (by decide) (by decide) (Nat.le_of_ble_eq_true rfl) dX4_canPassOn_9 (fun r1 g1 hp => ?_)
  obtain ⟨h1, rfl⟩ := hp
  cases h1
  refine g_istore_n (pc := 12) (ls' := [rv (D, E, true, B) 4 0, rv (D, E, true, B) 3 1, iv 4294967294]) dX4_canPassOn_12 (Nat.le_of_ble_eq_true rfl) (Nat.le_of_ble_eq_true rfl) rfl ?_
  refine g_aload_n (pc := 13) dX4_canPassOn_13 rfl ?_
  refine g_callVi (pc := 14) (Y' := mX3_holds) (As := []) (st := []) (k := 3) (i := 1) (qa79 K.2.1) gX4_canPassOn_X3_holds rfl (show 1 < 24 by omega) rfl rfl (na := 0) rfl (by decide +kernel) (by decide) (by decide) (Nat.le_of_ble_eq_true rfl) dX4_canPassOn_14 (fun r1 g1 hp => ?_)
  obtain ⟨h1, rfl⟩ := hp
  cases h1
  refine g_if_eq (pc := 17) 53 dX4_canPassOn_17 (by decide) (by decide) (fun _ => ?_) (fun h => absurd (by decide) h)
  refine g_iconst (pc := 53) (v := 0) dX4_canPassOn_53 (by decide +kernel) ?_
  exact g_iret (pc := 54) dX4_canPassOn_54 ⟨mg_narZ (by decide), Or.inr rfl⟩ ⟨rfl, rfl⟩
/-- X3_pointsAway(r3.1) at qms6 -/
theorem qa99 (l : Launch) {D : va_G} {E : mg_E} {B : Nat} : mg_C l (D, E, true, B) mX3_pointsAway [rv (D, E, true, B) 3 1] qms6 (fun v g' => v = some 1 ∧ g' = qms6) := by
  refine mg_C.of (by decide) rfl (Nat.le_of_ble_eq_true rfl) (List.forall_mem_cons.mpr ⟨rfl, (fun _ h => nomatch h)⟩) (fun K => ?_)
  refine g_aload_n (pc := 0) dX3_pointsAway_0 rfl ?_
  refine fg_X3_pointsAway_25 (pc := 1) (show 1 < 24 by omega) dX3_pointsAway_1 ?_
  refine g_top (b := 0) (by decide +kernel) ?_
  refine g_aload_n (pc := 4) dX3_pointsAway_4 rfl ?_
  refine fg_X3_pointsAway_18 (pc := 5) (show 1 < 24 by omega) dX3_pointsAway_5 ?_
  refine g_icmp_eq (pc := 8) 24 dX3_pointsAway_8 (by decide) (by decide) (by decide) (fun h => absurd h (by decide)) (fun _ => ?_)
  refine g_aload_n (pc := 11) dX3_pointsAway_11 rfl ?_
  refine fg_X3_pointsAway_25 (pc := 12) (show 1 < 24 by omega) dX3_pointsAway_12 ?_
  refine g_top (b := 0) (by decide +kernel) ?_
  refine g_bipush (pc := 15) (v := 4294967294) dX3_pointsAway_15 (by decide +kernel) ?_
  refine g_icmp_eq (pc := 17) 24 dX3_pointsAway_17 (by decide) (by decide) (by decide) (fun h => absurd h (by decide)) (fun _ => ?_)
  refine g_iconst (pc := 20) (v := 1) dX3_pointsAway_20 (by decide +kernel) ?_
  refine g_goto (pc := 21) 25 dX3_pointsAway_21 (by decide) ?_
  exact g_iret (pc := 25) dX3_pointsAway_25 ⟨mg_narZ (by decide), Or.inr rfl⟩ ⟨rfl, rfl⟩
/-- X4_step(r4.0, 1) at qms6 -/
theorem qa100 (l : Launch) {D : va_G} {E : mg_E} {B : Nat} : mg_C l (D, E, true, B) mX4_step [rv (D, E, true, B) 4 0, iv 1] qms6 (fun v g' => v = some 0 ∧ g' = qms6) := by
  refine mg_C.of (by decide) rfl (Nat.le_of_ble_eq_true rfl) (List.forall_mem_cons.mpr ⟨rfl, (List.forall_mem_cons.mpr ⟨rfl, (fun _ h => nomatch h)⟩)⟩) (fun K => ?_)
  refine g_aload_n (pc := 0) dX4_step_0 rfl ?_
  refine g_iload_n (pc := 1) dX4_step_1 rfl ?_
  refine g_callVi (pc := 2) (Y' := mX4_isUp) (As := [iv 1]) (st := []) (k := 4) (i := 0) (qa51 K.2.1) gX4_step_X4_isUp rfl (show 0 < 1 by omega) rfl rfl (na := 1) rfl (by decide +kernel) (by decide) (by decide) (Nat.le_of_ble_eq_true rfl) dX4_step_2 (fun r1 g1 hp => ?_)
  obtain ⟨h1, rfl⟩ := hp
  cases h1
  refine g_if_ne (pc := 5) 10 dX4_step_5 (by decide) (by decide) (fun _ => ?_) (fun h => absurd h (by decide))
  refine g_aload_n (pc := 10) dX4_step_10 rfl ?_
  refine fg_X4_step_18 (pc := 11) dX4_step_11 ?_
  refine g_iload_n (pc := 14) dX4_step_14 rfl ?_
  refine g_aastation (pc := 15) (a := 1) (by decide) dX4_step_15 ?_
  refine g_astore_n (pc := 16) (ls' := [rv (D, E, true, B) 4 0, iv 1, rv (D, E, true, B) 3 1]) dX4_step_16 (Nat.le_of_ble_eq_true rfl) (Nat.le_of_ble_eq_true rfl) rfl ?_
  refine g_aload_n (pc := 17) dX4_step_17 rfl ?_
  refine g_aload_n (pc := 18) dX4_step_18 rfl ?_
  refine g_callVi (pc := 19) (Y' := mX4_canPassOn) (As := [rv (D, E, true, B) 3 1]) (st := []) (k := 4) (i := 0) (qa98 K.2.1) gX4_step_X4_canPassOn rfl (show 0 < 1 by omega) rfl rfl (na := 1) rfl (by decide +kernel) (by decide) (by decide) (Nat.le_of_ble_eq_true rfl) dX4_step_19 (fun r1 g1 hp => ?_)
  obtain ⟨h1, rfl⟩ := hp
  cases h1
  refine g_if_eq (pc := 22) 32 dX4_step_22 (by decide) (by decide) (fun _ => ?_) (fun h => absurd (by decide) h)
  refine g_aload_n (pc := 32) dX4_step_32 rfl ?_
  refine g_callVi (pc := 33) (Y' := mX3_pointsAway) (As := []) (st := []) (k := 3) (i := 1) (qa99 K.2.1) gX4_step_X3_pointsAway rfl (show 1 < 24 by omega) rfl rfl (na := 0) rfl (by decide +kernel) (by decide) (by decide) (Nat.le_of_ble_eq_true rfl) dX4_step_33 (fun r1 g1 hp => ?_)
  obtain ⟨h1, rfl⟩ := hp
  cases h1
  refine g_if_eq (pc := 36) 49 dX4_step_36 (by decide) (by decide) (fun h => absurd h (by decide)) (fun _ => ?_)
  refine g_aload_n (pc := 39) dX4_step_39 rfl ?_
  refine fg_X4_step_118 (pc := 40) (show 1 < 24 by omega) dX4_step_40 ?_
  refine fg_X4_step_133 (pc := 43) (show 1 < 24 by omega) dX4_step_43 ?_
  refine g_top (b := 0) (by decide +kernel) ?_
  refine g_if_ne (pc := 46) 51 dX4_step_46 (by decide) (by decide) (fun h => absurd (by decide) h) (fun _ => ?_)
  refine g_iconst (pc := 49) (v := 0) dX4_step_49 (by decide +kernel) ?_
  exact g_iret (pc := 50) dX4_step_50 ⟨mg_narI _, Or.inl rfl⟩ ⟨rfl, rfl⟩
/-- X5_step(r5.0, 1) at qms6 -/
theorem qa101 (l : Launch) {D : va_G} {E : mg_E} {B : Nat} : mg_C l (D, E, true, B) mX5_step [rv (D, E, true, B) 5 0, iv 1] qms6 (fun v g' => v = some 0 ∧ g' = qms6) := by
  refine mg_C.of (by decide) rfl (Nat.le_of_ble_eq_true rfl) (List.forall_mem_cons.mpr ⟨rfl, (List.forall_mem_cons.mpr ⟨rfl, (fun _ h => nomatch h)⟩)⟩) (fun K => ?_)
  refine g_aload_n (pc := 0) dX5_step_0 rfl ?_
  refine g_iload_n (pc := 1) dX5_step_1 rfl ?_
  refine g_callVi (pc := 2) (Y' := mX5_isUp) (As := [iv 1]) (st := []) (k := 5) (i := 0) (qa54 K.2.1) gX5_step_X5_isUp rfl (show 0 < 1 by omega) rfl rfl (na := 1) rfl (by decide +kernel) (by decide) (by decide) (Nat.le_of_ble_eq_true rfl) dX5_step_2 (fun r1 g1 hp => ?_)
  obtain ⟨h1, rfl⟩ := hp
  cases h1
  refine g_if_ne (pc := 5) 10 dX5_step_5 (by decide) (by decide) (fun _ => ?_) (fun h => absurd h (by decide))
  refine g_aload_n (pc := 10) dX5_step_10 rfl ?_
  refine fg_X5_step_41 (pc := 11) (by rfl) dX5_step_11 ?_
  refine g_iload_n (pc := 14) dX5_step_14 rfl ?_
  refine g_iaload (pc := 15) (k := 46) (i := 0) (n := 24) (show 0 < 1 by omega) rfl (by decide) (by decide) dX5_step_15 ?_
  refine g_top (b := 0) (by decide +kernel) ?_
  refine g_if_ne (pc := 16) 21 dX5_step_16 (by decide) (by decide) (fun h => absurd (by decide) h) (fun _ => ?_)
  refine g_iconst (pc := 19) (v := 0) dX5_step_19 (by decide +kernel) ?_
  exact g_iret (pc := 20) dX5_step_20 ⟨mg_narI _, Or.inl rfl⟩ ⟨rfl, rfl⟩
/-- X4_isCopy(r4.0, a[2147483648,4294967295]) at qms6 -/
theorem qa102 (l : Launch) {D : va_G} {E : mg_E} {B : Nat} (a : Nat) (h_a : 2147483648 ≤ a) (k_a : a ≤ 4294967295) : mg_C l (D, E, true, B) mX4_isCopy [rv (D, E, true, B) 4 0, iv a] qms6 (fun v g' => v = some 0 ∧ g' = qms6) := by
  refine mg_C.of (by decide) rfl (Nat.le_of_ble_eq_true rfl) (List.forall_mem_cons.mpr ⟨rfl, (List.forall_mem_cons.mpr ⟨rfl, (fun _ h => nomatch h)⟩)⟩) (fun K => ?_)
  refine g_aload_n (pc := 0) dX4_isCopy_0 rfl ?_
  refine fg_X4_isCopy_55 (pc := 1) dX4_isCopy_1 ?_
  refine g_top (b := 1) (by decide +kernel) ?_
  refine g_if_eq (pc := 4) 26 dX4_isCopy_4 (by decide) (by decide) (fun h => absurd h (by decide)) (fun _ => ?_)
  refine g_iload_n (pc := 7) dX4_isCopy_7 rfl ?_
  refine g_sif_lt (pc := 8) 26 dX4_isCopy_8 (by decide) (by omega) (fun _ => ?_) (fun h => absurd (by have q := mg_sgn h_a (by omega : a < 4294967296); omega) h)
  refine g_iconst (pc := 26) (v := 0) dX4_isCopy_26 (by decide +kernel) ?_
  exact g_iret (pc := 27) dX4_isCopy_27 ⟨mg_narZ (by decide), Or.inr rfl⟩ ⟨rfl, rfl⟩
/-- X4_deliver(r4.0, a[2147483648,4294967295]) at qms6 -/
theorem qa103 (l : Launch) {D : va_G} {E : mg_E} {B : Nat} (a : Nat) (h_a : 2147483648 ≤ a) (k_a : a ≤ 4294967295) : mg_C l (D, E, true, B) mX4_deliver [rv (D, E, true, B) 4 0, iv a] qms6 (fun v g' => v = some 4294967295 ∧ g' = qms6) := by
  refine mg_C.of (by decide) rfl (Nat.le_of_ble_eq_true rfl) (List.forall_mem_cons.mpr ⟨rfl, (List.forall_mem_cons.mpr ⟨rfl, (fun _ h => nomatch h)⟩)⟩) (fun K => ?_)
  refine g_aload_n (pc := 0) dX4_deliver_0 rfl ?_
  refine g_iload_n (pc := 1) dX4_deliver_1 rfl ?_
  refine g_callVi (pc := 2) (Y' := mX4_isCopy) (As := [iv a]) (st := []) (k := 4) (i := 0) (qa102 K.2.1 a h_a k_a) gX4_deliver_X4_isCopy rfl (show 0 < 1 by omega) rfl rfl (na := 1) rfl (by decide +kernel) (by decide) (by decide) (Nat.le_of_ble_eq_true rfl) dX4_deliver_2 (fun r1 g1 hp => ?_)
  obtain ⟨h1, rfl⟩ := hp
  cases h1
  refine g_if_ne (pc := 5) 10 dX4_deliver_5 (by decide) (by decide) (fun h => absurd (by decide) h) (fun _ => ?_)
  refine g_iconst (pc := 8) (v := 4294967295) dX4_deliver_8 (by decide +kernel) ?_
  exact g_iret (pc := 9) dX4_deliver_9 ⟨mg_narI _, Or.inl rfl⟩ ⟨rfl, rfl⟩
/-- X5_deliver(r5.0, a[2147483648,4294967295]) at qms6 -/
theorem qa104 (l : Launch) {D : va_G} {E : mg_E} {B : Nat} (a : Nat) (h_a : 2147483648 ≤ a) (k_a : a ≤ 4294967295) : mg_C l (D, E, true, B) mX5_deliver [rv (D, E, true, B) 5 0, iv a] qms6 (fun v g' => v = some 4294967295 ∧ g' = qms6) := by
  refine mg_C.of (by decide) rfl (Nat.le_of_ble_eq_true rfl) (List.forall_mem_cons.mpr ⟨rfl, (List.forall_mem_cons.mpr ⟨rfl, (fun _ h => nomatch h)⟩)⟩) (fun K => ?_)
  refine g_aload_n (pc := 0) dX5_deliver_0 rfl ?_
  refine fg_X5_deliver_105 (pc := 1) (by rfl) dX5_deliver_1 ?_
  refine g_top (b := 1) (by decide +kernel) ?_
  refine g_if_eq (pc := 4) 19 dX5_deliver_4 (by decide) (by decide) (fun h => absurd h (by decide)) (fun _ => ?_)
  refine g_iload_n (pc := 7) dX5_deliver_7 rfl ?_
  refine g_sif_lt (pc := 8) 19 dX5_deliver_8 (by decide) (by omega) (fun _ => ?_) (fun h => absurd (by have q := mg_sgn h_a (by omega : a < 4294967296); omega) h)
  refine g_iconst (pc := 19) (v := 4294967295) dX5_deliver_19 (by decide +kernel) ?_
  exact g_iret (pc := 20) dX5_deliver_20 ⟨mg_narI _, Or.inl rfl⟩ ⟨rfl, rfl⟩
/-- X4_isCopy(r4.0, a[0,2147483647]) at qms6 -/
theorem qa105 (l : Launch) {D : va_G} {E : mg_E} {B : Nat} (a : Nat) (h_a : 0 ≤ a) (k_a : a ≤ 2147483647) : mg_C l (D, E, true, B) mX4_isCopy [rv (D, E, true, B) 4 0, iv a] qms6 (fun v g' => v = some 0 ∧ g' = qms6) := by
  refine mg_C.of (by decide) rfl (Nat.le_of_ble_eq_true rfl) (List.forall_mem_cons.mpr ⟨rfl, (List.forall_mem_cons.mpr ⟨rfl, (fun _ h => nomatch h)⟩)⟩) (fun K => ?_)
  refine g_aload_n (pc := 0) dX4_isCopy_0 rfl ?_
  refine fg_X4_isCopy_55 (pc := 1) dX4_isCopy_1 ?_
  refine g_top (b := 1) (by decide +kernel) ?_
  refine g_if_eq (pc := 4) 26 dX4_isCopy_4 (by decide) (by decide) (fun h => absurd h (by decide)) (fun _ => ?_)
  refine g_iload_n (pc := 7) dX4_isCopy_7 rfl ?_
  refine g_sif_lt (pc := 8) 26 dX4_isCopy_8 (by decide) (by omega) (fun h => absurd h (by have q := mg_sgs (a := a) (by omega); omega)) (fun _ => ?_)
  refine g_iload_n (pc := 11) dX4_isCopy_11 rfl ?_
  refine g_aload_n (pc := 12) dX4_isCopy_12 rfl ?_
  refine fg_X4_isCopy_31 (pc := 13) dX4_isCopy_13 ?_
  refine fg_X4_isCopy_94 (pc := 16) (show 1 < 2 by omega) dX4_isCopy_16 ?_
  refine g_top (b := 0) (by decide +kernel) ?_
  refine g_icmp_ge (pc := 19) 26 dX4_isCopy_19 (by decide) (by omega) (by decide) (fun _ => ?_) (fun h => absurd (by omega) h)
  refine g_iconst (pc := 26) (v := 0) dX4_isCopy_26 (by decide +kernel) ?_
  exact g_iret (pc := 27) dX4_isCopy_27 ⟨mg_narZ (by decide), Or.inr rfl⟩ ⟨rfl, rfl⟩
/-- X4_deliver(r4.0, a[0,2147483647]) at qms6 -/
theorem qa106 (l : Launch) {D : va_G} {E : mg_E} {B : Nat} (a : Nat) (h_a : 0 ≤ a) (k_a : a ≤ 2147483647) : mg_C l (D, E, true, B) mX4_deliver [rv (D, E, true, B) 4 0, iv a] qms6 (fun v g' => v = some 4294967295 ∧ g' = qms6) := by
  refine mg_C.of (by decide) rfl (Nat.le_of_ble_eq_true rfl) (List.forall_mem_cons.mpr ⟨rfl, (List.forall_mem_cons.mpr ⟨rfl, (fun _ h => nomatch h)⟩)⟩) (fun K => ?_)
  refine g_aload_n (pc := 0) dX4_deliver_0 rfl ?_
  refine g_iload_n (pc := 1) dX4_deliver_1 rfl ?_
  refine g_callVi (pc := 2) (Y' := mX4_isCopy) (As := [iv a]) (st := []) (k := 4) (i := 0) (qa105 K.2.1 a h_a k_a) gX4_deliver_X4_isCopy rfl (show 0 < 1 by omega) rfl rfl (na := 1) rfl (by decide +kernel) (by decide) (by decide) (Nat.le_of_ble_eq_true rfl) dX4_deliver_2 (fun r1 g1 hp => ?_)
  obtain ⟨h1, rfl⟩ := hp
  cases h1
  refine g_if_ne (pc := 5) 10 dX4_deliver_5 (by decide) (by decide) (fun h => absurd (by decide) h) (fun _ => ?_)
  refine g_iconst (pc := 8) (v := 4294967295) dX4_deliver_8 (by decide +kernel) ?_
  exact g_iret (pc := 9) dX4_deliver_9 ⟨mg_narI _, Or.inl rfl⟩ ⟨rfl, rfl⟩
/-- X5_deliver(r5.0, a[0,2147483647]) at qms6 -/
theorem qa107 (l : Launch) {D : va_G} {E : mg_E} {B : Nat} (a : Nat) (h_a : 0 ≤ a) (k_a : a ≤ 2147483647) : mg_C l (D, E, true, B) mX5_deliver [rv (D, E, true, B) 5 0, iv a] qms6 (fun v g' => v = some 4294967295 ∧ g' = qms6) := by
  refine mg_C.of (by decide) rfl (Nat.le_of_ble_eq_true rfl) (List.forall_mem_cons.mpr ⟨rfl, (List.forall_mem_cons.mpr ⟨rfl, (fun _ h => nomatch h)⟩)⟩) (fun K => ?_)
  refine g_aload_n (pc := 0) dX5_deliver_0 rfl ?_
  refine fg_X5_deliver_105 (pc := 1) (by rfl) dX5_deliver_1 ?_
  refine g_top (b := 1) (by decide +kernel) ?_
  refine g_if_eq (pc := 4) 19 dX5_deliver_4 (by decide) (by decide) (fun h => absurd h (by decide)) (fun _ => ?_)
  refine g_iload_n (pc := 7) dX5_deliver_7 rfl ?_
  refine g_sif_lt (pc := 8) 19 dX5_deliver_8 (by decide) (by omega) (fun h => absurd h (by have q := mg_sgs (a := a) (by omega); omega)) (fun _ => ?_)
  refine g_iload_n (pc := 11) dX5_deliver_11 rfl ?_
  refine g_aload_n (pc := 12) dX5_deliver_12 rfl ?_
  refine fg_X5_deliver_136 (pc := 13) (by rfl) dX5_deliver_13 ?_
  refine g_top (b := 0) (by decide +kernel) ?_
  refine g_icmp_lt (pc := 16) 21 dX5_deliver_16 (by decide) (by omega) (by decide) (fun h => absurd h (by omega)) (fun _ => ?_)
  refine g_iconst (pc := 19) (v := 4294967295) dX5_deliver_19 (by decide +kernel) ?_
  exact g_iret (pc := 20) dX5_deliver_20 ⟨mg_narI _, Or.inl rfl⟩ ⟨rfl, rfl⟩
/-- X4_lose(r4.0, a[2147483648,4294967295]) at qms6 -/
theorem qa108 (l : Launch) {D : va_G} {E : mg_E} {B : Nat} (a : Nat) (h_a : 2147483648 ≤ a) (k_a : a ≤ 4294967295) : mg_C l (D, E, true, B) mX4_lose [rv (D, E, true, B) 4 0, iv a] qms6 (fun v g' => v = some 4294967295 ∧ g' = qms6) := by
  refine mg_C.of (by decide) rfl (Nat.le_of_ble_eq_true rfl) (List.forall_mem_cons.mpr ⟨rfl, (List.forall_mem_cons.mpr ⟨rfl, (fun _ h => nomatch h)⟩)⟩) (fun K => ?_)
  refine g_aload_n (pc := 0) dX4_lose_0 rfl ?_
  refine g_iload_n (pc := 1) dX4_lose_1 rfl ?_
  refine g_callVi (pc := 2) (Y' := mX4_isCopy) (As := [iv a]) (st := []) (k := 4) (i := 0) (qa102 K.2.1 a h_a k_a) gX4_lose_X4_isCopy rfl (show 0 < 1 by omega) rfl rfl (na := 1) rfl (by decide +kernel) (by decide) (by decide) (Nat.le_of_ble_eq_true rfl) dX4_lose_2 (fun r1 g1 hp => ?_)
  obtain ⟨h1, rfl⟩ := hp
  cases h1
  refine g_if_ne (pc := 5) 10 dX4_lose_5 (by decide) (by decide) (fun h => absurd (by decide) h) (fun _ => ?_)
  refine g_iconst (pc := 8) (v := 4294967295) dX4_lose_8 (by decide +kernel) ?_
  exact g_iret (pc := 9) dX4_lose_9 ⟨mg_narI _, Or.inl rfl⟩ ⟨rfl, rfl⟩
/-- X5_lose(r5.0, a[2147483648,4294967295]) at qms6 -/
theorem qa109 (l : Launch) {D : va_G} {E : mg_E} {B : Nat} (a : Nat) (h_a : 2147483648 ≤ a) (k_a : a ≤ 4294967295) : mg_C l (D, E, true, B) mX5_lose [rv (D, E, true, B) 5 0, iv a] qms6 (fun v g' => v = some 4294967295 ∧ g' = qms6) := by
  refine mg_C.of (by decide) rfl (Nat.le_of_ble_eq_true rfl) (List.forall_mem_cons.mpr ⟨rfl, (List.forall_mem_cons.mpr ⟨rfl, (fun _ h => nomatch h)⟩)⟩) (fun K => ?_)
  refine g_aload_n (pc := 0) dX5_lose_0 rfl ?_
  refine fg_X5_lose_105 (pc := 1) (by rfl) dX5_lose_1 ?_
  refine g_top (b := 1) (by decide +kernel) ?_
  refine g_if_eq (pc := 4) 19 dX5_lose_4 (by decide) (by decide) (fun h => absurd h (by decide)) (fun _ => ?_)
  refine g_iload_n (pc := 7) dX5_lose_7 rfl ?_
  refine g_sif_lt (pc := 8) 19 dX5_lose_8 (by decide) (by omega) (fun _ => ?_) (fun h => absurd (by have q := mg_sgn h_a (by omega : a < 4294967296); omega) h)
  refine g_iconst (pc := 19) (v := 4294967295) dX5_lose_19 (by decide +kernel) ?_
  exact g_iret (pc := 20) dX5_lose_20 ⟨mg_narI _, Or.inl rfl⟩ ⟨rfl, rfl⟩
/-- X4_lose(r4.0, a[0,2147483647]) at qms6 -/
theorem qa110 (l : Launch) {D : va_G} {E : mg_E} {B : Nat} (a : Nat) (h_a : 0 ≤ a) (k_a : a ≤ 2147483647) : mg_C l (D, E, true, B) mX4_lose [rv (D, E, true, B) 4 0, iv a] qms6 (fun v g' => v = some 4294967295 ∧ g' = qms6) := by
  refine mg_C.of (by decide) rfl (Nat.le_of_ble_eq_true rfl) (List.forall_mem_cons.mpr ⟨rfl, (List.forall_mem_cons.mpr ⟨rfl, (fun _ h => nomatch h)⟩)⟩) (fun K => ?_)
  refine g_aload_n (pc := 0) dX4_lose_0 rfl ?_
  refine g_iload_n (pc := 1) dX4_lose_1 rfl ?_
  refine g_callVi (pc := 2) (Y' := mX4_isCopy) (As := [iv a]) (st := []) (k := 4) (i := 0) (qa105 K.2.1 a h_a k_a) gX4_lose_X4_isCopy rfl (show 0 < 1 by omega) rfl rfl (na := 1) rfl (by decide +kernel) (by decide) (by decide) (Nat.le_of_ble_eq_true rfl) dX4_lose_2 (fun r1 g1 hp => ?_)
  obtain ⟨h1, rfl⟩ := hp
  cases h1
  refine g_if_ne (pc := 5) 10 dX4_lose_5 (by decide) (by decide) (fun h => absurd (by decide) h) (fun _ => ?_)
  refine g_iconst (pc := 8) (v := 4294967295) dX4_lose_8 (by decide +kernel) ?_
  exact g_iret (pc := 9) dX4_lose_9 ⟨mg_narI _, Or.inl rfl⟩ ⟨rfl, rfl⟩
/-- X5_lose(r5.0, a[0,2147483647]) at qms6 -/
theorem qa111 (l : Launch) {D : va_G} {E : mg_E} {B : Nat} (a : Nat) (h_a : 0 ≤ a) (k_a : a ≤ 2147483647) : mg_C l (D, E, true, B) mX5_lose [rv (D, E, true, B) 5 0, iv a] qms6 (fun v g' => v = some 4294967295 ∧ g' = qms6) := by
  refine mg_C.of (by decide) rfl (Nat.le_of_ble_eq_true rfl) (List.forall_mem_cons.mpr ⟨rfl, (List.forall_mem_cons.mpr ⟨rfl, (fun _ h => nomatch h)⟩)⟩) (fun K => ?_)
  refine g_aload_n (pc := 0) dX5_lose_0 rfl ?_
  refine fg_X5_lose_105 (pc := 1) (by rfl) dX5_lose_1 ?_
  refine g_top (b := 1) (by decide +kernel) ?_
  refine g_if_eq (pc := 4) 19 dX5_lose_4 (by decide) (by decide) (fun h => absurd h (by decide)) (fun _ => ?_)
  refine g_iload_n (pc := 7) dX5_lose_7 rfl ?_
  refine g_sif_lt (pc := 8) 19 dX5_lose_8 (by decide) (by omega) (fun h => absurd h (by have q := mg_sgs (a := a) (by omega); omega)) (fun _ => ?_)
  refine g_iload_n (pc := 11) dX5_lose_11 rfl ?_
  refine g_aload_n (pc := 12) dX5_lose_12 rfl ?_
  refine fg_X5_lose_136 (pc := 13) (by rfl) dX5_lose_13 ?_
  refine g_top (b := 0) (by decide +kernel) ?_
  refine g_icmp_lt (pc := 16) 21 dX5_lose_16 (by decide) (by omega) (by decide) (fun h => absurd h (by omega)) (fun _ => ?_)
  refine g_iconst (pc := 19) (v := 4294967295) dX5_lose_19 (by decide +kernel) ?_
  exact g_iret (pc := 20) dX5_lose_20 ⟨mg_narI _, Or.inl rfl⟩ ⟨rfl, rfl⟩
/-- X4_twin(r4.0, a[2147483648,4294967295]) at qms6 -/
theorem qa112 (l : Launch) {D : va_G} {E : mg_E} {B : Nat} (a : Nat) (h_a : 2147483648 ≤ a) (k_a : a ≤ 4294967295) : mg_C l (D, E, true, B) mX4_twin [rv (D, E, true, B) 4 0, iv a] qms6 (fun v g' => v = some 4294967295 ∧ g' = qms6) := by
  refine mg_C.of (by decide) rfl (Nat.le_of_ble_eq_true rfl) (List.forall_mem_cons.mpr ⟨rfl, (List.forall_mem_cons.mpr ⟨rfl, (fun _ h => nomatch h)⟩)⟩) (fun K => ?_)
  refine g_aload_n (pc := 0) dX4_twin_0 rfl ?_
  refine g_iload_n (pc := 1) dX4_twin_1 rfl ?_
  refine g_callVi (pc := 2) (Y' := mX4_isCopy) (As := [iv a]) (st := []) (k := 4) (i := 0) (qa102 K.2.1 a h_a k_a) gX4_twin_X4_isCopy rfl (show 0 < 1 by omega) rfl rfl (na := 1) rfl (by decide +kernel) (by decide) (by decide) (Nat.le_of_ble_eq_true rfl) dX4_twin_2 (fun r1 g1 hp => ?_)
  obtain ⟨h1, rfl⟩ := hp
  cases h1
  refine g_if_eq (pc := 5) 20 dX4_twin_5 (by decide) (by decide) (fun _ => ?_) (fun h => absurd (by decide) h)
  refine g_iconst (pc := 20) (v := 4294967295) dX4_twin_20 (by decide +kernel) ?_
  exact g_iret (pc := 21) dX4_twin_21 ⟨mg_narI _, Or.inl rfl⟩ ⟨rfl, rfl⟩
/-- X5_twin(r5.0, a[2147483648,4294967295]) at qms6 -/
theorem qa113 (l : Launch) {D : va_G} {E : mg_E} {B : Nat} (a : Nat) (h_a : 2147483648 ≤ a) (k_a : a ≤ 4294967295) : mg_C l (D, E, true, B) mX5_twin [rv (D, E, true, B) 5 0, iv a] qms6 (fun v g' => v = some 4294967295 ∧ g' = qms6) := by
  refine mg_C.of (by decide) rfl (Nat.le_of_ble_eq_true rfl) (List.forall_mem_cons.mpr ⟨rfl, (List.forall_mem_cons.mpr ⟨rfl, (fun _ h => nomatch h)⟩)⟩) (fun K => ?_)
  refine g_aload_n (pc := 0) dX5_twin_0 rfl ?_
  refine fg_X5_twin_105 (pc := 1) (by rfl) dX5_twin_1 ?_
  refine g_top (b := 1) (by decide +kernel) ?_
  refine g_if_eq (pc := 4) 28 dX5_twin_4 (by decide) (by decide) (fun h => absurd h (by decide)) (fun _ => ?_)
  refine g_iload_n (pc := 7) dX5_twin_7 rfl ?_
  refine g_sif_lt (pc := 8) 28 dX5_twin_8 (by decide) (by omega) (fun _ => ?_) (fun h => absurd (by have q := mg_sgn h_a (by omega : a < 4294967296); omega) h)
  refine g_iconst (pc := 28) (v := 4294967295) dX5_twin_28 (by decide +kernel) ?_
  exact g_iret (pc := 29) dX5_twin_29 ⟨mg_narI _, Or.inl rfl⟩ ⟨rfl, rfl⟩
/-- X4_twin(r4.0, a[0,2147483647]) at qms6 -/
theorem qa114 (l : Launch) {D : va_G} {E : mg_E} {B : Nat} (a : Nat) (h_a : 0 ≤ a) (k_a : a ≤ 2147483647) : mg_C l (D, E, true, B) mX4_twin [rv (D, E, true, B) 4 0, iv a] qms6 (fun v g' => v = some 4294967295 ∧ g' = qms6) := by
  refine mg_C.of (by decide) rfl (Nat.le_of_ble_eq_true rfl) (List.forall_mem_cons.mpr ⟨rfl, (List.forall_mem_cons.mpr ⟨rfl, (fun _ h => nomatch h)⟩)⟩) (fun K => ?_)
  refine g_aload_n (pc := 0) dX4_twin_0 rfl ?_
  refine g_iload_n (pc := 1) dX4_twin_1 rfl ?_
  refine g_callVi (pc := 2) (Y' := mX4_isCopy) (As := [iv a]) (st := []) (k := 4) (i := 0) (qa105 K.2.1 a h_a k_a) gX4_twin_X4_isCopy rfl (show 0 < 1 by omega) rfl rfl (na := 1) rfl (by decide +kernel) (by decide) (by decide) (Nat.le_of_ble_eq_true rfl) dX4_twin_2 (fun r1 g1 hp => ?_)
  obtain ⟨h1, rfl⟩ := hp
  cases h1
  refine g_if_eq (pc := 5) 20 dX4_twin_5 (by decide) (by decide) (fun _ => ?_) (fun h => absurd (by decide) h)
  refine g_iconst (pc := 20) (v := 4294967295) dX4_twin_20 (by decide +kernel) ?_
  exact g_iret (pc := 21) dX4_twin_21 ⟨mg_narI _, Or.inl rfl⟩ ⟨rfl, rfl⟩
/-- X5_twin(r5.0, a[0,2147483647]) at qms6 -/
theorem qa115 (l : Launch) {D : va_G} {E : mg_E} {B : Nat} (a : Nat) (h_a : 0 ≤ a) (k_a : a ≤ 2147483647) : mg_C l (D, E, true, B) mX5_twin [rv (D, E, true, B) 5 0, iv a] qms6 (fun v g' => v = some 4294967295 ∧ g' = qms6) := by
  refine mg_C.of (by decide) rfl (Nat.le_of_ble_eq_true rfl) (List.forall_mem_cons.mpr ⟨rfl, (List.forall_mem_cons.mpr ⟨rfl, (fun _ h => nomatch h)⟩)⟩) (fun K => ?_)
  refine g_aload_n (pc := 0) dX5_twin_0 rfl ?_
  refine fg_X5_twin_105 (pc := 1) (by rfl) dX5_twin_1 ?_
  refine g_top (b := 1) (by decide +kernel) ?_
  refine g_if_eq (pc := 4) 28 dX5_twin_4 (by decide) (by decide) (fun h => absurd h (by decide)) (fun _ => ?_)
  refine g_iload_n (pc := 7) dX5_twin_7 rfl ?_
  refine g_sif_lt (pc := 8) 28 dX5_twin_8 (by decide) (by omega) (fun h => absurd h (by have q := mg_sgs (a := a) (by omega); omega)) (fun _ => ?_)
  refine g_iload_n (pc := 11) dX5_twin_11 rfl ?_
  refine g_aload_n (pc := 12) dX5_twin_12 rfl ?_
  refine fg_X5_twin_136 (pc := 13) (by rfl) dX5_twin_13 ?_
  refine g_top (b := 0) (by decide +kernel) ?_
  refine g_icmp_ge (pc := 16) 28 dX5_twin_16 (by decide) (by omega) (by decide) (fun _ => ?_) (fun h => absurd (by omega) h)
  refine g_iconst (pc := 28) (v := 4294967295) dX5_twin_28 (by decide +kernel) ?_
  exact g_iret (pc := 29) dX5_twin_29 ⟨mg_narI _, Or.inl rfl⟩ ⟨rfl, rfl⟩
/-- X4_resend(r4.0, a[2147483648,4294967295]) at qms6 -/
theorem qa116 (l : Launch) {D : va_G} {E : mg_E} {B : Nat} (a : Nat) (h_a : 2147483648 ≤ a) (k_a : a ≤ 4294967295) : mg_C l (D, E, true, B) mX4_resend [rv (D, E, true, B) 4 0, iv a] qms6 (fun v g' => v = some 4294967295 ∧ g' = qms6) := by
  refine mg_C.of (by decide) rfl (Nat.le_of_ble_eq_true rfl) (List.forall_mem_cons.mpr ⟨rfl, (List.forall_mem_cons.mpr ⟨rfl, (fun _ h => nomatch h)⟩)⟩) (fun K => ?_)
  refine g_aload_n (pc := 0) dX4_resend_0 rfl ?_
  refine g_iload_n (pc := 1) dX4_resend_1 rfl ?_
  refine g_callVi (pc := 2) (Y' := mX4_isUp) (As := [iv a]) (st := []) (k := 4) (i := 0) (qa16 K.2.1 a h_a k_a) gX4_resend_X4_isUp rfl (show 0 < 1 by omega) rfl rfl (na := 1) rfl (by decide +kernel) (by decide) (by decide) (Nat.le_of_ble_eq_true rfl) dX4_resend_2 (fun r1 g1 hp => ?_)
  obtain ⟨h1, rfl⟩ := hp
  cases h1
  refine g_if_ne (pc := 5) 10 dX4_resend_5 (by decide) (by decide) (fun h => absurd (by decide) h) (fun _ => ?_)
  refine g_iconst (pc := 8) (v := 4294967295) dX4_resend_8 (by decide +kernel) ?_
  exact g_iret (pc := 9) dX4_resend_9 ⟨mg_narI _, Or.inl rfl⟩ ⟨rfl, rfl⟩
/-- X5_resend(r5.0, a[2147483648,4294967295]) at qms6 -/
theorem qa117 (l : Launch) {D : va_G} {E : mg_E} {B : Nat} (a : Nat) (h_a : 2147483648 ≤ a) (k_a : a ≤ 4294967295) : mg_C l (D, E, true, B) mX5_resend [rv (D, E, true, B) 5 0, iv a] qms6 (fun v g' => v = some 4294967295 ∧ g' = qms6) := by
  refine mg_C.of (by decide) rfl (Nat.le_of_ble_eq_true rfl) (List.forall_mem_cons.mpr ⟨rfl, (List.forall_mem_cons.mpr ⟨rfl, (fun _ h => nomatch h)⟩)⟩) (fun K => ?_)
  refine g_aload_n (pc := 0) dX5_resend_0 rfl ?_
  refine g_iload_n (pc := 1) dX5_resend_1 rfl ?_
  refine g_callVi (pc := 2) (Y' := mX5_isUp) (As := [iv a]) (st := []) (k := 5) (i := 0) (qa19 K.2.1 a h_a k_a) gX5_resend_X5_isUp rfl (show 0 < 1 by omega) rfl rfl (na := 1) rfl (by decide +kernel) (by decide) (by decide) (Nat.le_of_ble_eq_true rfl) dX5_resend_2 (fun r1 g1 hp => ?_)
  obtain ⟨h1, rfl⟩ := hp
  cases h1
  refine g_if_ne (pc := 5) 10 dX5_resend_5 (by decide) (by decide) (fun h => absurd (by decide) h) (fun _ => ?_)
  refine g_iconst (pc := 8) (v := 4294967295) dX5_resend_8 (by decide +kernel) ?_
  exact g_iret (pc := 9) dX5_resend_9 ⟨mg_narI _, Or.inl rfl⟩ ⟨rfl, rfl⟩
/-- X4_resend(r4.0, a[2,2147483647]) at qms6 -/
theorem qa118 (l : Launch) {D : va_G} {E : mg_E} {B : Nat} (a : Nat) (h_a : 2 ≤ a) (k_a : a ≤ 2147483647) : mg_C l (D, E, true, B) mX4_resend [rv (D, E, true, B) 4 0, iv a] qms6 (fun v g' => v = some 4294967295 ∧ g' = qms6) := by
  refine mg_C.of (by decide) rfl (Nat.le_of_ble_eq_true rfl) (List.forall_mem_cons.mpr ⟨rfl, (List.forall_mem_cons.mpr ⟨rfl, (fun _ h => nomatch h)⟩)⟩) (fun K => ?_)
  refine g_aload_n (pc := 0) dX4_resend_0 rfl ?_
  refine g_iload_n (pc := 1) dX4_resend_1 rfl ?_
  refine g_callVi (pc := 2) (Y' := mX4_isUp) (As := [iv a]) (st := []) (k := 4) (i := 0) (qa23 K.2.1 a h_a k_a) gX4_resend_X4_isUp rfl (show 0 < 1 by omega) rfl rfl (na := 1) rfl (by decide +kernel) (by decide) (by decide) (Nat.le_of_ble_eq_true rfl) dX4_resend_2 (fun r1 g1 hp => ?_)
  obtain ⟨h1, rfl⟩ := hp
  cases h1
  refine g_if_ne (pc := 5) 10 dX4_resend_5 (by decide) (by decide) (fun h => absurd (by decide) h) (fun _ => ?_)
  refine g_iconst (pc := 8) (v := 4294967295) dX4_resend_8 (by decide +kernel) ?_
  exact g_iret (pc := 9) dX4_resend_9 ⟨mg_narI _, Or.inl rfl⟩ ⟨rfl, rfl⟩
/-- X5_resend(r5.0, a[2,2147483647]) at qms6 -/
theorem qa119 (l : Launch) {D : va_G} {E : mg_E} {B : Nat} (a : Nat) (h_a : 2 ≤ a) (k_a : a ≤ 2147483647) : mg_C l (D, E, true, B) mX5_resend [rv (D, E, true, B) 5 0, iv a] qms6 (fun v g' => v = some 4294967295 ∧ g' = qms6) := by
  refine mg_C.of (by decide) rfl (Nat.le_of_ble_eq_true rfl) (List.forall_mem_cons.mpr ⟨rfl, (List.forall_mem_cons.mpr ⟨rfl, (fun _ h => nomatch h)⟩)⟩) (fun K => ?_)
  refine g_aload_n (pc := 0) dX5_resend_0 rfl ?_
  refine g_iload_n (pc := 1) dX5_resend_1 rfl ?_
  refine g_callVi (pc := 2) (Y' := mX5_isUp) (As := [iv a]) (st := []) (k := 5) (i := 0) (qa26 K.2.1 a h_a k_a) gX5_resend_X5_isUp rfl (show 0 < 1 by omega) rfl rfl (na := 1) rfl (by decide +kernel) (by decide) (by decide) (Nat.le_of_ble_eq_true rfl) dX5_resend_2 (fun r1 g1 hp => ?_)
  obtain ⟨h1, rfl⟩ := hp
  cases h1
  refine g_if_ne (pc := 5) 10 dX5_resend_5 (by decide) (by decide) (fun h => absurd (by decide) h) (fun _ => ?_)
  refine g_iconst (pc := 8) (v := 4294967295) dX5_resend_8 (by decide +kernel) ?_
  exact g_iret (pc := 9) dX5_resend_9 ⟨mg_narI _, Or.inl rfl⟩ ⟨rfl, rfl⟩
/-- X1_firstBetween(r1.0, 0, 0) at qms6 -/
theorem qa120 (l : Launch) {D : va_G} {E : mg_E} {B : Nat} : mg_C l (D, E, true, B) mX1_firstBetween [rv (D, E, true, B) 1 0, iv 0, iv 0] qms6 (fun v g' => v = some 4294967294 ∧ g' = qms6) := by
  refine mg_C.of (by decide) rfl (Nat.le_of_ble_eq_true rfl) (List.forall_mem_cons.mpr ⟨rfl, (List.forall_mem_cons.mpr ⟨rfl, (List.forall_mem_cons.mpr ⟨rfl, (fun _ h => nomatch h)⟩)⟩)⟩) (fun K => ?_)
  refine g_iconst (pc := 0) (v := 0) dX1_firstBetween_0 (by decide +kernel) ?_
  refine g_istore_n (pc := 1) (ls' := [rv (D, E, true, B) 1 0, iv 0, iv 0, iv 0]) dX1_firstBetween_1 (Nat.le_of_ble_eq_true rfl) (Nat.le_of_ble_eq_true rfl) rfl ?_
  refine g_iload_n (pc := 2) dX1_firstBetween_2 rfl ?_
  refine g_aload_n (pc := 3) dX1_firstBetween_3 rfl ?_
  refine fg_X1_firstBetween_27 (pc := 4) (show 0 < 2 by omega) dX1_firstBetween_4 ?_
  refine g_top (b := 0) (by decide +kernel) ?_
  refine g_icmp_ge (pc := 7) 38 dX1_firstBetween_7 (by decide) (by decide) (by decide) (fun _ => ?_) (fun h => absurd (by decide) h)
  refine g_bipush (pc := 38) (v := 4294967294) dX1_firstBetween_38 (by decide +kernel) ?_
  exact g_iret (pc := 40) dX1_firstBetween_40 ⟨mg_narI _, Or.inl rfl⟩ ⟨rfl, rfl⟩
/-- X4_copyFirst(r4.0, 0, 0) at qms6 -/
theorem qa121 (l : Launch) {D : va_G} {E : mg_E} {B : Nat} : mg_C l (D, E, true, B) mX4_copyFirst [rv (D, E, true, B) 4 0, iv 0, iv 0] qms6 (fun v g' => v = none ∧ g' = qms6) := by
  refine mg_C.of (by decide) rfl (Nat.le_of_ble_eq_true rfl) (List.forall_mem_cons.mpr ⟨rfl, (List.forall_mem_cons.mpr ⟨rfl, (List.forall_mem_cons.mpr ⟨rfl, (fun _ h => nomatch h)⟩)⟩)⟩) (fun K => ?_)
  refine g_aload_n (pc := 0) dX4_copyFirst_0 rfl ?_
  refine fg_X4_copyFirst_27 (pc := 1) dX4_copyFirst_1 ?_
  refine g_iload_n (pc := 4) dX4_copyFirst_4 rfl ?_
  refine g_iload_n (pc := 5) dX4_copyFirst_5 rfl ?_
  refine g_callVi (pc := 6) (Y' := mX1_firstBetween) (As := [iv 0, iv 0]) (st := []) (k := 1) (i := 0) (qa120 K.2.1) gX4_copyFirst_X1_firstBetween rfl (show 0 < 2 by omega) rfl rfl (na := 2) rfl (by decide +kernel) (by decide) (by decide) (Nat.le_of_ble_eq_true rfl) dX4_copyFirst_6 (fun r1 g1 hp => ?_)
  obtain ⟨h1, rfl⟩ := hp
  cases h1
  refine g_istore_n (pc := 9) (ls' := [rv (D, E, true, B) 4 0, iv 0, iv 0, iv 4294967294]) dX4_copyFirst_9 (Nat.le_of_ble_eq_true rfl) (Nat.le_of_ble_eq_true rfl) rfl ?_
  refine g_iload_n (pc := 10) dX4_copyFirst_10 rfl ?_
  refine g_bipush (pc := 11) (v := 4294967294) dX4_copyFirst_11 (by decide +kernel) ?_
  refine g_icmp_eq (pc := 13) 28 dX4_copyFirst_13 (by decide) (by decide) (by decide) (fun _ => ?_) (fun h => absurd (by decide) h)
  exact g_ret (pc := 28) dX4_copyFirst_28 trivial ⟨rfl, rfl⟩
/-- X1_firstBetween(r1.0, 0, 1) at qms6 -/
theorem qa122 (l : Launch) {D : va_G} {E : mg_E} {B : Nat} : mg_C l (D, E, true, B) mX1_firstBetween [rv (D, E, true, B) 1 0, iv 0, iv 1] qms6 (fun v g' => v = some 4294967294 ∧ g' = qms6) := by
  refine mg_C.of (by decide) rfl (Nat.le_of_ble_eq_true rfl) (List.forall_mem_cons.mpr ⟨rfl, (List.forall_mem_cons.mpr ⟨rfl, (List.forall_mem_cons.mpr ⟨rfl, (fun _ h => nomatch h)⟩)⟩)⟩) (fun K => ?_)
  refine g_iconst (pc := 0) (v := 0) dX1_firstBetween_0 (by decide +kernel) ?_
  refine g_istore_n (pc := 1) (ls' := [rv (D, E, true, B) 1 0, iv 0, iv 1, iv 0]) dX1_firstBetween_1 (Nat.le_of_ble_eq_true rfl) (Nat.le_of_ble_eq_true rfl) rfl ?_
  refine g_iload_n (pc := 2) dX1_firstBetween_2 rfl ?_
  refine g_aload_n (pc := 3) dX1_firstBetween_3 rfl ?_
  refine fg_X1_firstBetween_27 (pc := 4) (show 0 < 2 by omega) dX1_firstBetween_4 ?_
  refine g_top (b := 0) (by decide +kernel) ?_
  refine g_icmp_ge (pc := 7) 38 dX1_firstBetween_7 (by decide) (by decide) (by decide) (fun _ => ?_) (fun h => absurd (by decide) h)
  refine g_bipush (pc := 38) (v := 4294967294) dX1_firstBetween_38 (by decide +kernel) ?_
  exact g_iret (pc := 40) dX1_firstBetween_40 ⟨mg_narI _, Or.inl rfl⟩ ⟨rfl, rfl⟩
/-- X4_copyFirst(r4.0, 0, 1) at qms6 -/
theorem qa123 (l : Launch) {D : va_G} {E : mg_E} {B : Nat} : mg_C l (D, E, true, B) mX4_copyFirst [rv (D, E, true, B) 4 0, iv 0, iv 1] qms6 (fun v g' => v = none ∧ g' = qms6) := by
  refine mg_C.of (by decide) rfl (Nat.le_of_ble_eq_true rfl) (List.forall_mem_cons.mpr ⟨rfl, (List.forall_mem_cons.mpr ⟨rfl, (List.forall_mem_cons.mpr ⟨rfl, (fun _ h => nomatch h)⟩)⟩)⟩) (fun K => ?_)
  refine g_aload_n (pc := 0) dX4_copyFirst_0 rfl ?_
  refine fg_X4_copyFirst_27 (pc := 1) dX4_copyFirst_1 ?_
  refine g_iload_n (pc := 4) dX4_copyFirst_4 rfl ?_
  refine g_iload_n (pc := 5) dX4_copyFirst_5 rfl ?_
  refine g_callVi (pc := 6) (Y' := mX1_firstBetween) (As := [iv 0, iv 1]) (st := []) (k := 1) (i := 0) (qa122 K.2.1) gX4_copyFirst_X1_firstBetween rfl (show 0 < 2 by omega) rfl rfl (na := 2) rfl (by decide +kernel) (by decide) (by decide) (Nat.le_of_ble_eq_true rfl) dX4_copyFirst_6 (fun r1 g1 hp => ?_)
  obtain ⟨h1, rfl⟩ := hp
  cases h1
  refine g_istore_n (pc := 9) (ls' := [rv (D, E, true, B) 4 0, iv 0, iv 1, iv 4294967294]) dX4_copyFirst_9 (Nat.le_of_ble_eq_true rfl) (Nat.le_of_ble_eq_true rfl) rfl ?_
  refine g_iload_n (pc := 10) dX4_copyFirst_10 rfl ?_
  refine g_bipush (pc := 11) (v := 4294967294) dX4_copyFirst_11 (by decide +kernel) ?_
  refine g_icmp_eq (pc := 13) 28 dX4_copyFirst_13 (by decide) (by decide) (by decide) (fun _ => ?_) (fun h => absurd (by decide) h)
  exact g_ret (pc := 28) dX4_copyFirst_28 trivial ⟨rfl, rfl⟩
/-- X4_resend(r4.0, 0) at qms6 -/
theorem qa124 (l : Launch) {D : va_G} {E : mg_E} {B : Nat} : mg_C l (D, E, true, B) mX4_resend [rv (D, E, true, B) 4 0, iv 0] qms6 (fun v g' => v = some 0 ∧ g' = qms6) := by
  refine mg_C.of (by decide) rfl (Nat.le_of_ble_eq_true rfl) (List.forall_mem_cons.mpr ⟨rfl, (List.forall_mem_cons.mpr ⟨rfl, (fun _ h => nomatch h)⟩)⟩) (fun K => ?_)
  refine g_aload_n (pc := 0) dX4_resend_0 rfl ?_
  refine g_iload_n (pc := 1) dX4_resend_1 rfl ?_
  refine g_callVi (pc := 2) (Y' := mX4_isUp) (As := [iv 0]) (st := []) (k := 4) (i := 0) (qa30 K.2.1) gX4_resend_X4_isUp rfl (show 0 < 1 by omega) rfl rfl (na := 1) rfl (by decide +kernel) (by decide) (by decide) (Nat.le_of_ble_eq_true rfl) dX4_resend_2 (fun r1 g1 hp => ?_)
  obtain ⟨h1, rfl⟩ := hp
  cases h1
  refine g_if_ne (pc := 5) 10 dX4_resend_5 (by decide) (by decide) (fun _ => ?_) (fun h => absurd h (by decide))
  refine g_iconst (pc := 10) (v := 0) dX4_resend_10 (by decide +kernel) ?_
  refine g_istore_n (pc := 11) (ls' := [rv (D, E, true, B) 4 0, iv 0, iv 0]) dX4_resend_11 (Nat.le_of_ble_eq_true rfl) (Nat.le_of_ble_eq_true rfl) rfl ?_
  refine g_iload_n (pc := 12) dX4_resend_12 rfl ?_
  refine g_aload_n (pc := 13) dX4_resend_13 rfl ?_
  refine fg_X4_resend_10 (pc := 14) dX4_resend_14 ?_
  refine fg_X4_resend_229 (pc := 17) dX4_resend_17 ?_
  refine g_top (b := 2) (by decide +kernel) ?_
  refine g_icmp_ge (pc := 20) 35 dX4_resend_20 (by decide) (by decide) (by decide) (fun h => absurd h (by decide)) (fun _ => ?_)
  refine g_aload_n (pc := 23) dX4_resend_23 rfl ?_
  refine g_iload_n (pc := 24) dX4_resend_24 rfl ?_
  refine g_iload_n (pc := 25) dX4_resend_25 rfl ?_
  refine g_callVv (pc := 26) (Y' := mX4_copyFirst) (As := [iv 0, iv 0]) (st := []) (k := 4) (i := 0) (qa121 K.2.1) gX4_resend_X4_copyFirst rfl (show 0 < 1 by omega) rfl rfl (na := 2) rfl (by decide +kernel) (by decide) (by decide) (Nat.le_of_ble_eq_true rfl) dX4_resend_26 (fun g1 hp => ?_)
  obtain ⟨-, rfl⟩ := hp
  refine g_iinc (pc := 29) (v := 1) (ls' := [rv (D, E, true, B) 4 0, iv 0, iv 1]) dX4_resend_29 (Nat.le_of_ble_eq_true rfl) rfl (by decide +kernel) rfl ?_
  refine g_goto (pc := 32) 12 dX4_resend_32 (by decide) ?_
  refine g_iload_n (pc := 12) dX4_resend_12 rfl ?_
  refine g_aload_n (pc := 13) dX4_resend_13 rfl ?_
  refine fg_X4_resend_10 (pc := 14) dX4_resend_14 ?_
  refine fg_X4_resend_229 (pc := 17) dX4_resend_17 ?_
  refine g_top (b := 2) (by decide +kernel) ?_
  refine g_icmp_ge (pc := 20) 35 dX4_resend_20 (by decide) (by decide) (by decide) (fun h => absurd h (by decide)) (fun _ => ?_)
  refine g_aload_n (pc := 23) dX4_resend_23 rfl ?_
  refine g_iload_n (pc := 24) dX4_resend_24 rfl ?_
  refine g_iload_n (pc := 25) dX4_resend_25 rfl ?_
  refine g_callVv (pc := 26) (Y' := mX4_copyFirst) (As := [iv 0, iv 1]) (st := []) (k := 4) (i := 0) (qa123 K.2.1) gX4_resend_X4_copyFirst rfl (show 0 < 1 by omega) rfl rfl (na := 2) rfl (by decide +kernel) (by decide) (by decide) (Nat.le_of_ble_eq_true rfl) dX4_resend_26 (fun g1 hp => ?_)
  obtain ⟨-, rfl⟩ := hp
  refine g_iinc (pc := 29) (v := 2) (ls' := [rv (D, E, true, B) 4 0, iv 0, iv 2]) dX4_resend_29 (Nat.le_of_ble_eq_true rfl) rfl (by decide +kernel) rfl ?_
  refine g_goto (pc := 32) 12 dX4_resend_32 (by decide) ?_
  refine g_iload_n (pc := 12) dX4_resend_12 rfl ?_
  refine g_aload_n (pc := 13) dX4_resend_13 rfl ?_
  refine fg_X4_resend_10 (pc := 14) dX4_resend_14 ?_
  refine fg_X4_resend_229 (pc := 17) dX4_resend_17 ?_
  refine g_top (b := 2) (by decide +kernel) ?_
  refine g_icmp_ge (pc := 20) 35 dX4_resend_20 (by decide) (by decide) (by decide) (fun _ => ?_) (fun h => absurd (by decide) h)
  refine g_aload_n (pc := 35) dX4_resend_35 rfl ?_
  refine fg_X4_resend_31 (pc := 36) dX4_resend_36 ?_
  refine fg_X4_resend_94 (pc := 39) (show 1 < 2 by omega) dX4_resend_39 ?_
  refine g_top (b := 0) (by decide +kernel) ?_
  exact g_iret (pc := 42) dX4_resend_42 ⟨mg_narI _, Or.inl rfl⟩ ⟨rfl, rfl⟩
/-- X5_firstLetter(r5.0, 0) at qms6 -/
theorem qa125 (l : Launch) {D : va_G} {E : mg_E} {B : Nat} : mg_C l (D, E, true, B) mX5_firstLetter [rv (D, E, true, B) 5 0, iv 0] qms6 (fun v g' => v = some 4294967295 ∧ g' = qms6) := by
  refine mg_C.of (by decide) rfl (Nat.le_of_ble_eq_true rfl) (List.forall_mem_cons.mpr ⟨rfl, (List.forall_mem_cons.mpr ⟨rfl, (fun _ h => nomatch h)⟩)⟩) (fun K => ?_)
  refine g_iconst (pc := 0) (v := 4294967295) dX5_firstLetter_0 (by decide +kernel) ?_
  refine g_istore_n (pc := 1) (ls' := [rv (D, E, true, B) 5 0, iv 0, iv 4294967295]) dX5_firstLetter_1 (Nat.le_of_ble_eq_true rfl) (Nat.le_of_ble_eq_true rfl) rfl ?_
  refine g_aload_n (pc := 2) dX5_firstLetter_2 rfl ?_
  refine fg_X5_firstLetter_133 (pc := 3) (by rfl) dX5_firstLetter_3 ?_
  refine g_top (b := 0) (by decide +kernel) ?_
  refine g_iconst (pc := 6) (v := 1) dX5_firstLetter_6 (by decide +kernel) ?_
  refine g_isubw (pc := 7) (c := 4294967295) (by decide +kernel) dX5_firstLetter_7 ?_
  refine g_istore_n (pc := 8) (ls' := [rv (D, E, true, B) 5 0, iv 0, iv 4294967295, iv 4294967295]) dX5_firstLetter_8 (Nat.le_of_ble_eq_true rfl) (Nat.le_of_ble_eq_true rfl) rfl ?_
  refine g_iload_n (pc := 9) dX5_firstLetter_9 rfl ?_
  refine g_sif_lt (pc := 10) 35 dX5_firstLetter_10 (by decide) (by decide) (fun _ => ?_) (fun h => absurd (by decide) h)
  refine g_iload_n (pc := 35) dX5_firstLetter_35 rfl ?_
  exact g_iret (pc := 36) dX5_firstLetter_36 ⟨mg_narI _, Or.inl rfl⟩ ⟨rfl, rfl⟩
/-- X5_sendFirst(r5.0, 0) at qms6 -/
theorem qa126 (l : Launch) {D : va_G} {E : mg_E} {B : Nat} : mg_C l (D, E, true, B) mX5_sendFirst [rv (D, E, true, B) 5 0, iv 0] qms6 (fun v g' => v = none ∧ g' = qms6) := by
  refine mg_C.of (by decide) rfl (Nat.le_of_ble_eq_true rfl) (List.forall_mem_cons.mpr ⟨rfl, (List.forall_mem_cons.mpr ⟨rfl, (fun _ h => nomatch h)⟩)⟩) (fun K => ?_)
  refine g_aload_n (pc := 0) dX5_sendFirst_0 rfl ?_
  refine g_iload_n (pc := 1) dX5_sendFirst_1 rfl ?_
  refine g_callVi (pc := 2) (Y' := mX5_firstLetter) (As := [iv 0]) (st := []) (k := 5) (i := 0) (qa125 K.2.1) gX5_sendFirst_X5_firstLetter rfl (show 0 < 1 by omega) rfl rfl (na := 1) rfl (by decide +kernel) (by decide) (by decide) (Nat.le_of_ble_eq_true rfl) dX5_sendFirst_2 (fun r1 g1 hp => ?_)
  obtain ⟨h1, rfl⟩ := hp
  cases h1
  refine g_istore_n (pc := 5) (ls' := [rv (D, E, true, B) 5 0, iv 0, iv 4294967295]) dX5_sendFirst_5 (Nat.le_of_ble_eq_true rfl) (Nat.le_of_ble_eq_true rfl) rfl ?_
  refine g_iload_n (pc := 6) dX5_sendFirst_6 rfl ?_
  refine g_sif_lt (pc := 7) 33 dX5_sendFirst_7 (by decide) (by decide) (fun _ => ?_) (fun h => absurd (by decide) h)
  exact g_ret (pc := 33) dX5_sendFirst_33 trivial ⟨rfl, rfl⟩
