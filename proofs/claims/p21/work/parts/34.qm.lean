/-! ===== begin2 of the reference, behind the class ===== -/
def qms1 : mg_F := mc_canal qcs80 2
def qms2 : mg_F := mg_up (mg_up (mg_up (mg_up (mg_up (mg_up (mg_up (mg_up (mg_up (mg_up (qms1) 61 0 0 0) 61 0 1 1) 61 0 0 0) 61 0 0 0) 61 0 1 1) 61 0 1 1) 61 0 0 0) 61 0 0 0) 61 0 1 1) 61 0 1 1
/-- X5_part(r5.0) at qms1 -/
theorem qm1 (l : Launch) {D : va_G} {E : mg_E} {B : Nat} : mg_C l (D, E, true, B) mX5_part [rv (D, E, true, B) 5 0] qms1 (fun v g' => v = some 2 ∧ g' = qms2) := by
  refine mg_C.of (by decide) rfl (Nat.le_of_ble_eq_true rfl) (List.forall_mem_cons.mpr ⟨rfl, (fun _ h => nomatch h)⟩) (fun K => ?_)
  refine g_iconst (pc := 0) (v := 0) dX5_part_0 (by decide +kernel) ?_
  refine g_istore_n (pc := 1) (ls' := [rv (D, E, true, B) 5 0, iv 0]) dX5_part_1 (Nat.le_of_ble_eq_true rfl) (Nat.le_of_ble_eq_true rfl) rfl ?_
  refine g_iload_n (pc := 2) dX5_part_2 rfl ?_
  refine g_aload_n (pc := 3) dX5_part_3 rfl ?_
  refine fg_X5_part_101 (pc := 4) (by rfl) dX5_part_4 ?_
  refine g_top (b := 2) (by decide +kernel) ?_
  refine g_icmp_ge (pc := 7) 23 dX5_part_7 (by decide) (by decide) (by decide) (fun h => absurd h (by decide)) (fun _ => ?_)
  refine g_aload_n (pc := 10) dX5_part_10 rfl ?_
  refine fg_X5_part_80 (pc := 11) (by rfl) dX5_part_11 ?_
  refine g_iload_n (pc := 14) dX5_part_14 rfl ?_
  refine g_iload_n (pc := 15) dX5_part_15 rfl ?_
  refine g_iastore (pc := 16) (k := 61) (i := 0) (n := 24) (show 0 < 1 by omega) (fun _ => rfl) (by decide) (by decide) dX5_part_16 ?_
  refine g_iinc (pc := 17) (v := 1) (ls' := [rv (D, E, true, B) 5 0, iv 1]) dX5_part_17 (Nat.le_of_ble_eq_true rfl) rfl (by decide +kernel) rfl ?_
  refine g_goto (pc := 20) 2 dX5_part_20 (by decide) ?_
  refine g_iload_n (pc := 2) dX5_part_2 rfl ?_
  refine g_aload_n (pc := 3) dX5_part_3 rfl ?_
  refine fg_X5_part_101 (pc := 4) (by rfl) dX5_part_4 ?_
  refine g_top (b := 2) (by decide +kernel) ?_
  refine g_icmp_ge (pc := 7) 23 dX5_part_7 (by decide) (by decide) (by decide) (fun h => absurd h (by decide)) (fun _ => ?_)
  refine g_aload_n (pc := 10) dX5_part_10 rfl ?_
  refine fg_X5_part_80 (pc := 11) (by rfl) dX5_part_11 ?_
  refine g_iload_n (pc := 14) dX5_part_14 rfl ?_
  refine g_iload_n (pc := 15) dX5_part_15 rfl ?_
  refine g_iastore (pc := 16) (k := 61) (i := 0) (n := 24) (show 0 < 1 by omega) (fun _ => rfl) (by decide) (by decide) dX5_part_16 ?_
  refine g_iinc (pc := 17) (v := 2) (ls' := [rv (D, E, true, B) 5 0, iv 2]) dX5_part_17 (Nat.le_of_ble_eq_true rfl) rfl (by decide +kernel) rfl ?_
  refine g_goto (pc := 20) 2 dX5_part_20 (by decide) ?_
  refine g_iload_n (pc := 2) dX5_part_2 rfl ?_
  refine g_aload_n (pc := 3) dX5_part_3 rfl ?_
  refine fg_X5_part_101 (pc := 4) (by rfl) dX5_part_4 ?_
  refine g_top (b := 2) (by decide +kernel) ?_
  refine g_icmp_ge (pc := 7) 23 dX5_part_7 (by decide) (by decide) (by decide) (fun _ => ?_) (fun h => absurd (by decide) h)
  refine g_iconst (pc := 23) (v := 0) dX5_part_23 (by decide +kernel) ?_
  refine g_istore_n (pc := 24) (ls' := [rv (D, E, true, B) 5 0, iv 0]) dX5_part_24 (Nat.le_of_ble_eq_true rfl) (Nat.le_of_ble_eq_true rfl) rfl ?_
  refine g_iload_n (pc := 25) dX5_part_25 rfl ?_
  refine g_aload_n (pc := 26) dX5_part_26 rfl ?_
  refine fg_X5_part_101 (pc := 27) (by rfl) dX5_part_27 ?_
  refine g_top (b := 2) (by decide +kernel) ?_
  refine g_icmp_ge (pc := 30) 121 dX5_part_30 (by decide) (by decide) (by decide) (fun h => absurd h (by decide)) (fun _ => ?_)
  refine g_iconst (pc := 33) (v := 0) dX5_part_33 (by decide +kernel) ?_
  refine g_istore_n (pc := 34) (ls' := [rv (D, E, true, B) 5 0, iv 0, iv 0]) dX5_part_34 (Nat.le_of_ble_eq_true rfl) (Nat.le_of_ble_eq_true rfl) rfl ?_
  refine g_iload_n (pc := 35) dX5_part_35 rfl ?_
  refine g_aload_n (pc := 36) dX5_part_36 rfl ?_
  refine fg_X5_part_101 (pc := 37) (by rfl) dX5_part_37 ?_
  refine g_top (b := 2) (by decide +kernel) ?_
  refine g_icmp_ge (pc := 40) 115 dX5_part_40 (by decide) (by decide) (by decide) (fun h => absurd h (by decide)) (fun _ => ?_)
  refine g_iconst (pc := 43) (v := 0) dX5_part_43 (by decide +kernel) ?_
  refine g_istore_n (pc := 44) (ls' := [rv (D, E, true, B) 5 0, iv 0, iv 0, iv 0]) dX5_part_44 (Nat.le_of_ble_eq_true rfl) (Nat.le_of_ble_eq_true rfl) rfl ?_
  refine g_iload_n (pc := 45) dX5_part_45 rfl ?_
  refine g_aload_n (pc := 46) dX5_part_46 rfl ?_
  refine fg_X5_part_101 (pc := 47) (by rfl) dX5_part_47 ?_
  refine g_top (b := 2) (by decide +kernel) ?_
  refine g_icmp_ge (pc := 50) 109 dX5_part_50 (by decide) (by decide) (by decide) (fun h => absurd h (by decide)) (fun _ => ?_)
  refine g_aload_n (pc := 53) dX5_part_53 rfl ?_
  refine fg_X5_part_80 (pc := 54) (by rfl) dX5_part_54 ?_
  refine g_iload_n (pc := 57) dX5_part_57 rfl ?_
  refine g_aload_n (pc := 58) dX5_part_58 rfl ?_
  refine fg_X5_part_7 (pc := 59) (by rfl) dX5_part_59 ?_
  refine g_bipush (pc := 62) (v := 24) dX5_part_62 (by decide +kernel) ?_
  refine g_iload_n (pc := 64) dX5_part_64 rfl ?_
  refine g_imul (pc := 65) dX5_part_65 ?_
  refine g_top (b := 0) (by decide +kernel) ?_
  refine g_iload_n (pc := 66) dX5_part_66 rfl ?_
  refine g_iadd (pc := 67) dX5_part_67 ?_
  refine g_top (b := 0) (by decide +kernel) ?_
  refine g_baload (pc := 68) (k := 35) (i := 0) (n := 576) (show 0 < 1 by omega) rfl (by decide) (by decide) dX5_part_68 ?_
  refine g_top (b := 0) (by decide +kernel) ?_
  refine g_if_eq (pc := 69) 96 dX5_part_69 (by decide) (by decide) (fun _ => ?_) (fun h => absurd (by decide) h)
  refine g_aload_n (pc := 96) dX5_part_96 rfl ?_
  refine fg_X5_part_80 (pc := 97) (by rfl) dX5_part_97 ?_
  refine g_iload_n (pc := 100) dX5_part_100 rfl ?_
  refine g_iaload (pc := 101) (k := 61) (i := 0) (n := 24) (show 0 < 1 by omega) rfl (by decide) (by decide) dX5_part_101 ?_
  refine g_top (b := 0) (by decide +kernel) ?_
  refine g_iastore (pc := 102) (k := 61) (i := 0) (n := 24) (show 0 < 1 by omega) (fun _ => rfl) (by decide) (by decide) dX5_part_102 ?_
  refine g_iinc (pc := 103) (v := 1) (ls' := [rv (D, E, true, B) 5 0, iv 0, iv 0, iv 1]) dX5_part_103 (Nat.le_of_ble_eq_true rfl) rfl (by decide +kernel) rfl ?_
  refine g_goto (pc := 106) 45 dX5_part_106 (by decide) ?_
  refine g_iload_n (pc := 45) dX5_part_45 rfl ?_
  refine g_aload_n (pc := 46) dX5_part_46 rfl ?_
  refine fg_X5_part_101 (pc := 47) (by rfl) dX5_part_47 ?_
  refine g_top (b := 2) (by decide +kernel) ?_
  refine g_icmp_ge (pc := 50) 109 dX5_part_50 (by decide) (by decide) (by decide) (fun h => absurd h (by decide)) (fun _ => ?_)
  refine g_aload_n (pc := 53) dX5_part_53 rfl ?_
  refine fg_X5_part_80 (pc := 54) (by rfl) dX5_part_54 ?_
  refine g_iload_n (pc := 57) dX5_part_57 rfl ?_
  refine g_aload_n (pc := 58) dX5_part_58 rfl ?_
  refine fg_X5_part_7 (pc := 59) (by rfl) dX5_part_59 ?_
  refine g_bipush (pc := 62) (v := 24) dX5_part_62 (by decide +kernel) ?_
  refine g_iload_n (pc := 64) dX5_part_64 rfl ?_
  refine g_imul (pc := 65) dX5_part_65 ?_
  refine g_top (b := 0) (by decide +kernel) ?_
  refine g_iload_n (pc := 66) dX5_part_66 rfl ?_
  refine g_iadd (pc := 67) dX5_part_67 ?_
  refine g_top (b := 1) (by decide +kernel) ?_
  refine g_baload (pc := 68) (k := 35) (i := 0) (n := 576) (show 0 < 1 by omega) rfl (by decide) (by decide) dX5_part_68 ?_
  refine g_top (b := 0) (by decide +kernel) ?_
  refine g_if_eq (pc := 69) 96 dX5_part_69 (by decide) (by decide) (fun _ => ?_) (fun h => absurd (by decide) h)
  refine g_aload_n (pc := 96) dX5_part_96 rfl ?_
  refine fg_X5_part_80 (pc := 97) (by rfl) dX5_part_97 ?_
  refine g_iload_n (pc := 100) dX5_part_100 rfl ?_
  refine g_iaload (pc := 101) (k := 61) (i := 0) (n := 24) (show 0 < 1 by omega) rfl (by decide) (by decide) dX5_part_101 ?_
  refine g_top (b := 0) (by decide +kernel) ?_
  refine g_iastore (pc := 102) (k := 61) (i := 0) (n := 24) (show 0 < 1 by omega) (fun _ => rfl) (by decide) (by decide) dX5_part_102 ?_
  refine g_iinc (pc := 103) (v := 2) (ls' := [rv (D, E, true, B) 5 0, iv 0, iv 0, iv 2]) dX5_part_103 (Nat.le_of_ble_eq_true rfl) rfl (by decide +kernel) rfl ?_
  refine g_goto (pc := 106) 45 dX5_part_106 (by decide) ?_
  refine g_iload_n (pc := 45) dX5_part_45 rfl ?_
  refine g_aload_n (pc := 46) dX5_part_46 rfl ?_
  refine fg_X5_part_101 (pc := 47) (by rfl) dX5_part_47 ?_
  refine g_top (b := 2) (by decide +kernel) ?_
  refine g_icmp_ge (pc := 50) 109 dX5_part_50 (by decide) (by decide) (by decide) (fun _ => ?_) (fun h => absurd (by decide) h)
  refine g_iinc (pc := 109) (v := 1) (ls' := [rv (D, E, true, B) 5 0, iv 0, iv 1, iv 2]) dX5_part_109 (Nat.le_of_ble_eq_true rfl) rfl (by decide +kernel) rfl ?_
  refine g_goto (pc := 112) 35 dX5_part_112 (by decide) ?_
  refine g_iload_n (pc := 35) dX5_part_35 rfl ?_
  refine g_aload_n (pc := 36) dX5_part_36 rfl ?_
  refine fg_X5_part_101 (pc := 37) (by rfl) dX5_part_37 ?_
  refine g_top (b := 2) (by decide +kernel) ?_
  refine g_icmp_ge (pc := 40) 115 dX5_part_40 (by decide) (by decide) (by decide) (fun h => absurd h (by decide)) (fun _ => ?_)
  refine g_iconst (pc := 43) (v := 0) dX5_part_43 (by decide +kernel) ?_
  refine g_istore_n (pc := 44) (ls' := [rv (D, E, true, B) 5 0, iv 0, iv 1, iv 0]) dX5_part_44 (Nat.le_of_ble_eq_true rfl) (Nat.le_of_ble_eq_true rfl) rfl ?_
  refine g_iload_n (pc := 45) dX5_part_45 rfl ?_
  refine g_aload_n (pc := 46) dX5_part_46 rfl ?_
  refine fg_X5_part_101 (pc := 47) (by rfl) dX5_part_47 ?_
  refine g_top (b := 2) (by decide +kernel) ?_
  refine g_icmp_ge (pc := 50) 109 dX5_part_50 (by decide) (by decide) (by decide) (fun h => absurd h (by decide)) (fun _ => ?_)
  refine g_aload_n (pc := 53) dX5_part_53 rfl ?_
  refine fg_X5_part_80 (pc := 54) (by rfl) dX5_part_54 ?_
  refine g_iload_n (pc := 57) dX5_part_57 rfl ?_
  refine g_aload_n (pc := 58) dX5_part_58 rfl ?_
  refine fg_X5_part_7 (pc := 59) (by rfl) dX5_part_59 ?_
  refine g_bipush (pc := 62) (v := 24) dX5_part_62 (by decide +kernel) ?_
  refine g_iload_n (pc := 64) dX5_part_64 rfl ?_
  refine g_imul (pc := 65) dX5_part_65 ?_
  refine g_top (b := 24) (by decide +kernel) ?_
  refine g_iload_n (pc := 66) dX5_part_66 rfl ?_
  refine g_iadd (pc := 67) dX5_part_67 ?_
  refine g_top (b := 24) (by decide +kernel) ?_
  refine g_baload (pc := 68) (k := 35) (i := 0) (n := 576) (show 0 < 1 by omega) rfl (by decide) (by decide) dX5_part_68 ?_
  refine g_top (b := 0) (by decide +kernel) ?_
  refine g_if_eq (pc := 69) 96 dX5_part_69 (by decide) (by decide) (fun _ => ?_) (fun h => absurd (by decide) h)
  refine g_aload_n (pc := 96) dX5_part_96 rfl ?_
  refine fg_X5_part_80 (pc := 97) (by rfl) dX5_part_97 ?_
  refine g_iload_n (pc := 100) dX5_part_100 rfl ?_
  refine g_iaload (pc := 101) (k := 61) (i := 0) (n := 24) (show 0 < 1 by omega) rfl (by decide) (by decide) dX5_part_101 ?_
  refine g_top (b := 1) (by decide +kernel) ?_
  refine g_iastore (pc := 102) (k := 61) (i := 0) (n := 24) (show 0 < 1 by omega) (fun _ => rfl) (by decide) (by decide) dX5_part_102 ?_
  refine g_iinc (pc := 103) (v := 1) (ls' := [rv (D, E, true, B) 5 0, iv 0, iv 1, iv 1]) dX5_part_103 (Nat.le_of_ble_eq_true rfl) rfl (by decide +kernel) rfl ?_
  refine g_goto (pc := 106) 45 dX5_part_106 (by decide) ?_
  refine g_iload_n (pc := 45) dX5_part_45 rfl ?_
  refine g_aload_n (pc := 46) dX5_part_46 rfl ?_
  refine fg_X5_part_101 (pc := 47) (by rfl) dX5_part_47 ?_
  refine g_top (b := 2) (by decide +kernel) ?_
  refine g_icmp_ge (pc := 50) 109 dX5_part_50 (by decide) (by decide) (by decide) (fun h => absurd h (by decide)) (fun _ => ?_)
  refine g_aload_n (pc := 53) dX5_part_53 rfl ?_
  refine fg_X5_part_80 (pc := 54) (by rfl) dX5_part_54 ?_
  refine g_iload_n (pc := 57) dX5_part_57 rfl ?_
  refine g_aload_n (pc := 58) dX5_part_58 rfl ?_
  refine fg_X5_part_7 (pc := 59) (by rfl) dX5_part_59 ?_
  refine g_bipush (pc := 62) (v := 24) dX5_part_62 (by decide +kernel) ?_
  refine g_iload_n (pc := 64) dX5_part_64 rfl ?_
  refine g_imul (pc := 65) dX5_part_65 ?_
  refine g_top (b := 24) (by decide +kernel) ?_
  refine g_iload_n (pc := 66) dX5_part_66 rfl ?_
  refine g_iadd (pc := 67) dX5_part_67 ?_
  refine g_top (b := 25) (by decide +kernel) ?_
  refine g_baload (pc := 68) (k := 35) (i := 0) (n := 576) (show 0 < 1 by omega) rfl (by decide) (by decide) dX5_part_68 ?_
  refine g_top (b := 0) (by decide +kernel) ?_
  refine g_if_eq (pc := 69) 96 dX5_part_69 (by decide) (by decide) (fun _ => ?_) (fun h => absurd (by decide) h)
  refine g_aload_n (pc := 96) dX5_part_96 rfl ?_
  refine fg_X5_part_80 (pc := 97) (by rfl) dX5_part_97 ?_
  refine g_iload_n (pc := 100) dX5_part_100 rfl ?_
  refine g_iaload (pc := 101) (k := 61) (i := 0) (n := 24) (show 0 < 1 by omega) rfl (by decide) (by decide) dX5_part_101 ?_
  refine g_top (b := 1) (by decide +kernel) ?_
  refine g_iastore (pc := 102) (k := 61) (i := 0) (n := 24) (show 0 < 1 by omega) (fun _ => rfl) (by decide) (by decide) dX5_part_102 ?_
  refine g_iinc (pc := 103) (v := 2) (ls' := [rv (D, E, true, B) 5 0, iv 0, iv 1, iv 2]) dX5_part_103 (Nat.le_of_ble_eq_true rfl) rfl (by decide +kernel) rfl ?_
  refine g_goto (pc := 106) 45 dX5_part_106 (by decide) ?_
  refine g_iload_n (pc := 45) dX5_part_45 rfl ?_
  refine g_aload_n (pc := 46) dX5_part_46 rfl ?_
  refine fg_X5_part_101 (pc := 47) (by rfl) dX5_part_47 ?_
  refine g_top (b := 2) (by decide +kernel) ?_
  refine g_icmp_ge (pc := 50) 109 dX5_part_50 (by decide) (by decide) (by decide) (fun _ => ?_) (fun h => absurd (by decide) h)
  refine g_iinc (pc := 109) (v := 2) (ls' := [rv (D, E, true, B) 5 0, iv 0, iv 2, iv 2]) dX5_part_109 (Nat.le_of_ble_eq_true rfl) rfl (by decide +kernel) rfl ?_
  refine g_goto (pc := 112) 35 dX5_part_112 (by decide) ?_
  refine g_iload_n (pc := 35) dX5_part_35 rfl ?_
  refine g_aload_n (pc := 36) dX5_part_36 rfl ?_
  refine fg_X5_part_101 (pc := 37) (by rfl) dX5_part_37 ?_
  refine g_top (b := 2) (by decide +kernel) ?_
  refine g_icmp_ge (pc := 40) 115 dX5_part_40 (by decide) (by decide) (by decide) (fun _ => ?_) (fun h => absurd (by decide) h)
  refine g_iinc (pc := 115) (v := 1) (ls' := [rv (D, E, true, B) 5 0, iv 1, iv 2, iv 2]) dX5_part_115 (Nat.le_of_ble_eq_true rfl) rfl (by decide +kernel) rfl ?_
  refine g_goto (pc := 118) 25 dX5_part_118 (by decide) ?_
  refine g_iload_n (pc := 25) dX5_part_25 rfl ?_
  refine g_aload_n (pc := 26) dX5_part_26 rfl ?_
  refine fg_X5_part_101 (pc := 27) (by rfl) dX5_part_27 ?_
  refine g_top (b := 2) (by decide +kernel) ?_
  refine g_icmp_ge (pc := 30) 121 dX5_part_30 (by decide) (by decide) (by decide) (fun h => absurd h (by decide)) (fun _ => ?_)
  refine g_iconst (pc := 33) (v := 0) dX5_part_33 (by decide +kernel) ?_
  refine g_istore_n (pc := 34) (ls' := [rv (D, E, true, B) 5 0, iv 1, iv 0, iv 2]) dX5_part_34 (Nat.le_of_ble_eq_true rfl) (Nat.le_of_ble_eq_true rfl) rfl ?_
  refine g_iload_n (pc := 35) dX5_part_35 rfl ?_
  refine g_aload_n (pc := 36) dX5_part_36 rfl ?_
  refine fg_X5_part_101 (pc := 37) (by rfl) dX5_part_37 ?_
  refine g_top (b := 2) (by decide +kernel) ?_
  refine g_icmp_ge (pc := 40) 115 dX5_part_40 (by decide) (by decide) (by decide) (fun h => absurd h (by decide)) (fun _ => ?_)
  refine g_iconst (pc := 43) (v := 0) dX5_part_43 (by decide +kernel) ?_
  refine g_istore_n (pc := 44) (ls' := [rv (D, E, true, B) 5 0, iv 1, iv 0, iv 0]) dX5_part_44 (Nat.le_of_ble_eq_true rfl) (Nat.le_of_ble_eq_true rfl) rfl ?_
  refine g_iload_n (pc := 45) dX5_part_45 rfl ?_
  refine g_aload_n (pc := 46) dX5_part_46 rfl ?_
  refine fg_X5_part_101 (pc := 47) (by rfl) dX5_part_47 ?_
  refine g_top (b := 2) (by decide +kernel) ?_
  refine g_icmp_ge (pc := 50) 109 dX5_part_50 (by decide) (by decide) (by decide) (fun h => absurd h (by decide)) (fun _ => ?_)
  refine g_aload_n (pc := 53) dX5_part_53 rfl ?_
  refine fg_X5_part_80 (pc := 54) (by rfl) dX5_part_54 ?_
  refine g_iload_n (pc := 57) dX5_part_57 rfl ?_
  refine g_aload_n (pc := 58) dX5_part_58 rfl ?_
  refine fg_X5_part_7 (pc := 59) (by rfl) dX5_part_59 ?_
  refine g_bipush (pc := 62) (v := 24) dX5_part_62 (by decide +kernel) ?_
  refine g_iload_n (pc := 64) dX5_part_64 rfl ?_
  refine g_imul (pc := 65) dX5_part_65 ?_
  refine g_top (b := 0) (by decide +kernel) ?_
  refine g_iload_n (pc := 66) dX5_part_66 rfl ?_
  refine g_iadd (pc := 67) dX5_part_67 ?_
  refine g_top (b := 0) (by decide +kernel) ?_
  refine g_baload (pc := 68) (k := 35) (i := 0) (n := 576) (show 0 < 1 by omega) rfl (by decide) (by decide) dX5_part_68 ?_
  refine g_top (b := 0) (by decide +kernel) ?_
  refine g_if_eq (pc := 69) 96 dX5_part_69 (by decide) (by decide) (fun _ => ?_) (fun h => absurd (by decide) h)
  refine g_aload_n (pc := 96) dX5_part_96 rfl ?_
  refine fg_X5_part_80 (pc := 97) (by rfl) dX5_part_97 ?_
  refine g_iload_n (pc := 100) dX5_part_100 rfl ?_
  refine g_iaload (pc := 101) (k := 61) (i := 0) (n := 24) (show 0 < 1 by omega) rfl (by decide) (by decide) dX5_part_101 ?_
  refine g_top (b := 0) (by decide +kernel) ?_
  refine g_iastore (pc := 102) (k := 61) (i := 0) (n := 24) (show 0 < 1 by omega) (fun _ => rfl) (by decide) (by decide) dX5_part_102 ?_
  refine g_iinc (pc := 103) (v := 1) (ls' := [rv (D, E, true, B) 5 0, iv 1, iv 0, iv 1]) dX5_part_103 (Nat.le_of_ble_eq_true rfl) rfl (by decide +kernel) rfl ?_
  refine g_goto (pc := 106) 45 dX5_part_106 (by decide) ?_
  refine g_iload_n (pc := 45) dX5_part_45 rfl ?_
  refine g_aload_n (pc := 46) dX5_part_46 rfl ?_
  refine fg_X5_part_101 (pc := 47) (by rfl) dX5_part_47 ?_
  refine g_top (b := 2) (by decide +kernel) ?_
  refine g_icmp_ge (pc := 50) 109 dX5_part_50 (by decide) (by decide) (by decide) (fun h => absurd h (by decide)) (fun _ => ?_)
  refine g_aload_n (pc := 53) dX5_part_53 rfl ?_
  refine fg_X5_part_80 (pc := 54) (by rfl) dX5_part_54 ?_
  refine g_iload_n (pc := 57) dX5_part_57 rfl ?_
  refine g_aload_n (pc := 58) dX5_part_58 rfl ?_
  refine fg_X5_part_7 (pc := 59) (by rfl) dX5_part_59 ?_
  refine g_bipush (pc := 62) (v := 24) dX5_part_62 (by decide +kernel) ?_
  refine g_iload_n (pc := 64) dX5_part_64 rfl ?_
  refine g_imul (pc := 65) dX5_part_65 ?_
  refine g_top (b := 0) (by decide +kernel) ?_
  refine g_iload_n (pc := 66) dX5_part_66 rfl ?_
  refine g_iadd (pc := 67) dX5_part_67 ?_
  refine g_top (b := 1) (by decide +kernel) ?_
  refine g_baload (pc := 68) (k := 35) (i := 0) (n := 576) (show 0 < 1 by omega) rfl (by decide) (by decide) dX5_part_68 ?_
  refine g_top (b := 0) (by decide +kernel) ?_
  refine g_if_eq (pc := 69) 96 dX5_part_69 (by decide) (by decide) (fun _ => ?_) (fun h => absurd (by decide) h)
  refine g_aload_n (pc := 96) dX5_part_96 rfl ?_
  refine fg_X5_part_80 (pc := 97) (by rfl) dX5_part_97 ?_
  refine g_iload_n (pc := 100) dX5_part_100 rfl ?_
  refine g_iaload (pc := 101) (k := 61) (i := 0) (n := 24) (show 0 < 1 by omega) rfl (by decide) (by decide) dX5_part_101 ?_
  refine g_top (b := 0) (by decide +kernel) ?_
  refine g_iastore (pc := 102) (k := 61) (i := 0) (n := 24) (show 0 < 1 by omega) (fun _ => rfl) (by decide) (by decide) dX5_part_102 ?_
  refine g_iinc (pc := 103) (v := 2) (ls' := [rv (D, E, true, B) 5 0, iv 1, iv 0, iv 2]) dX5_part_103 (Nat.le_of_ble_eq_true rfl) rfl (by decide +kernel) rfl ?_
  refine g_goto (pc := 106) 45 dX5_part_106 (by decide) ?_
  refine g_iload_n (pc := 45) dX5_part_45 rfl ?_
  refine g_aload_n (pc := 46) dX5_part_46 rfl ?_
  refine fg_X5_part_101 (pc := 47) (by rfl) dX5_part_47 ?_
  refine g_top (b := 2) (by decide +kernel) ?_
  refine g_icmp_ge (pc := 50) 109 dX5_part_50 (by decide) (by decide) (by decide) (fun _ => ?_) (fun h => absurd (by decide) h)
  refine g_iinc (pc := 109) (v := 1) (ls' := [rv (D, E, true, B) 5 0, iv 1, iv 1, iv 2]) dX5_part_109 (Nat.le_of_ble_eq_true rfl) rfl (by decide +kernel) rfl ?_
  refine g_goto (pc := 112) 35 dX5_part_112 (by decide) ?_
  refine g_iload_n (pc := 35) dX5_part_35 rfl ?_
  refine g_aload_n (pc := 36) dX5_part_36 rfl ?_
  refine fg_X5_part_101 (pc := 37) (by rfl) dX5_part_37 ?_
  refine g_top (b := 2) (by decide +kernel) ?_
  refine g_icmp_ge (pc := 40) 115 dX5_part_40 (by decide) (by decide) (by decide) (fun h => absurd h (by decide)) (fun _ => ?_)
  refine g_iconst (pc := 43) (v := 0) dX5_part_43 (by decide +kernel) ?_
  refine g_istore_n (pc := 44) (ls' := [rv (D, E, true, B) 5 0, iv 1, iv 1, iv 0]) dX5_part_44 (Nat.le_of_ble_eq_true rfl) (Nat.le_of_ble_eq_true rfl) rfl ?_
  refine g_iload_n (pc := 45) dX5_part_45 rfl ?_
  refine g_aload_n (pc := 46) dX5_part_46 rfl ?_
  refine fg_X5_part_101 (pc := 47) (by rfl) dX5_part_47 ?_
  refine g_top (b := 2) (by decide +kernel) ?_
  refine g_icmp_ge (pc := 50) 109 dX5_part_50 (by decide) (by decide) (by decide) (fun h => absurd h (by decide)) (fun _ => ?_)
  refine g_aload_n (pc := 53) dX5_part_53 rfl ?_
  refine fg_X5_part_80 (pc := 54) (by rfl) dX5_part_54 ?_
  refine g_iload_n (pc := 57) dX5_part_57 rfl ?_
  refine g_aload_n (pc := 58) dX5_part_58 rfl ?_
  refine fg_X5_part_7 (pc := 59) (by rfl) dX5_part_59 ?_
  refine g_bipush (pc := 62) (v := 24) dX5_part_62 (by decide +kernel) ?_
  refine g_iload_n (pc := 64) dX5_part_64 rfl ?_
  refine g_imul (pc := 65) dX5_part_65 ?_
  refine g_top (b := 24) (by decide +kernel) ?_
  refine g_iload_n (pc := 66) dX5_part_66 rfl ?_
  refine g_iadd (pc := 67) dX5_part_67 ?_
  refine g_top (b := 24) (by decide +kernel) ?_
  refine g_baload (pc := 68) (k := 35) (i := 0) (n := 576) (show 0 < 1 by omega) rfl (by decide) (by decide) dX5_part_68 ?_
  refine g_top (b := 0) (by decide +kernel) ?_
  refine g_if_eq (pc := 69) 96 dX5_part_69 (by decide) (by decide) (fun _ => ?_) (fun h => absurd (by decide) h)
  refine g_aload_n (pc := 96) dX5_part_96 rfl ?_
  refine fg_X5_part_80 (pc := 97) (by rfl) dX5_part_97 ?_
  refine g_iload_n (pc := 100) dX5_part_100 rfl ?_
  refine g_iaload (pc := 101) (k := 61) (i := 0) (n := 24) (show 0 < 1 by omega) rfl (by decide) (by decide) dX5_part_101 ?_
  refine g_top (b := 1) (by decide +kernel) ?_
  refine g_iastore (pc := 102) (k := 61) (i := 0) (n := 24) (show 0 < 1 by omega) (fun _ => rfl) (by decide) (by decide) dX5_part_102 ?_
  refine g_iinc (pc := 103) (v := 1) (ls' := [rv (D, E, true, B) 5 0, iv 1, iv 1, iv 1]) dX5_part_103 (Nat.le_of_ble_eq_true rfl) rfl (by decide +kernel) rfl ?_
  refine g_goto (pc := 106) 45 dX5_part_106 (by decide) ?_
  refine g_iload_n (pc := 45) dX5_part_45 rfl ?_
  refine g_aload_n (pc := 46) dX5_part_46 rfl ?_
  refine fg_X5_part_101 (pc := 47) (by rfl) dX5_part_47 ?_
  refine g_top (b := 2) (by decide +kernel) ?_
  refine g_icmp_ge (pc := 50) 109 dX5_part_50 (by decide) (by decide) (by decide) (fun h => absurd h (by decide)) (fun _ => ?_)
  refine g_aload_n (pc := 53) dX5_part_53 rfl ?_
  refine fg_X5_part_80 (pc := 54) (by rfl) dX5_part_54 ?_
  refine g_iload_n (pc := 57) dX5_part_57 rfl ?_
  refine g_aload_n (pc := 58) dX5_part_58 rfl ?_
  refine fg_X5_part_7 (pc := 59) (by rfl) dX5_part_59 ?_
  refine g_bipush (pc := 62) (v := 24) dX5_part_62 (by decide +kernel) ?_
  refine g_iload_n (pc := 64) dX5_part_64 rfl ?_
  refine g_imul (pc := 65) dX5_part_65 ?_
  refine g_top (b := 24) (by decide +kernel) ?_
  refine g_iload_n (pc := 66) dX5_part_66 rfl ?_
  refine g_iadd (pc := 67) dX5_part_67 ?_
  refine g_top (b := 25) (by decide +kernel) ?_
  refine g_baload (pc := 68) (k := 35) (i := 0) (n := 576) (show 0 < 1 by omega) rfl (by decide) (by decide) dX5_part_68 ?_
  refine g_top (b := 0) (by decide +kernel) ?_
  refine g_if_eq (pc := 69) 96 dX5_part_69 (by decide) (by decide) (fun _ => ?_) (fun h => absurd (by decide) h)
  refine g_aload_n (pc := 96) dX5_part_96 rfl ?_
  refine fg_X5_part_80 (pc := 97) (by rfl) dX5_part_97 ?_
  refine g_iload_n (pc := 100) dX5_part_100 rfl ?_
  refine g_iaload (pc := 101) (k := 61) (i := 0) (n := 24) (show 0 < 1 by omega) rfl (by decide) (by decide) dX5_part_101 ?_
  refine g_top (b := 1) (by decide +kernel) ?_
  refine g_iastore (pc := 102) (k := 61) (i := 0) (n := 24) (show 0 < 1 by omega) (fun _ => rfl) (by decide) (by decide) dX5_part_102 ?_
  refine g_iinc (pc := 103) (v := 2) (ls' := [rv (D, E, true, B) 5 0, iv 1, iv 1, iv 2]) dX5_part_103 (Nat.le_of_ble_eq_true rfl) rfl (by decide +kernel) rfl ?_
  refine g_goto (pc := 106) 45 dX5_part_106 (by decide) ?_
  refine g_iload_n (pc := 45) dX5_part_45 rfl ?_
  refine g_aload_n (pc := 46) dX5_part_46 rfl ?_
  refine fg_X5_part_101 (pc := 47) (by rfl) dX5_part_47 ?_
  refine g_top (b := 2) (by decide +kernel) ?_
  refine g_icmp_ge (pc := 50) 109 dX5_part_50 (by decide) (by decide) (by decide) (fun _ => ?_) (fun h => absurd (by decide) h)
  refine g_iinc (pc := 109) (v := 2) (ls' := [rv (D, E, true, B) 5 0, iv 1, iv 2, iv 2]) dX5_part_109 (Nat.le_of_ble_eq_true rfl) rfl (by decide +kernel) rfl ?_
  refine g_goto (pc := 112) 35 dX5_part_112 (by decide) ?_
  refine g_iload_n (pc := 35) dX5_part_35 rfl ?_
  refine g_aload_n (pc := 36) dX5_part_36 rfl ?_
  refine fg_X5_part_101 (pc := 37) (by rfl) dX5_part_37 ?_
  refine g_top (b := 2) (by decide +kernel) ?_
  refine g_icmp_ge (pc := 40) 115 dX5_part_40 (by decide) (by decide) (by decide) (fun _ => ?_) (fun h => absurd (by decide) h)
  refine g_iinc (pc := 115) (v := 2) (ls' := [rv (D, E, true, B) 5 0, iv 2, iv 2, iv 2]) dX5_part_115 (Nat.le_of_ble_eq_true rfl) rfl (by decide +kernel) rfl ?_
  refine g_goto (pc := 118) 25 dX5_part_118 (by decide) ?_
  refine g_iload_n (pc := 25) dX5_part_25 rfl ?_
  refine g_aload_n (pc := 26) dX5_part_26 rfl ?_
  refine fg_X5_part_101 (pc := 27) (by rfl) dX5_part_27 ?_
  refine g_top (b := 2) (by decide +kernel) ?_
  refine g_icmp_ge (pc := 30) 121 dX5_part_30 (by decide) (by decide) (by decide) (fun _ => ?_) (fun h => absurd (by decide) h)
  refine g_iconst (pc := 121) (v := 0) dX5_part_121 (by decide +kernel) ?_
  refine g_istore_n (pc := 122) (ls' := [rv (D, E, true, B) 5 0, iv 0, iv 2, iv 2]) dX5_part_122 (Nat.le_of_ble_eq_true rfl) (Nat.le_of_ble_eq_true rfl) rfl ?_
  refine g_iconst (pc := 123) (v := 0) dX5_part_123 (by decide +kernel) ?_
  refine g_istore_n (pc := 124) (ls' := [rv (D, E, true, B) 5 0, iv 0, iv 0, iv 2]) dX5_part_124 (Nat.le_of_ble_eq_true rfl) (Nat.le_of_ble_eq_true rfl) rfl ?_
  refine g_iload_n (pc := 125) dX5_part_125 rfl ?_
  refine g_aload_n (pc := 126) dX5_part_126 rfl ?_
  refine fg_X5_part_101 (pc := 127) (by rfl) dX5_part_127 ?_
  refine g_top (b := 2) (by decide +kernel) ?_
  refine g_icmp_ge (pc := 130) 157 dX5_part_130 (by decide) (by decide) (by decide) (fun h => absurd h (by decide)) (fun _ => ?_)
  refine g_iload_n (pc := 133) dX5_part_133 rfl ?_
  refine g_aload_n (pc := 134) dX5_part_134 rfl ?_
  refine fg_X5_part_80 (pc := 135) (by rfl) dX5_part_135 ?_
  refine g_iload_n (pc := 138) dX5_part_138 rfl ?_
  refine g_iaload (pc := 139) (k := 61) (i := 0) (n := 24) (show 0 < 1 by omega) rfl (by decide) (by decide) dX5_part_139 ?_
  refine g_top (b := 0) (by decide +kernel) ?_
  refine g_iload_n (pc := 140) dX5_part_140 rfl ?_
  refine g_icmp_ne (pc := 141) 148 dX5_part_141 (by decide) (by decide) (by decide) (fun h => absurd (by decide) h) (fun _ => ?_)
  refine g_iconst (pc := 144) (v := 1) dX5_part_144 (by decide +kernel) ?_
  refine g_goto (pc := 145) 149 dX5_part_145 (by decide) ?_
  refine g_iadd (pc := 149) dX5_part_149 ?_
  refine g_top (b := 1) (by decide +kernel) ?_
  refine g_istore_n (pc := 150) (ls' := [rv (D, E, true, B) 5 0, iv 1, iv 0, iv 2]) dX5_part_150 (Nat.le_of_ble_eq_true rfl) (Nat.le_of_ble_eq_true rfl) rfl ?_
  refine g_iinc (pc := 151) (v := 1) (ls' := [rv (D, E, true, B) 5 0, iv 1, iv 1, iv 2]) dX5_part_151 (Nat.le_of_ble_eq_true rfl) rfl (by decide +kernel) rfl ?_
  refine g_goto (pc := 154) 125 dX5_part_154 (by decide) ?_
  refine g_iload_n (pc := 125) dX5_part_125 rfl ?_
  refine g_aload_n (pc := 126) dX5_part_126 rfl ?_
  refine fg_X5_part_101 (pc := 127) (by rfl) dX5_part_127 ?_
  refine g_top (b := 2) (by decide +kernel) ?_
  refine g_icmp_ge (pc := 130) 157 dX5_part_130 (by decide) (by decide) (by decide) (fun h => absurd h (by decide)) (fun _ => ?_)
  refine g_iload_n (pc := 133) dX5_part_133 rfl ?_
  refine g_aload_n (pc := 134) dX5_part_134 rfl ?_
  refine fg_X5_part_80 (pc := 135) (by rfl) dX5_part_135 ?_
  refine g_iload_n (pc := 138) dX5_part_138 rfl ?_
  refine g_iaload (pc := 139) (k := 61) (i := 0) (n := 24) (show 0 < 1 by omega) rfl (by decide) (by decide) dX5_part_139 ?_
  refine g_top (b := 1) (by decide +kernel) ?_
  refine g_iload_n (pc := 140) dX5_part_140 rfl ?_
  refine g_icmp_ne (pc := 141) 148 dX5_part_141 (by decide) (by decide) (by decide) (fun h => absurd (by decide) h) (fun _ => ?_)
  refine g_iconst (pc := 144) (v := 1) dX5_part_144 (by decide +kernel) ?_
  refine g_goto (pc := 145) 149 dX5_part_145 (by decide) ?_
  refine g_iadd (pc := 149) dX5_part_149 ?_
  refine g_top (b := 2) (by decide +kernel) ?_
  refine g_istore_n (pc := 150) (ls' := [rv (D, E, true, B) 5 0, iv 2, iv 1, iv 2]) dX5_part_150 (Nat.le_of_ble_eq_true rfl) (Nat.le_of_ble_eq_true rfl) rfl ?_
  refine g_iinc (pc := 151) (v := 2) (ls' := [rv (D, E, true, B) 5 0, iv 2, iv 2, iv 2]) dX5_part_151 (Nat.le_of_ble_eq_true rfl) rfl (by decide +kernel) rfl ?_
  refine g_goto (pc := 154) 125 dX5_part_154 (by decide) ?_
  refine g_iload_n (pc := 125) dX5_part_125 rfl ?_
  refine g_aload_n (pc := 126) dX5_part_126 rfl ?_
  refine fg_X5_part_101 (pc := 127) (by rfl) dX5_part_127 ?_
  refine g_top (b := 2) (by decide +kernel) ?_
  refine g_icmp_ge (pc := 130) 157 dX5_part_130 (by decide) (by decide) (by decide) (fun _ => ?_) (fun h => absurd (by decide) h)
  refine g_iload_n (pc := 157) dX5_part_157 rfl ?_
  exact g_iret (pc := 158) dX5_part_158 ⟨mg_narI _, Or.inl rfl⟩ ⟨rfl, rfl⟩
/-- X5_isStation(r5.0, 0) at qms2 -/
theorem qm2 (l : Launch) {D : va_G} {E : mg_E} {B : Nat} : mg_C l (D, E, true, B) mX5_isStation [rv (D, E, true, B) 5 0, iv 0] qms2 (fun v g' => v = some 1 ∧ g' = qms2) := by
  refine mg_C.of (by decide) rfl (Nat.le_of_ble_eq_true rfl) (List.forall_mem_cons.mpr ⟨rfl, (List.forall_mem_cons.mpr ⟨rfl, (fun _ h => nomatch h)⟩)⟩) (fun K => ?_)
  refine g_iload_n (pc := 0) dX5_isStation_0 rfl ?_
  refine g_sif_lt (pc := 1) 16 dX5_isStation_1 (by decide) (by decide) (fun h => absurd h (by decide)) (fun _ => ?_)
  refine g_iload_n (pc := 4) dX5_isStation_4 rfl ?_
  refine g_aload_n (pc := 5) dX5_isStation_5 rfl ?_
  refine fg_X5_isStation_101 (pc := 6) (by rfl) dX5_isStation_6 ?_
  refine g_top (b := 2) (by decide +kernel) ?_
  refine g_icmp_ge (pc := 9) 16 dX5_isStation_9 (by decide) (by decide) (by decide) (fun h => absurd h (by decide)) (fun _ => ?_)
  refine g_iconst (pc := 12) (v := 1) dX5_isStation_12 (by decide +kernel) ?_
  refine g_goto (pc := 13) 17 dX5_isStation_13 (by decide) ?_
  exact g_iret (pc := 17) dX5_isStation_17 ⟨mg_narZ (by decide), Or.inr rfl⟩ ⟨rfl, rfl⟩
/-- X5_isStation(r5.0, 1) at qms2 -/
theorem qm3 (l : Launch) {D : va_G} {E : mg_E} {B : Nat} : mg_C l (D, E, true, B) mX5_isStation [rv (D, E, true, B) 5 0, iv 1] qms2 (fun v g' => v = some 1 ∧ g' = qms2) := by
  refine mg_C.of (by decide) rfl (Nat.le_of_ble_eq_true rfl) (List.forall_mem_cons.mpr ⟨rfl, (List.forall_mem_cons.mpr ⟨rfl, (fun _ h => nomatch h)⟩)⟩) (fun K => ?_)
  refine g_iload_n (pc := 0) dX5_isStation_0 rfl ?_
  refine g_sif_lt (pc := 1) 16 dX5_isStation_1 (by decide) (by decide) (fun h => absurd h (by decide)) (fun _ => ?_)
  refine g_iload_n (pc := 4) dX5_isStation_4 rfl ?_
  refine g_aload_n (pc := 5) dX5_isStation_5 rfl ?_
  refine fg_X5_isStation_101 (pc := 6) (by rfl) dX5_isStation_6 ?_
  refine g_top (b := 2) (by decide +kernel) ?_
  refine g_icmp_ge (pc := 9) 16 dX5_isStation_9 (by decide) (by decide) (by decide) (fun h => absurd h (by decide)) (fun _ => ?_)
  refine g_iconst (pc := 12) (v := 1) dX5_isStation_12 (by decide +kernel) ?_
  refine g_goto (pc := 13) 17 dX5_isStation_13 (by decide) ?_
  exact g_iret (pc := 17) dX5_isStation_17 ⟨mg_narZ (by decide), Or.inr rfl⟩ ⟨rfl, rfl⟩
def qms3 : mg_F := mg_up (mg_up (mg_up (qms2) 35 0 1 1) 35 0 24 1) 5 0 4 1
/-- X5_join2(r5.0, 0, 1, 1) at qms2 -/
theorem qm4 (l : Launch) {D : va_G} {E : mg_E} {B : Nat} : mg_C l (D, E, true, B) mX5_join2 [rv (D, E, true, B) 5 0, iv 0, iv 1, iv 1] qms2 (fun v g' => v = none ∧ g' = qms3) := by
  refine mg_C.of (by decide) rfl (Nat.le_of_ble_eq_true rfl) (List.forall_mem_cons.mpr ⟨rfl, (List.forall_mem_cons.mpr ⟨rfl, (List.forall_mem_cons.mpr ⟨rfl, (List.forall_mem_cons.mpr ⟨rfl, (fun _ h => nomatch h)⟩)⟩)⟩)⟩) (fun K => ?_)
  refine g_aload_n (pc := 0) dX5_join2_0 rfl ?_
  refine fg_X5_join2_7 (pc := 1) (by rfl) dX5_join2_1 ?_
  refine g_bipush (pc := 4) (v := 24) dX5_join2_4 (by decide +kernel) ?_
  refine g_iload_n (pc := 6) dX5_join2_6 rfl ?_
  refine g_imul (pc := 7) dX5_join2_7 ?_
  refine g_top (b := 0) (by decide +kernel) ?_
  refine g_iload_n (pc := 8) dX5_join2_8 rfl ?_
  refine g_iadd (pc := 9) dX5_join2_9 ?_
  refine g_top (b := 1) (by decide +kernel) ?_
  refine g_iload_n (pc := 10) dX5_join2_10 rfl ?_
  refine g_bastore (pc := 11) (k := 35) (i := 0) (n := 576) (show 0 < 1 by omega) (fun _ => rfl) (by decide) (by decide) (by decide) dX5_join2_11 ?_
  refine g_aload_n (pc := 12) dX5_join2_12 rfl ?_
  refine fg_X5_join2_7 (pc := 13) (by rfl) dX5_join2_13 ?_
  refine g_bipush (pc := 16) (v := 24) dX5_join2_16 (by decide +kernel) ?_
  refine g_iload_n (pc := 18) dX5_join2_18 rfl ?_
  refine g_imul (pc := 19) dX5_join2_19 ?_
  refine g_top (b := 24) (by decide +kernel) ?_
  refine g_iload_n (pc := 20) dX5_join2_20 rfl ?_
  refine g_iadd (pc := 21) dX5_join2_21 ?_
  refine g_top (b := 24) (by decide +kernel) ?_
  refine g_iload_n (pc := 22) dX5_join2_22 rfl ?_
  refine g_bastore (pc := 23) (k := 35) (i := 0) (n := 576) (show 0 < 1 by omega) (fun _ => rfl) (by decide) (by decide) (by decide) dX5_join2_23 ?_
  refine g_aload_n (pc := 24) dX5_join2_24 rfl ?_
  refine g_dup (pc := 25) dX5_join2_25 rfl ?_
  refine fg_X5_join2_113 (pc := 26) (by rfl) dX5_join2_26 ?_
  refine g_top (b := 0) (by decide +kernel) ?_
  refine g_iload_n (pc := 29) dX5_join2_29 rfl ?_
  refine g_if_eq (pc := 30) 37 dX5_join2_30 (by decide) (by decide) (fun h => absurd h (by decide)) (fun _ => ?_)
  refine g_iconst (pc := 33) (v := 1) dX5_join2_33 (by decide +kernel) ?_
  refine g_goto (pc := 34) 38 dX5_join2_34 (by decide) ?_
  refine g_iadd (pc := 38) dX5_join2_38 ?_
  refine g_top (b := 1) (by decide +kernel) ?_
  refine fp_X5_join2_113 (pc := 39) (by rfl) dX5_join2_39 ?_
  exact g_ret (pc := 42) dX5_join2_42 trivial ⟨rfl, rfl⟩
/-- X5_link(r5.0, 0, 1) at qms1 -/
theorem qm5 (l : Launch) {D : va_G} {E : mg_E} {B : Nat} : mg_C l (D, E, true, B) mX5_link [rv (D, E, true, B) 5 0, iv 0, iv 1] qms1 (fun v g' => v = some 1 ∧ g' = qms3) := by
  refine mg_C.of (by decide) rfl (Nat.le_of_ble_eq_true rfl) (List.forall_mem_cons.mpr ⟨rfl, (List.forall_mem_cons.mpr ⟨rfl, (List.forall_mem_cons.mpr ⟨rfl, (fun _ h => nomatch h)⟩)⟩)⟩) (fun K => ?_)
  refine g_aload_n (pc := 0) dX5_link_0 rfl ?_
  refine g_callVi (pc := 1) (Y' := mX5_part) (As := []) (st := []) (k := 5) (i := 0) (qm1 K.2.1) gX5_link_X5_part rfl (show 0 < 1 by omega) rfl rfl (na := 0) rfl (by decide +kernel) (by decide) (by decide) (Nat.le_of_ble_eq_true rfl) dX5_link_1 (fun r1 g1 hp => ?_)
  obtain ⟨h1, rfl⟩ := hp
  cases h1
  refine g_istore_n (pc := 4) (ls' := [rv (D, E, true, B) 5 0, iv 0, iv 1, iv 2]) dX5_link_4 (Nat.le_of_ble_eq_true rfl) (Nat.le_of_ble_eq_true rfl) rfl ?_
  refine g_aload_n (pc := 5) dX5_link_5 rfl ?_
  refine fg_X5_link_105 (pc := 6) (by rfl) dX5_link_6 ?_
  refine g_top (b := 0) (by decide +kernel) ?_
  refine g_if_ne (pc := 9) 43 dX5_link_9 (by decide) (by decide) (fun h => absurd (by decide) h) (fun _ => ?_)
  refine g_aload_n (pc := 12) dX5_link_12 rfl ?_
  refine g_iload_n (pc := 13) dX5_link_13 rfl ?_
  refine g_callVi (pc := 14) (Y' := mX5_isStation) (As := [iv 0]) (st := []) (k := 5) (i := 0) (qm2 K.2.1) gX5_link_X5_isStation rfl (show 0 < 1 by omega) rfl rfl (na := 1) rfl (by decide +kernel) (by decide) (by decide) (Nat.le_of_ble_eq_true rfl) dX5_link_14 (fun r1 g1 hp => ?_)
  obtain ⟨h1, rfl⟩ := hp
  cases h1
  refine g_if_eq (pc := 17) 43 dX5_link_17 (by decide) (by decide) (fun h => absurd h (by decide)) (fun _ => ?_)
  refine g_aload_n (pc := 20) dX5_link_20 rfl ?_
  refine g_iload_n (pc := 21) dX5_link_21 rfl ?_
  refine g_callVi (pc := 22) (Y' := mX5_isStation) (As := [iv 1]) (st := []) (k := 5) (i := 0) (qm3 K.2.1) gX5_link_X5_isStation rfl (show 0 < 1 by omega) rfl rfl (na := 1) rfl (by decide +kernel) (by decide) (by decide) (Nat.le_of_ble_eq_true rfl) dX5_link_22 (fun r1 g1 hp => ?_)
  obtain ⟨h1, rfl⟩ := hp
  cases h1
  refine g_if_eq (pc := 25) 43 dX5_link_25 (by decide) (by decide) (fun h => absurd h (by decide)) (fun _ => ?_)
  refine g_aload_n (pc := 28) dX5_link_28 rfl ?_
  refine fg_X5_link_80 (pc := 29) (by rfl) dX5_link_29 ?_
  refine g_iload_n (pc := 32) dX5_link_32 rfl ?_
  refine g_iaload (pc := 33) (k := 61) (i := 0) (n := 24) (show 0 < 1 by omega) rfl (by decide) (by decide) dX5_link_33 ?_
  refine g_top (b := 0) (by decide +kernel) ?_
  refine g_aload_n (pc := 34) dX5_link_34 rfl ?_
  refine fg_X5_link_80 (pc := 35) (by rfl) dX5_link_35 ?_
  refine g_iload_n (pc := 38) dX5_link_38 rfl ?_
  refine g_iaload (pc := 39) (k := 61) (i := 0) (n := 24) (show 0 < 1 by omega) rfl (by decide) (by decide) dX5_link_39 ?_
  refine g_top (b := 1) (by decide +kernel) ?_
  refine g_icmp_ne (pc := 40) 45 dX5_link_40 (by decide) (by decide) (by decide) (fun _ => ?_) (fun h => absurd h (by decide))
  refine g_aload_n (pc := 45) dX5_link_45 rfl ?_
  refine g_iload_n (pc := 46) dX5_link_46 rfl ?_
  refine g_iload_n (pc := 47) dX5_link_47 rfl ?_
  refine g_iconst (pc := 48) (v := 1) dX5_link_48 (by decide +kernel) ?_
  refine g_callVv (pc := 49) (Y' := mX5_join2) (As := [iv 0, iv 1, iv 1]) (st := []) (k := 5) (i := 0) (qm4 K.2.1) gX5_link_X5_join2 rfl (show 0 < 1 by omega) rfl rfl (na := 3) rfl (by decide +kernel) (by decide) (by decide) (Nat.le_of_ble_eq_true rfl) dX5_link_49 (fun g1 hp => ?_)
  obtain ⟨-, rfl⟩ := hp
  refine g_aload_n (pc := 52) dX5_link_52 rfl ?_
  refine fg_X5_link_113 (pc := 53) (by rfl) dX5_link_53 ?_
  refine g_top (b := 1) (by decide +kernel) ?_
  exact g_iret (pc := 56) dX5_link_56 ⟨mg_narI _, Or.inl rfl⟩ ⟨rfl, rfl⟩
/-- X5_isStation(r5.0, 0) at qms3 -/
theorem qm6 (l : Launch) {D : va_G} {E : mg_E} {B : Nat} : mg_C l (D, E, true, B) mX5_isStation [rv (D, E, true, B) 5 0, iv 0] qms3 (fun v g' => v = some 1 ∧ g' = qms3) := by
  refine mg_C.of (by decide) rfl (Nat.le_of_ble_eq_true rfl) (List.forall_mem_cons.mpr ⟨rfl, (List.forall_mem_cons.mpr ⟨rfl, (fun _ h => nomatch h)⟩)⟩) (fun K => ?_)
  refine g_iload_n (pc := 0) dX5_isStation_0 rfl ?_
  refine g_sif_lt (pc := 1) 16 dX5_isStation_1 (by decide) (by decide) (fun h => absurd h (by decide)) (fun _ => ?_)
  refine g_iload_n (pc := 4) dX5_isStation_4 rfl ?_
  refine g_aload_n (pc := 5) dX5_isStation_5 rfl ?_
  refine fg_X5_isStation_101 (pc := 6) (by rfl) dX5_isStation_6 ?_
  refine g_top (b := 2) (by decide +kernel) ?_
  refine g_icmp_ge (pc := 9) 16 dX5_isStation_9 (by decide) (by decide) (by decide) (fun h => absurd h (by decide)) (fun _ => ?_)
  refine g_iconst (pc := 12) (v := 1) dX5_isStation_12 (by decide +kernel) ?_
  refine g_goto (pc := 13) 17 dX5_isStation_13 (by decide) ?_
  exact g_iret (pc := 17) dX5_isStation_17 ⟨mg_narZ (by decide), Or.inr rfl⟩ ⟨rfl, rfl⟩
def qms4 : mg_F := mg_up (mg_up (mg_up (mg_up (mg_up (mg_up (mg_up (mg_up (mg_up (mg_up (qms3) 61 0 0 0) 61 0 1 1) 61 0 0 0) 61 0 0 0) 61 0 1 0) 61 0 1 0) 61 0 0 0) 61 0 0 0) 61 0 1 0) 61 0 1 0
/-- X5_part(r5.0) at qms3 -/
theorem qm7 (l : Launch) {D : va_G} {E : mg_E} {B : Nat} : mg_C l (D, E, true, B) mX5_part [rv (D, E, true, B) 5 0] qms3 (fun v g' => v = some 1 ∧ g' = qms4) := by
  refine mg_C.of (by decide) rfl (Nat.le_of_ble_eq_true rfl) (List.forall_mem_cons.mpr ⟨rfl, (fun _ h => nomatch h)⟩) (fun K => ?_)
  refine g_iconst (pc := 0) (v := 0) dX5_part_0 (by decide +kernel) ?_
  refine g_istore_n (pc := 1) (ls' := [rv (D, E, true, B) 5 0, iv 0]) dX5_part_1 (Nat.le_of_ble_eq_true rfl) (Nat.le_of_ble_eq_true rfl) rfl ?_
  refine g_iload_n (pc := 2) dX5_part_2 rfl ?_
  refine g_aload_n (pc := 3) dX5_part_3 rfl ?_
  refine fg_X5_part_101 (pc := 4) (by rfl) dX5_part_4 ?_
  refine g_top (b := 2) (by decide +kernel) ?_
  refine g_icmp_ge (pc := 7) 23 dX5_part_7 (by decide) (by decide) (by decide) (fun h => absurd h (by decide)) (fun _ => ?_)
  refine g_aload_n (pc := 10) dX5_part_10 rfl ?_
  refine fg_X5_part_80 (pc := 11) (by rfl) dX5_part_11 ?_
  refine g_iload_n (pc := 14) dX5_part_14 rfl ?_
  refine g_iload_n (pc := 15) dX5_part_15 rfl ?_
  refine g_iastore (pc := 16) (k := 61) (i := 0) (n := 24) (show 0 < 1 by omega) (fun _ => rfl) (by decide) (by decide) dX5_part_16 ?_
  refine g_iinc (pc := 17) (v := 1) (ls' := [rv (D, E, true, B) 5 0, iv 1]) dX5_part_17 (Nat.le_of_ble_eq_true rfl) rfl (by decide +kernel) rfl ?_
  refine g_goto (pc := 20) 2 dX5_part_20 (by decide) ?_
  refine g_iload_n (pc := 2) dX5_part_2 rfl ?_
  refine g_aload_n (pc := 3) dX5_part_3 rfl ?_
  refine fg_X5_part_101 (pc := 4) (by rfl) dX5_part_4 ?_
  refine g_top (b := 2) (by decide +kernel) ?_
  refine g_icmp_ge (pc := 7) 23 dX5_part_7 (by decide) (by decide) (by decide) (fun h => absurd h (by decide)) (fun _ => ?_)
  refine g_aload_n (pc := 10) dX5_part_10 rfl ?_
  refine fg_X5_part_80 (pc := 11) (by rfl) dX5_part_11 ?_
  refine g_iload_n (pc := 14) dX5_part_14 rfl ?_
  refine g_iload_n (pc := 15) dX5_part_15 rfl ?_
  refine g_iastore (pc := 16) (k := 61) (i := 0) (n := 24) (show 0 < 1 by omega) (fun _ => rfl) (by decide) (by decide) dX5_part_16 ?_
  refine g_iinc (pc := 17) (v := 2) (ls' := [rv (D, E, true, B) 5 0, iv 2]) dX5_part_17 (Nat.le_of_ble_eq_true rfl) rfl (by decide +kernel) rfl ?_
  refine g_goto (pc := 20) 2 dX5_part_20 (by decide) ?_
  refine g_iload_n (pc := 2) dX5_part_2 rfl ?_
  refine g_aload_n (pc := 3) dX5_part_3 rfl ?_
  refine fg_X5_part_101 (pc := 4) (by rfl) dX5_part_4 ?_
  refine g_top (b := 2) (by decide +kernel) ?_
  refine g_icmp_ge (pc := 7) 23 dX5_part_7 (by decide) (by decide) (by decide) (fun _ => ?_) (fun h => absurd (by decide) h)
  refine g_iconst (pc := 23) (v := 0) dX5_part_23 (by decide +kernel) ?_
  refine g_istore_n (pc := 24) (ls' := [rv (D, E, true, B) 5 0, iv 0]) dX5_part_24 (Nat.le_of_ble_eq_true rfl) (Nat.le_of_ble_eq_true rfl) rfl ?_
  refine g_iload_n (pc := 25) dX5_part_25 rfl ?_
  refine g_aload_n (pc := 26) dX5_part_26 rfl ?_
  refine fg_X5_part_101 (pc := 27) (by rfl) dX5_part_27 ?_
  refine g_top (b := 2) (by decide +kernel) ?_
  refine g_icmp_ge (pc := 30) 121 dX5_part_30 (by decide) (by decide) (by decide) (fun h => absurd h (by decide)) (fun _ => ?_)
  refine g_iconst (pc := 33) (v := 0) dX5_part_33 (by decide +kernel) ?_
  refine g_istore_n (pc := 34) (ls' := [rv (D, E, true, B) 5 0, iv 0, iv 0]) dX5_part_34 (Nat.le_of_ble_eq_true rfl) (Nat.le_of_ble_eq_true rfl) rfl ?_
  refine g_iload_n (pc := 35) dX5_part_35 rfl ?_
  refine g_aload_n (pc := 36) dX5_part_36 rfl ?_
  refine fg_X5_part_101 (pc := 37) (by rfl) dX5_part_37 ?_
  refine g_top (b := 2) (by decide +kernel) ?_
  refine g_icmp_ge (pc := 40) 115 dX5_part_40 (by decide) (by decide) (by decide) (fun h => absurd h (by decide)) (fun _ => ?_)
  refine g_iconst (pc := 43) (v := 0) dX5_part_43 (by decide +kernel) ?_
  refine g_istore_n (pc := 44) (ls' := [rv (D, E, true, B) 5 0, iv 0, iv 0, iv 0]) dX5_part_44 (Nat.le_of_ble_eq_true rfl) (Nat.le_of_ble_eq_true rfl) rfl ?_
  refine g_iload_n (pc := 45) dX5_part_45 rfl ?_
  refine g_aload_n (pc := 46) dX5_part_46 rfl ?_
  refine fg_X5_part_101 (pc := 47) (by rfl) dX5_part_47 ?_
  refine g_top (b := 2) (by decide +kernel) ?_
  refine g_icmp_ge (pc := 50) 109 dX5_part_50 (by decide) (by decide) (by decide) (fun h => absurd h (by decide)) (fun _ => ?_)
  refine g_aload_n (pc := 53) dX5_part_53 rfl ?_
  refine fg_X5_part_80 (pc := 54) (by rfl) dX5_part_54 ?_
  refine g_iload_n (pc := 57) dX5_part_57 rfl ?_
  refine g_aload_n (pc := 58) dX5_part_58 rfl ?_
  refine fg_X5_part_7 (pc := 59) (by rfl) dX5_part_59 ?_
  refine g_bipush (pc := 62) (v := 24) dX5_part_62 (by decide +kernel) ?_
  refine g_iload_n (pc := 64) dX5_part_64 rfl ?_
  refine g_imul (pc := 65) dX5_part_65 ?_
  refine g_top (b := 0) (by decide +kernel) ?_
  refine g_iload_n (pc := 66) dX5_part_66 rfl ?_
  refine g_iadd (pc := 67) dX5_part_67 ?_
  refine g_top (b := 0) (by decide +kernel) ?_
  refine g_baload (pc := 68) (k := 35) (i := 0) (n := 576) (show 0 < 1 by omega) rfl (by decide) (by decide) dX5_part_68 ?_
  refine g_top (b := 0) (by decide +kernel) ?_
  refine g_if_eq (pc := 69) 96 dX5_part_69 (by decide) (by decide) (fun _ => ?_) (fun h => absurd (by decide) h)
  refine g_aload_n (pc := 96) dX5_part_96 rfl ?_
  refine fg_X5_part_80 (pc := 97) (by rfl) dX5_part_97 ?_
  refine g_iload_n (pc := 100) dX5_part_100 rfl ?_
  refine g_iaload (pc := 101) (k := 61) (i := 0) (n := 24) (show 0 < 1 by omega) rfl (by decide) (by decide) dX5_part_101 ?_
  refine g_top (b := 0) (by decide +kernel) ?_
  refine g_iastore (pc := 102) (k := 61) (i := 0) (n := 24) (show 0 < 1 by omega) (fun _ => rfl) (by decide) (by decide) dX5_part_102 ?_
  refine g_iinc (pc := 103) (v := 1) (ls' := [rv (D, E, true, B) 5 0, iv 0, iv 0, iv 1]) dX5_part_103 (Nat.le_of_ble_eq_true rfl) rfl (by decide +kernel) rfl ?_
  refine g_goto (pc := 106) 45 dX5_part_106 (by decide) ?_
  refine g_iload_n (pc := 45) dX5_part_45 rfl ?_
  refine g_aload_n (pc := 46) dX5_part_46 rfl ?_
  refine fg_X5_part_101 (pc := 47) (by rfl) dX5_part_47 ?_
  refine g_top (b := 2) (by decide +kernel) ?_
  refine g_icmp_ge (pc := 50) 109 dX5_part_50 (by decide) (by decide) (by decide) (fun h => absurd h (by decide)) (fun _ => ?_)
  refine g_aload_n (pc := 53) dX5_part_53 rfl ?_
  refine fg_X5_part_80 (pc := 54) (by rfl) dX5_part_54 ?_
  refine g_iload_n (pc := 57) dX5_part_57 rfl ?_
  refine g_aload_n (pc := 58) dX5_part_58 rfl ?_
  refine fg_X5_part_7 (pc := 59) (by rfl) dX5_part_59 ?_
  refine g_bipush (pc := 62) (v := 24) dX5_part_62 (by decide +kernel) ?_
  refine g_iload_n (pc := 64) dX5_part_64 rfl ?_
  refine g_imul (pc := 65) dX5_part_65 ?_
  refine g_top (b := 0) (by decide +kernel) ?_
  refine g_iload_n (pc := 66) dX5_part_66 rfl ?_
  refine g_iadd (pc := 67) dX5_part_67 ?_
  refine g_top (b := 1) (by decide +kernel) ?_
  refine g_baload (pc := 68) (k := 35) (i := 0) (n := 576) (show 0 < 1 by omega) rfl (by decide) (by decide) dX5_part_68 ?_
  refine g_top (b := 1) (by decide +kernel) ?_
  refine g_if_eq (pc := 69) 96 dX5_part_69 (by decide) (by decide) (fun h => absurd h (by decide)) (fun _ => ?_)
  refine g_aload_n (pc := 72) dX5_part_72 rfl ?_
  refine fg_X5_part_80 (pc := 73) (by rfl) dX5_part_73 ?_
  refine g_iload_n (pc := 76) dX5_part_76 rfl ?_
  refine g_iaload (pc := 77) (k := 61) (i := 0) (n := 24) (show 0 < 1 by omega) rfl (by decide) (by decide) dX5_part_77 ?_
  refine g_top (b := 1) (by decide +kernel) ?_
  refine g_aload_n (pc := 78) dX5_part_78 rfl ?_
  refine fg_X5_part_80 (pc := 79) (by rfl) dX5_part_79 ?_
  refine g_iload_n (pc := 82) dX5_part_82 rfl ?_
  refine g_iaload (pc := 83) (k := 61) (i := 0) (n := 24) (show 0 < 1 by omega) rfl (by decide) (by decide) dX5_part_83 ?_
  refine g_top (b := 0) (by decide +kernel) ?_
  refine g_icmp_ge (pc := 84) 96 dX5_part_84 (by decide) (by decide) (by decide) (fun _ => ?_) (fun h => absurd (by decide) h)
  refine g_aload_n (pc := 96) dX5_part_96 rfl ?_
  refine fg_X5_part_80 (pc := 97) (by rfl) dX5_part_97 ?_
  refine g_iload_n (pc := 100) dX5_part_100 rfl ?_
  refine g_iaload (pc := 101) (k := 61) (i := 0) (n := 24) (show 0 < 1 by omega) rfl (by decide) (by decide) dX5_part_101 ?_
  refine g_top (b := 0) (by decide +kernel) ?_
  refine g_iastore (pc := 102) (k := 61) (i := 0) (n := 24) (show 0 < 1 by omega) (fun _ => rfl) (by decide) (by decide) dX5_part_102 ?_
  refine g_iinc (pc := 103) (v := 2) (ls' := [rv (D, E, true, B) 5 0, iv 0, iv 0, iv 2]) dX5_part_103 (Nat.le_of_ble_eq_true rfl) rfl (by decide +kernel) rfl ?_
  refine g_goto (pc := 106) 45 dX5_part_106 (by decide) ?_
  refine g_iload_n (pc := 45) dX5_part_45 rfl ?_
  refine g_aload_n (pc := 46) dX5_part_46 rfl ?_
  refine fg_X5_part_101 (pc := 47) (by rfl) dX5_part_47 ?_
  refine g_top (b := 2) (by decide +kernel) ?_
  refine g_icmp_ge (pc := 50) 109 dX5_part_50 (by decide) (by decide) (by decide) (fun _ => ?_) (fun h => absurd (by decide) h)
  refine g_iinc (pc := 109) (v := 1) (ls' := [rv (D, E, true, B) 5 0, iv 0, iv 1, iv 2]) dX5_part_109 (Nat.le_of_ble_eq_true rfl) rfl (by decide +kernel) rfl ?_
  refine g_goto (pc := 112) 35 dX5_part_112 (by decide) ?_
  refine g_iload_n (pc := 35) dX5_part_35 rfl ?_
  refine g_aload_n (pc := 36) dX5_part_36 rfl ?_
  refine fg_X5_part_101 (pc := 37) (by rfl) dX5_part_37 ?_
  refine g_top (b := 2) (by decide +kernel) ?_
  refine g_icmp_ge (pc := 40) 115 dX5_part_40 (by decide) (by decide) (by decide) (fun h => absurd h (by decide)) (fun _ => ?_)
  refine g_iconst (pc := 43) (v := 0) dX5_part_43 (by decide +kernel) ?_
  refine g_istore_n (pc := 44) (ls' := [rv (D, E, true, B) 5 0, iv 0, iv 1, iv 0]) dX5_part_44 (Nat.le_of_ble_eq_true rfl) (Nat.le_of_ble_eq_true rfl) rfl ?_
  refine g_iload_n (pc := 45) dX5_part_45 rfl ?_
  refine g_aload_n (pc := 46) dX5_part_46 rfl ?_
  refine fg_X5_part_101 (pc := 47) (by rfl) dX5_part_47 ?_
  refine g_top (b := 2) (by decide +kernel) ?_
  refine g_icmp_ge (pc := 50) 109 dX5_part_50 (by decide) (by decide) (by decide) (fun h => absurd h (by decide)) (fun _ => ?_)
  refine g_aload_n (pc := 53) dX5_part_53 rfl ?_
  refine fg_X5_part_80 (pc := 54) (by rfl) dX5_part_54 ?_
  refine g_iload_n (pc := 57) dX5_part_57 rfl ?_
  refine g_aload_n (pc := 58) dX5_part_58 rfl ?_
  refine fg_X5_part_7 (pc := 59) (by rfl) dX5_part_59 ?_
  refine g_bipush (pc := 62) (v := 24) dX5_part_62 (by decide +kernel) ?_
  refine g_iload_n (pc := 64) dX5_part_64 rfl ?_
  refine g_imul (pc := 65) dX5_part_65 ?_
  refine g_top (b := 24) (by decide +kernel) ?_
  refine g_iload_n (pc := 66) dX5_part_66 rfl ?_
  refine g_iadd (pc := 67) dX5_part_67 ?_
  refine g_top (b := 24) (by decide +kernel) ?_
  refine g_baload (pc := 68) (k := 35) (i := 0) (n := 576) (show 0 < 1 by omega) rfl (by decide) (by decide) dX5_part_68 ?_
  refine g_top (b := 1) (by decide +kernel) ?_
  refine g_if_eq (pc := 69) 96 dX5_part_69 (by decide) (by decide) (fun h => absurd h (by decide)) (fun _ => ?_)
  refine g_aload_n (pc := 72) dX5_part_72 rfl ?_
  refine fg_X5_part_80 (pc := 73) (by rfl) dX5_part_73 ?_
  refine g_iload_n (pc := 76) dX5_part_76 rfl ?_
  refine g_iaload (pc := 77) (k := 61) (i := 0) (n := 24) (show 0 < 1 by omega) rfl (by decide) (by decide) dX5_part_77 ?_
  refine g_top (b := 0) (by decide +kernel) ?_
  refine g_aload_n (pc := 78) dX5_part_78 rfl ?_
  refine fg_X5_part_80 (pc := 79) (by rfl) dX5_part_79 ?_
  refine g_iload_n (pc := 82) dX5_part_82 rfl ?_
  refine g_iaload (pc := 83) (k := 61) (i := 0) (n := 24) (show 0 < 1 by omega) rfl (by decide) (by decide) dX5_part_83 ?_
  refine g_top (b := 1) (by decide +kernel) ?_
  refine g_icmp_ge (pc := 84) 96 dX5_part_84 (by decide) (by decide) (by decide) (fun h => absurd h (by decide)) (fun _ => ?_)
  refine g_aload_n (pc := 87) dX5_part_87 rfl ?_
  refine fg_X5_part_80 (pc := 88) (by rfl) dX5_part_88 ?_
  refine g_iload_n (pc := 91) dX5_part_91 rfl ?_
  refine g_iaload (pc := 92) (k := 61) (i := 0) (n := 24) (show 0 < 1 by omega) rfl (by decide) (by decide) dX5_part_92 ?_
  refine g_top (b := 0) (by decide +kernel) ?_
  refine g_goto (pc := 93) 102 dX5_part_93 (by decide) ?_
  refine g_iastore (pc := 102) (k := 61) (i := 0) (n := 24) (show 0 < 1 by omega) (fun _ => rfl) (by decide) (by decide) dX5_part_102 ?_
  refine g_iinc (pc := 103) (v := 1) (ls' := [rv (D, E, true, B) 5 0, iv 0, iv 1, iv 1]) dX5_part_103 (Nat.le_of_ble_eq_true rfl) rfl (by decide +kernel) rfl ?_
  refine g_goto (pc := 106) 45 dX5_part_106 (by decide) ?_
  refine g_iload_n (pc := 45) dX5_part_45 rfl ?_
  refine g_aload_n (pc := 46) dX5_part_46 rfl ?_
  refine fg_X5_part_101 (pc := 47) (by rfl) dX5_part_47 ?_
  refine g_top (b := 2) (by decide +kernel) ?_
  refine g_icmp_ge (pc := 50) 109 dX5_part_50 (by decide) (by decide) (by decide) (fun h => absurd h (by decide)) (fun _ => ?_)
  refine g_aload_n (pc := 53) dX5_part_53 rfl ?_
  refine fg_X5_part_80 (pc := 54) (by rfl) dX5_part_54 ?_
  refine g_iload_n (pc := 57) dX5_part_57 rfl ?_
  refine g_aload_n (pc := 58) dX5_part_58 rfl ?_
  refine fg_X5_part_7 (pc := 59) (by rfl) dX5_part_59 ?_
  refine g_bipush (pc := 62) (v := 24) dX5_part_62 (by decide +kernel) ?_
  refine g_iload_n (pc := 64) dX5_part_64 rfl ?_
  refine g_imul (pc := 65) dX5_part_65 ?_
  refine g_top (b := 24) (by decide +kernel) ?_
  refine g_iload_n (pc := 66) dX5_part_66 rfl ?_
  refine g_iadd (pc := 67) dX5_part_67 ?_
  refine g_top (b := 25) (by decide +kernel) ?_
  refine g_baload (pc := 68) (k := 35) (i := 0) (n := 576) (show 0 < 1 by omega) rfl (by decide) (by decide) dX5_part_68 ?_
  refine g_top (b := 0) (by decide +kernel) ?_
  refine g_if_eq (pc := 69) 96 dX5_part_69 (by decide) (by decide) (fun _ => ?_) (fun h => absurd (by decide) h)
  refine g_aload_n (pc := 96) dX5_part_96 rfl ?_
  refine fg_X5_part_80 (pc := 97) (by rfl) dX5_part_97 ?_
  refine g_iload_n (pc := 100) dX5_part_100 rfl ?_
  refine g_iaload (pc := 101) (k := 61) (i := 0) (n := 24) (show 0 < 1 by omega) rfl (by decide) (by decide) dX5_part_101 ?_
  refine g_top (b := 0) (by decide +kernel) ?_
  refine g_iastore (pc := 102) (k := 61) (i := 0) (n := 24) (show 0 < 1 by omega) (fun _ => rfl) (by decide) (by decide) dX5_part_102 ?_
  refine g_iinc (pc := 103) (v := 2) (ls' := [rv (D, E, true, B) 5 0, iv 0, iv 1, iv 2]) dX5_part_103 (Nat.le_of_ble_eq_true rfl) rfl (by decide +kernel) rfl ?_
  refine g_goto (pc := 106) 45 dX5_part_106 (by decide) ?_
  refine g_iload_n (pc := 45) dX5_part_45 rfl ?_
  refine g_aload_n (pc := 46) dX5_part_46 rfl ?_
  refine fg_X5_part_101 (pc := 47) (by rfl) dX5_part_47 ?_
  refine g_top (b := 2) (by decide +kernel) ?_
  refine g_icmp_ge (pc := 50) 109 dX5_part_50 (by decide) (by decide) (by decide) (fun _ => ?_) (fun h => absurd (by decide) h)
  refine g_iinc (pc := 109) (v := 2) (ls' := [rv (D, E, true, B) 5 0, iv 0, iv 2, iv 2]) dX5_part_109 (Nat.le_of_ble_eq_true rfl) rfl (by decide +kernel) rfl ?_
  refine g_goto (pc := 112) 35 dX5_part_112 (by decide) ?_
  refine g_iload_n (pc := 35) dX5_part_35 rfl ?_
  refine g_aload_n (pc := 36) dX5_part_36 rfl ?_
  refine fg_X5_part_101 (pc := 37) (by rfl) dX5_part_37 ?_
  refine g_top (b := 2) (by decide +kernel) ?_
  refine g_icmp_ge (pc := 40) 115 dX5_part_40 (by decide) (by decide) (by decide) (fun _ => ?_) (fun h => absurd (by decide) h)
  refine g_iinc (pc := 115) (v := 1) (ls' := [rv (D, E, true, B) 5 0, iv 1, iv 2, iv 2]) dX5_part_115 (Nat.le_of_ble_eq_true rfl) rfl (by decide +kernel) rfl ?_
  refine g_goto (pc := 118) 25 dX5_part_118 (by decide) ?_
  refine g_iload_n (pc := 25) dX5_part_25 rfl ?_
  refine g_aload_n (pc := 26) dX5_part_26 rfl ?_
  refine fg_X5_part_101 (pc := 27) (by rfl) dX5_part_27 ?_
  refine g_top (b := 2) (by decide +kernel) ?_
  refine g_icmp_ge (pc := 30) 121 dX5_part_30 (by decide) (by decide) (by decide) (fun h => absurd h (by decide)) (fun _ => ?_)
  refine g_iconst (pc := 33) (v := 0) dX5_part_33 (by decide +kernel) ?_
  refine g_istore_n (pc := 34) (ls' := [rv (D, E, true, B) 5 0, iv 1, iv 0, iv 2]) dX5_part_34 (Nat.le_of_ble_eq_true rfl) (Nat.le_of_ble_eq_true rfl) rfl ?_
  refine g_iload_n (pc := 35) dX5_part_35 rfl ?_
  refine g_aload_n (pc := 36) dX5_part_36 rfl ?_
  refine fg_X5_part_101 (pc := 37) (by rfl) dX5_part_37 ?_
  refine g_top (b := 2) (by decide +kernel) ?_
  refine g_icmp_ge (pc := 40) 115 dX5_part_40 (by decide) (by decide) (by decide) (fun h => absurd h (by decide)) (fun _ => ?_)
  refine g_iconst (pc := 43) (v := 0) dX5_part_43 (by decide +kernel) ?_
  refine g_istore_n (pc := 44) (ls' := [rv (D, E, true, B) 5 0, iv 1, iv 0, iv 0]) dX5_part_44 (Nat.le_of_ble_eq_true rfl) (Nat.le_of_ble_eq_true rfl) rfl ?_
  refine g_iload_n (pc := 45) dX5_part_45 rfl ?_
  refine g_aload_n (pc := 46) dX5_part_46 rfl ?_
  refine fg_X5_part_101 (pc := 47) (by rfl) dX5_part_47 ?_
  refine g_top (b := 2) (by decide +kernel) ?_
  refine g_icmp_ge (pc := 50) 109 dX5_part_50 (by decide) (by decide) (by decide) (fun h => absurd h (by decide)) (fun _ => ?_)
  refine g_aload_n (pc := 53) dX5_part_53 rfl ?_
  refine fg_X5_part_80 (pc := 54) (by rfl) dX5_part_54 ?_
  refine g_iload_n (pc := 57) dX5_part_57 rfl ?_
  refine g_aload_n (pc := 58) dX5_part_58 rfl ?_
  refine fg_X5_part_7 (pc := 59) (by rfl) dX5_part_59 ?_
  refine g_bipush (pc := 62) (v := 24) dX5_part_62 (by decide +kernel) ?_
  refine g_iload_n (pc := 64) dX5_part_64 rfl ?_
  refine g_imul (pc := 65) dX5_part_65 ?_
  refine g_top (b := 0) (by decide +kernel) ?_
  refine g_iload_n (pc := 66) dX5_part_66 rfl ?_
  refine g_iadd (pc := 67) dX5_part_67 ?_
  refine g_top (b := 0) (by decide +kernel) ?_
  refine g_baload (pc := 68) (k := 35) (i := 0) (n := 576) (show 0 < 1 by omega) rfl (by decide) (by decide) dX5_part_68 ?_
  refine g_top (b := 0) (by decide +kernel) ?_
  refine g_if_eq (pc := 69) 96 dX5_part_69 (by decide) (by decide) (fun _ => ?_) (fun h => absurd (by decide) h)
  refine g_aload_n (pc := 96) dX5_part_96 rfl ?_
  refine fg_X5_part_80 (pc := 97) (by rfl) dX5_part_97 ?_
  refine g_iload_n (pc := 100) dX5_part_100 rfl ?_
  refine g_iaload (pc := 101) (k := 61) (i := 0) (n := 24) (show 0 < 1 by omega) rfl (by decide) (by decide) dX5_part_101 ?_
  refine g_top (b := 0) (by decide +kernel) ?_
  refine g_iastore (pc := 102) (k := 61) (i := 0) (n := 24) (show 0 < 1 by omega) (fun _ => rfl) (by decide) (by decide) dX5_part_102 ?_
  refine g_iinc (pc := 103) (v := 1) (ls' := [rv (D, E, true, B) 5 0, iv 1, iv 0, iv 1]) dX5_part_103 (Nat.le_of_ble_eq_true rfl) rfl (by decide +kernel) rfl ?_
  refine g_goto (pc := 106) 45 dX5_part_106 (by decide) ?_
  refine g_iload_n (pc := 45) dX5_part_45 rfl ?_
  refine g_aload_n (pc := 46) dX5_part_46 rfl ?_
  refine fg_X5_part_101 (pc := 47) (by rfl) dX5_part_47 ?_
  refine g_top (b := 2) (by decide +kernel) ?_
  refine g_icmp_ge (pc := 50) 109 dX5_part_50 (by decide) (by decide) (by decide) (fun h => absurd h (by decide)) (fun _ => ?_)
  refine g_aload_n (pc := 53) dX5_part_53 rfl ?_
  refine fg_X5_part_80 (pc := 54) (by rfl) dX5_part_54 ?_
  refine g_iload_n (pc := 57) dX5_part_57 rfl ?_
  refine g_aload_n (pc := 58) dX5_part_58 rfl ?_
  refine fg_X5_part_7 (pc := 59) (by rfl) dX5_part_59 ?_
  refine g_bipush (pc := 62) (v := 24) dX5_part_62 (by decide +kernel) ?_
  refine g_iload_n (pc := 64) dX5_part_64 rfl ?_
  refine g_imul (pc := 65) dX5_part_65 ?_
  refine g_top (b := 0) (by decide +kernel) ?_
  refine g_iload_n (pc := 66) dX5_part_66 rfl ?_
  refine g_iadd (pc := 67) dX5_part_67 ?_
  refine g_top (b := 1) (by decide +kernel) ?_
  refine g_baload (pc := 68) (k := 35) (i := 0) (n := 576) (show 0 < 1 by omega) rfl (by decide) (by decide) dX5_part_68 ?_
  refine g_top (b := 1) (by decide +kernel) ?_
  refine g_if_eq (pc := 69) 96 dX5_part_69 (by decide) (by decide) (fun h => absurd h (by decide)) (fun _ => ?_)
  refine g_aload_n (pc := 72) dX5_part_72 rfl ?_
  refine fg_X5_part_80 (pc := 73) (by rfl) dX5_part_73 ?_
  refine g_iload_n (pc := 76) dX5_part_76 rfl ?_
  refine g_iaload (pc := 77) (k := 61) (i := 0) (n := 24) (show 0 < 1 by omega) rfl (by decide) (by decide) dX5_part_77 ?_
  refine g_top (b := 0) (by decide +kernel) ?_
  refine g_aload_n (pc := 78) dX5_part_78 rfl ?_
  refine fg_X5_part_80 (pc := 79) (by rfl) dX5_part_79 ?_
  refine g_iload_n (pc := 82) dX5_part_82 rfl ?_
  refine g_iaload (pc := 83) (k := 61) (i := 0) (n := 24) (show 0 < 1 by omega) rfl (by decide) (by decide) dX5_part_83 ?_
  refine g_top (b := 0) (by decide +kernel) ?_
  refine g_icmp_ge (pc := 84) 96 dX5_part_84 (by decide) (by decide) (by decide) (fun _ => ?_) (fun h => absurd (by decide) h)
  refine g_aload_n (pc := 96) dX5_part_96 rfl ?_
  refine fg_X5_part_80 (pc := 97) (by rfl) dX5_part_97 ?_
  refine g_iload_n (pc := 100) dX5_part_100 rfl ?_
  refine g_iaload (pc := 101) (k := 61) (i := 0) (n := 24) (show 0 < 1 by omega) rfl (by decide) (by decide) dX5_part_101 ?_
  refine g_top (b := 0) (by decide +kernel) ?_
  refine g_iastore (pc := 102) (k := 61) (i := 0) (n := 24) (show 0 < 1 by omega) (fun _ => rfl) (by decide) (by decide) dX5_part_102 ?_
  refine g_iinc (pc := 103) (v := 2) (ls' := [rv (D, E, true, B) 5 0, iv 1, iv 0, iv 2]) dX5_part_103 (Nat.le_of_ble_eq_true rfl) rfl (by decide +kernel) rfl ?_
  refine g_goto (pc := 106) 45 dX5_part_106 (by decide) ?_
  refine g_iload_n (pc := 45) dX5_part_45 rfl ?_
  refine g_aload_n (pc := 46) dX5_part_46 rfl ?_
  refine fg_X5_part_101 (pc := 47) (by rfl) dX5_part_47 ?_
  refine g_top (b := 2) (by decide +kernel) ?_
  refine g_icmp_ge (pc := 50) 109 dX5_part_50 (by decide) (by decide) (by decide) (fun _ => ?_) (fun h => absurd (by decide) h)
  refine g_iinc (pc := 109) (v := 1) (ls' := [rv (D, E, true, B) 5 0, iv 1, iv 1, iv 2]) dX5_part_109 (Nat.le_of_ble_eq_true rfl) rfl (by decide +kernel) rfl ?_
  refine g_goto (pc := 112) 35 dX5_part_112 (by decide) ?_
  refine g_iload_n (pc := 35) dX5_part_35 rfl ?_
  refine g_aload_n (pc := 36) dX5_part_36 rfl ?_
  refine fg_X5_part_101 (pc := 37) (by rfl) dX5_part_37 ?_
  refine g_top (b := 2) (by decide +kernel) ?_
  refine g_icmp_ge (pc := 40) 115 dX5_part_40 (by decide) (by decide) (by decide) (fun h => absurd h (by decide)) (fun _ => ?_)
  refine g_iconst (pc := 43) (v := 0) dX5_part_43 (by decide +kernel) ?_
  refine g_istore_n (pc := 44) (ls' := [rv (D, E, true, B) 5 0, iv 1, iv 1, iv 0]) dX5_part_44 (Nat.le_of_ble_eq_true rfl) (Nat.le_of_ble_eq_true rfl) rfl ?_
  refine g_iload_n (pc := 45) dX5_part_45 rfl ?_
  refine g_aload_n (pc := 46) dX5_part_46 rfl ?_
  refine fg_X5_part_101 (pc := 47) (by rfl) dX5_part_47 ?_
  refine g_top (b := 2) (by decide +kernel) ?_
  refine g_icmp_ge (pc := 50) 109 dX5_part_50 (by decide) (by decide) (by decide) (fun h => absurd h (by decide)) (fun _ => ?_)
  refine g_aload_n (pc := 53) dX5_part_53 rfl ?_
  refine fg_X5_part_80 (pc := 54) (by rfl) dX5_part_54 ?_
  refine g_iload_n (pc := 57) dX5_part_57 rfl ?_
  refine g_aload_n (pc := 58) dX5_part_58 rfl ?_
  refine fg_X5_part_7 (pc := 59) (by rfl) dX5_part_59 ?_
  refine g_bipush (pc := 62) (v := 24) dX5_part_62 (by decide +kernel) ?_
  refine g_iload_n (pc := 64) dX5_part_64 rfl ?_
  refine g_imul (pc := 65) dX5_part_65 ?_
  refine g_top (b := 24) (by decide +kernel) ?_
  refine g_iload_n (pc := 66) dX5_part_66 rfl ?_
  refine g_iadd (pc := 67) dX5_part_67 ?_
  refine g_top (b := 24) (by decide +kernel) ?_
  refine g_baload (pc := 68) (k := 35) (i := 0) (n := 576) (show 0 < 1 by omega) rfl (by decide) (by decide) dX5_part_68 ?_
  refine g_top (b := 1) (by decide +kernel) ?_
  refine g_if_eq (pc := 69) 96 dX5_part_69 (by decide) (by decide) (fun h => absurd h (by decide)) (fun _ => ?_)
  refine g_aload_n (pc := 72) dX5_part_72 rfl ?_
  refine fg_X5_part_80 (pc := 73) (by rfl) dX5_part_73 ?_
  refine g_iload_n (pc := 76) dX5_part_76 rfl ?_
  refine g_iaload (pc := 77) (k := 61) (i := 0) (n := 24) (show 0 < 1 by omega) rfl (by decide) (by decide) dX5_part_77 ?_
  refine g_top (b := 0) (by decide +kernel) ?_
  refine g_aload_n (pc := 78) dX5_part_78 rfl ?_
  refine fg_X5_part_80 (pc := 79) (by rfl) dX5_part_79 ?_
  refine g_iload_n (pc := 82) dX5_part_82 rfl ?_
  refine g_iaload (pc := 83) (k := 61) (i := 0) (n := 24) (show 0 < 1 by omega) rfl (by decide) (by decide) dX5_part_83 ?_
  refine g_top (b := 0) (by decide +kernel) ?_
  refine g_icmp_ge (pc := 84) 96 dX5_part_84 (by decide) (by decide) (by decide) (fun _ => ?_) (fun h => absurd (by decide) h)
  refine g_aload_n (pc := 96) dX5_part_96 rfl ?_
  refine fg_X5_part_80 (pc := 97) (by rfl) dX5_part_97 ?_
  refine g_iload_n (pc := 100) dX5_part_100 rfl ?_
  refine g_iaload (pc := 101) (k := 61) (i := 0) (n := 24) (show 0 < 1 by omega) rfl (by decide) (by decide) dX5_part_101 ?_
  refine g_top (b := 0) (by decide +kernel) ?_
  refine g_iastore (pc := 102) (k := 61) (i := 0) (n := 24) (show 0 < 1 by omega) (fun _ => rfl) (by decide) (by decide) dX5_part_102 ?_
  refine g_iinc (pc := 103) (v := 1) (ls' := [rv (D, E, true, B) 5 0, iv 1, iv 1, iv 1]) dX5_part_103 (Nat.le_of_ble_eq_true rfl) rfl (by decide +kernel) rfl ?_
  refine g_goto (pc := 106) 45 dX5_part_106 (by decide) ?_
  refine g_iload_n (pc := 45) dX5_part_45 rfl ?_
  refine g_aload_n (pc := 46) dX5_part_46 rfl ?_
  refine fg_X5_part_101 (pc := 47) (by rfl) dX5_part_47 ?_
  refine g_top (b := 2) (by decide +kernel) ?_
  refine g_icmp_ge (pc := 50) 109 dX5_part_50 (by decide) (by decide) (by decide) (fun h => absurd h (by decide)) (fun _ => ?_)
  refine g_aload_n (pc := 53) dX5_part_53 rfl ?_
  refine fg_X5_part_80 (pc := 54) (by rfl) dX5_part_54 ?_
  refine g_iload_n (pc := 57) dX5_part_57 rfl ?_
  refine g_aload_n (pc := 58) dX5_part_58 rfl ?_
  refine fg_X5_part_7 (pc := 59) (by rfl) dX5_part_59 ?_
  refine g_bipush (pc := 62) (v := 24) dX5_part_62 (by decide +kernel) ?_
  refine g_iload_n (pc := 64) dX5_part_64 rfl ?_
  refine g_imul (pc := 65) dX5_part_65 ?_
  refine g_top (b := 24) (by decide +kernel) ?_
  refine g_iload_n (pc := 66) dX5_part_66 rfl ?_
  refine g_iadd (pc := 67) dX5_part_67 ?_
  refine g_top (b := 25) (by decide +kernel) ?_
  refine g_baload (pc := 68) (k := 35) (i := 0) (n := 576) (show 0 < 1 by omega) rfl (by decide) (by decide) dX5_part_68 ?_
  refine g_top (b := 0) (by decide +kernel) ?_
  refine g_if_eq (pc := 69) 96 dX5_part_69 (by decide) (by decide) (fun _ => ?_) (fun h => absurd (by decide) h)
  refine g_aload_n (pc := 96) dX5_part_96 rfl ?_
  refine fg_X5_part_80 (pc := 97) (by rfl) dX5_part_97 ?_
  refine g_iload_n (pc := 100) dX5_part_100 rfl ?_
  refine g_iaload (pc := 101) (k := 61) (i := 0) (n := 24) (show 0 < 1 by omega) rfl (by decide) (by decide) dX5_part_101 ?_
  refine g_top (b := 0) (by decide +kernel) ?_
  refine g_iastore (pc := 102) (k := 61) (i := 0) (n := 24) (show 0 < 1 by omega) (fun _ => rfl) (by decide) (by decide) dX5_part_102 ?_
  refine g_iinc (pc := 103) (v := 2) (ls' := [rv (D, E, true, B) 5 0, iv 1, iv 1, iv 2]) dX5_part_103 (Nat.le_of_ble_eq_true rfl) rfl (by decide +kernel) rfl ?_
  refine g_goto (pc := 106) 45 dX5_part_106 (by decide) ?_
  refine g_iload_n (pc := 45) dX5_part_45 rfl ?_
  refine g_aload_n (pc := 46) dX5_part_46 rfl ?_
  refine fg_X5_part_101 (pc := 47) (by rfl) dX5_part_47 ?_
  refine g_top (b := 2) (by decide +kernel) ?_
  refine g_icmp_ge (pc := 50) 109 dX5_part_50 (by decide) (by decide) (by decide) (fun _ => ?_) (fun h => absurd (by decide) h)
  refine g_iinc (pc := 109) (v := 2) (ls' := [rv (D, E, true, B) 5 0, iv 1, iv 2, iv 2]) dX5_part_109 (Nat.le_of_ble_eq_true rfl) rfl (by decide +kernel) rfl ?_
  refine g_goto (pc := 112) 35 dX5_part_112 (by decide) ?_
  refine g_iload_n (pc := 35) dX5_part_35 rfl ?_
  refine g_aload_n (pc := 36) dX5_part_36 rfl ?_
  refine fg_X5_part_101 (pc := 37) (by rfl) dX5_part_37 ?_
  refine g_top (b := 2) (by decide +kernel) ?_
  refine g_icmp_ge (pc := 40) 115 dX5_part_40 (by decide) (by decide) (by decide) (fun _ => ?_) (fun h => absurd (by decide) h)
  refine g_iinc (pc := 115) (v := 2) (ls' := [rv (D, E, true, B) 5 0, iv 2, iv 2, iv 2]) dX5_part_115 (Nat.le_of_ble_eq_true rfl) rfl (by decide +kernel) rfl ?_
  refine g_goto (pc := 118) 25 dX5_part_118 (by decide) ?_
  refine g_iload_n (pc := 25) dX5_part_25 rfl ?_
  refine g_aload_n (pc := 26) dX5_part_26 rfl ?_
  refine fg_X5_part_101 (pc := 27) (by rfl) dX5_part_27 ?_
  refine g_top (b := 2) (by decide +kernel) ?_
  refine g_icmp_ge (pc := 30) 121 dX5_part_30 (by decide) (by decide) (by decide) (fun _ => ?_) (fun h => absurd (by decide) h)
  refine g_iconst (pc := 121) (v := 0) dX5_part_121 (by decide +kernel) ?_
  refine g_istore_n (pc := 122) (ls' := [rv (D, E, true, B) 5 0, iv 0, iv 2, iv 2]) dX5_part_122 (Nat.le_of_ble_eq_true rfl) (Nat.le_of_ble_eq_true rfl) rfl ?_
  refine g_iconst (pc := 123) (v := 0) dX5_part_123 (by decide +kernel) ?_
  refine g_istore_n (pc := 124) (ls' := [rv (D, E, true, B) 5 0, iv 0, iv 0, iv 2]) dX5_part_124 (Nat.le_of_ble_eq_true rfl) (Nat.le_of_ble_eq_true rfl) rfl ?_
  refine g_iload_n (pc := 125) dX5_part_125 rfl ?_
  refine g_aload_n (pc := 126) dX5_part_126 rfl ?_
  refine fg_X5_part_101 (pc := 127) (by rfl) dX5_part_127 ?_
  refine g_top (b := 2) (by decide +kernel) ?_
  refine g_icmp_ge (pc := 130) 157 dX5_part_130 (by decide) (by decide) (by decide) (fun h => absurd h (by decide)) (fun _ => ?_)
  refine g_iload_n (pc := 133) dX5_part_133 rfl ?_
  refine g_aload_n (pc := 134) dX5_part_134 rfl ?_
  refine fg_X5_part_80 (pc := 135) (by rfl) dX5_part_135 ?_
  refine g_iload_n (pc := 138) dX5_part_138 rfl ?_
  refine g_iaload (pc := 139) (k := 61) (i := 0) (n := 24) (show 0 < 1 by omega) rfl (by decide) (by decide) dX5_part_139 ?_
  refine g_top (b := 0) (by decide +kernel) ?_
  refine g_iload_n (pc := 140) dX5_part_140 rfl ?_
  refine g_icmp_ne (pc := 141) 148 dX5_part_141 (by decide) (by decide) (by decide) (fun h => absurd (by decide) h) (fun _ => ?_)
  refine g_iconst (pc := 144) (v := 1) dX5_part_144 (by decide +kernel) ?_
  refine g_goto (pc := 145) 149 dX5_part_145 (by decide) ?_
  refine g_iadd (pc := 149) dX5_part_149 ?_
  refine g_top (b := 1) (by decide +kernel) ?_
  refine g_istore_n (pc := 150) (ls' := [rv (D, E, true, B) 5 0, iv 1, iv 0, iv 2]) dX5_part_150 (Nat.le_of_ble_eq_true rfl) (Nat.le_of_ble_eq_true rfl) rfl ?_
  refine g_iinc (pc := 151) (v := 1) (ls' := [rv (D, E, true, B) 5 0, iv 1, iv 1, iv 2]) dX5_part_151 (Nat.le_of_ble_eq_true rfl) rfl (by decide +kernel) rfl ?_
  refine g_goto (pc := 154) 125 dX5_part_154 (by decide) ?_
  refine g_iload_n (pc := 125) dX5_part_125 rfl ?_
  refine g_aload_n (pc := 126) dX5_part_126 rfl ?_
  refine fg_X5_part_101 (pc := 127) (by rfl) dX5_part_127 ?_
  refine g_top (b := 2) (by decide +kernel) ?_
  refine g_icmp_ge (pc := 130) 157 dX5_part_130 (by decide) (by decide) (by decide) (fun h => absurd h (by decide)) (fun _ => ?_)
  refine g_iload_n (pc := 133) dX5_part_133 rfl ?_
  refine g_aload_n (pc := 134) dX5_part_134 rfl ?_
  refine fg_X5_part_80 (pc := 135) (by rfl) dX5_part_135 ?_
  refine g_iload_n (pc := 138) dX5_part_138 rfl ?_
  refine g_iaload (pc := 139) (k := 61) (i := 0) (n := 24) (show 0 < 1 by omega) rfl (by decide) (by decide) dX5_part_139 ?_
  refine g_top (b := 0) (by decide +kernel) ?_
  refine g_iload_n (pc := 140) dX5_part_140 rfl ?_
  refine g_icmp_ne (pc := 141) 148 dX5_part_141 (by decide) (by decide) (by decide) (fun _ => ?_) (fun h => absurd h (by decide))
  refine g_iconst (pc := 148) (v := 0) dX5_part_148 (by decide +kernel) ?_
  refine g_iadd (pc := 149) dX5_part_149 ?_
  refine g_top (b := 1) (by decide +kernel) ?_
  refine g_istore_n (pc := 150) (ls' := [rv (D, E, true, B) 5 0, iv 1, iv 1, iv 2]) dX5_part_150 (Nat.le_of_ble_eq_true rfl) (Nat.le_of_ble_eq_true rfl) rfl ?_
  refine g_iinc (pc := 151) (v := 2) (ls' := [rv (D, E, true, B) 5 0, iv 1, iv 2, iv 2]) dX5_part_151 (Nat.le_of_ble_eq_true rfl) rfl (by decide +kernel) rfl ?_
  refine g_goto (pc := 154) 125 dX5_part_154 (by decide) ?_
  refine g_iload_n (pc := 125) dX5_part_125 rfl ?_
  refine g_aload_n (pc := 126) dX5_part_126 rfl ?_
  refine fg_X5_part_101 (pc := 127) (by rfl) dX5_part_127 ?_
  refine g_top (b := 2) (by decide +kernel) ?_
  refine g_icmp_ge (pc := 130) 157 dX5_part_130 (by decide) (by decide) (by decide) (fun _ => ?_) (fun h => absurd (by decide) h)
  refine g_iload_n (pc := 157) dX5_part_157 rfl ?_
  exact g_iret (pc := 158) dX5_part_158 ⟨mg_narI _, Or.inl rfl⟩ ⟨rfl, rfl⟩
def qms5 : mg_F := mg_up (mg_up (mg_up (mg_up (mg_up (mg_up (qms4) 5 0 1 1) 5 0 2 0) 5 0 3 1) 5 0 15 0) 5 0 21 0) 5 0 26 0
def qms6 : mg_F := mg_up (mg_up (mg_up (mg_up (mg_up (mg_up (mg_up (mg_up (mg_up (mg_up (mg_up (mg_up (mg_up (mg_up (mg_up (mg_up (mg_up (mg_up (mg_up (mg_up (mg_up (mg_up (mg_up (mg_up (mg_up (mg_up (mg_up (mg_up (mo_fl qms5 576) 36 0 0 0) 37 0 0 0) 38 0 0 0) 39 0 0 0) 40 0 0 0) 41 0 0 0) 42 0 0 0) 43 0 0 0) 44 0 0 0) 46 0 0 0) 36 0 1 4294967294) 37 0 1 0) 38 0 1 0) 39 0 1 0) 40 0 1 0) 41 0 1 0) 42 0 1 0) 43 0 1 0) 44 0 1 0) 46 0 1 0) 36 0 0 0) 36 0 0 0) 36 0 1 0) 36 0 1 0) 36 0 0 0) 36 0 0 0) 36 0 1 0) 36 0 1 0
/-- X5_open(r5.0, 0, 0, 1) at qms3 -/
theorem qm8 (l : Launch) {D : va_G} {E : mg_E} {B : Nat} : mg_C l (D, E, true, B) mX5_open [rv (D, E, true, B) 5 0, iv 0, iv 0, iv 1] qms3 (fun v g' => v = some 0 ∧ g' = qms6) := by
  refine mg_C.of (by decide) rfl (Nat.le_of_ble_eq_true rfl) (List.forall_mem_cons.mpr ⟨rfl, (List.forall_mem_cons.mpr ⟨rfl, (List.forall_mem_cons.mpr ⟨rfl, (List.forall_mem_cons.mpr ⟨rfl, (fun _ h => nomatch h)⟩)⟩)⟩)⟩) (fun K => ?_)
  refine g_aload_n (pc := 0) dX5_open_0 rfl ?_
  refine fg_X5_open_105 (pc := 1) (by rfl) dX5_open_1 ?_
  refine g_top (b := 0) (by decide +kernel) ?_
  refine g_if_ne (pc := 4) 42 dX5_open_4 (by decide) (by decide) (fun h => absurd (by decide) h) (fun _ => ?_)
  refine g_aload_n (pc := 7) dX5_open_7 rfl ?_
  refine g_iload_n (pc := 8) dX5_open_8 rfl ?_
  refine g_callVi (pc := 9) (Y' := mX5_isStation) (As := [iv 0]) (st := []) (k := 5) (i := 0) (qm6 K.2.1) gX5_open_X5_isStation rfl (show 0 < 1 by omega) rfl rfl (na := 1) rfl (by decide +kernel) (by decide) (by decide) (Nat.le_of_ble_eq_true rfl) dX5_open_9 (fun r1 g1 hp => ?_)
  obtain ⟨h1, rfl⟩ := hp
  cases h1
  refine g_if_eq (pc := 12) 42 dX5_open_12 (by decide) (by decide) (fun h => absurd h (by decide)) (fun _ => ?_)
  refine g_iload_n (pc := 15) dX5_open_15 rfl ?_
  refine g_sif_lt (pc := 16) 42 dX5_open_16 (by decide) (by decide) (fun h => absurd h (by decide)) (fun _ => ?_)
  refine g_iload_n (pc := 19) dX5_open_19 rfl ?_
  refine g_iconst (pc := 20) (v := 2) dX5_open_20 (by decide +kernel) ?_
  refine g_icmp_gt (pc := 21) 42 dX5_open_21 (by decide) (by decide) (by decide) (fun h => absurd h (by decide)) (fun _ => ?_)
  refine g_iload_n (pc := 24) dX5_open_24 rfl ?_
  refine g_iconst (pc := 25) (v := 1) dX5_open_25 (by decide +kernel) ?_
  refine g_icmp_lt (pc := 26) 42 dX5_open_26 (by decide) (by decide) (by decide) (fun h => absurd h (by decide)) (fun _ => ?_)
  refine g_iload_n (pc := 29) dX5_open_29 rfl ?_
  refine g_iconst (pc := 30) (v := 4) dX5_open_30 (by decide +kernel) ?_
  refine g_icmp_gt (pc := 31) 42 dX5_open_31 (by decide) (by decide) (by decide) (fun h => absurd h (by decide)) (fun _ => ?_)
  refine g_aload_n (pc := 34) dX5_open_34 rfl ?_
  refine g_callVi (pc := 35) (Y' := mX5_part) (As := []) (st := []) (k := 5) (i := 0) (qm7 K.2.1) gX5_open_X5_part rfl (show 0 < 1 by omega) rfl rfl (na := 0) rfl (by decide +kernel) (by decide) (by decide) (Nat.le_of_ble_eq_true rfl) dX5_open_35 (fun r1 g1 hp => ?_)
  obtain ⟨h1, rfl⟩ := hp
  cases h1
  refine g_iconst (pc := 38) (v := 1) dX5_open_38 (by decide +kernel) ?_
  refine g_icmp_le (pc := 39) 44 dX5_open_39 (by decide) (by decide) (by decide) (fun _ => ?_) (fun h => absurd (by decide) h)
  refine g_aload_n (pc := 44) dX5_open_44 rfl ?_
  refine g_iconst (pc := 45) (v := 1) dX5_open_45 (by decide +kernel) ?_
  refine fp_X5_open_105 (pc := 46) (by rfl) (by decide) dX5_open_46 ?_
  refine g_aload_n (pc := 49) dX5_open_49 rfl ?_
  refine g_iload_n (pc := 50) dX5_open_50 rfl ?_
  refine fp_X5_open_124 (pc := 51) (by rfl) dX5_open_51 ?_
  refine g_aload_n (pc := 54) dX5_open_54 rfl ?_
  refine g_iload_n (pc := 55) dX5_open_55 rfl ?_
  refine fp_X5_open_127 (pc := 56) (by rfl) dX5_open_56 ?_
  refine g_aload_n (pc := 59) dX5_open_59 rfl ?_
  refine g_iconst (pc := 60) (v := 0) dX5_open_60 (by decide +kernel) ?_
  refine fp_X5_open_130 (pc := 61) (by rfl) dX5_open_61 ?_
  refine g_aload_n (pc := 64) dX5_open_64 rfl ?_
  refine g_iconst (pc := 65) (v := 0) dX5_open_65 (by decide +kernel) ?_
  refine fp_X5_open_133 (pc := 66) (by rfl) dX5_open_66 ?_
  refine g_aload_n (pc := 69) dX5_open_69 rfl ?_
  refine g_iconst (pc := 70) (v := 0) dX5_open_70 (by decide +kernel) ?_
  refine fp_X5_open_136 (pc := 71) (by rfl) dX5_open_71 ?_
  refine g_iconst (pc := 74) (v := 0) dX5_open_74 (by decide +kernel) ?_
  refine g_istore (pc := 75) (ls' := [rv (D, E, true, B) 5 0, iv 0, iv 0, iv 1, iv 0]) dX5_open_75 (Nat.le_of_ble_eq_true rfl) (Nat.le_of_ble_eq_true rfl) rfl ?_
  refine c_mopen (g := qms5) ?_
  refine g_iconst (pc := 107) (v := 0) dX5_open_107 (by decide +kernel) ?_
  refine g_istore (pc := 108) (ls' := [rv (D, E, true, B) 5 0, iv 0, iv 0, iv 1, iv 0]) dX5_open_108 (Nat.le_of_ble_eq_true rfl) (Nat.le_of_ble_eq_true rfl) rfl ?_
  refine g_iload (pc := 110) dX5_open_110 rfl ?_
  refine g_aload_n (pc := 112) dX5_open_112 rfl ?_
  refine fg_X5_open_101 (pc := 113) (by rfl) dX5_open_113 ?_
  refine g_top (b := 2) (by decide +kernel) ?_
  refine g_icmp_ge (pc := 116) 217 dX5_open_116 (by decide) (by decide) (by decide) (fun h => absurd h (by decide)) (fun _ => ?_)
  refine g_aload_n (pc := 119) dX5_open_119 rfl ?_
  refine fg_X5_open_13 (pc := 120) (by rfl) dX5_open_120 ?_
  refine g_iload (pc := 123) dX5_open_123 rfl ?_
  refine g_iload (pc := 125) dX5_open_125 rfl ?_
  refine g_iload_n (pc := 127) dX5_open_127 rfl ?_
  refine g_icmp_ne (pc := 128) 136 dX5_open_128 (by decide) (by decide) (by decide) (fun h => absurd (by decide) h) (fun _ => ?_)
  refine g_iload (pc := 131) dX5_open_131 rfl ?_
  refine g_goto (pc := 133) 138 dX5_open_133 (by decide) ?_
  refine g_iastore (pc := 138) (k := 36) (i := 0) (n := 24) (show 0 < 1 by omega) (fun _ => rfl) (by decide) (by decide) dX5_open_138 ?_
  refine g_aload_n (pc := 139) dX5_open_139 rfl ?_
  refine fg_X5_open_17 (pc := 140) (by rfl) dX5_open_140 ?_
  refine g_iload (pc := 143) dX5_open_143 rfl ?_
  refine g_iconst (pc := 145) (v := 0) dX5_open_145 (by decide +kernel) ?_
  refine g_bastore (pc := 146) (k := 37) (i := 0) (n := 24) (show 0 < 1 by omega) (fun _ => rfl) (by decide) (by decide) (by decide) dX5_open_146 ?_
  refine g_aload_n (pc := 147) dX5_open_147 rfl ?_
  refine fg_X5_open_20 (pc := 148) (by rfl) dX5_open_148 ?_
  refine g_iload (pc := 151) dX5_open_151 rfl ?_
  refine g_iconst (pc := 153) (v := 0) dX5_open_153 (by decide +kernel) ?_
  refine g_bastore (pc := 154) (k := 38) (i := 0) (n := 24) (show 0 < 1 by omega) (fun _ => rfl) (by decide) (by decide) (by decide) dX5_open_154 ?_
  refine g_aload_n (pc := 155) dX5_open_155 rfl ?_
  refine fg_X5_open_23 (pc := 156) (by rfl) dX5_open_156 ?_
  refine g_iload (pc := 159) dX5_open_159 rfl ?_
  refine g_iconst (pc := 161) (v := 0) dX5_open_161 (by decide +kernel) ?_
  refine g_bastore (pc := 162) (k := 39) (i := 0) (n := 24) (show 0 < 1 by omega) (fun _ => rfl) (by decide) (by decide) (by decide) dX5_open_162 ?_
  refine g_aload_n (pc := 163) dX5_open_163 rfl ?_
  refine fg_X5_open_26 (pc := 164) (by rfl) dX5_open_164 ?_
  refine g_iload (pc := 167) dX5_open_167 rfl ?_
  refine g_iconst (pc := 169) (v := 0) dX5_open_169 (by decide +kernel) ?_
  refine g_iastore (pc := 170) (k := 40) (i := 0) (n := 24) (show 0 < 1 by omega) (fun _ => rfl) (by decide) (by decide) dX5_open_170 ?_
  refine g_aload_n (pc := 171) dX5_open_171 rfl ?_
  refine fg_X5_open_29 (pc := 172) (by rfl) dX5_open_172 ?_
  refine g_iload (pc := 175) dX5_open_175 rfl ?_
  refine g_iconst (pc := 177) (v := 0) dX5_open_177 (by decide +kernel) ?_
  refine g_iastore (pc := 178) (k := 41) (i := 0) (n := 24) (show 0 < 1 by omega) (fun _ => rfl) (by decide) (by decide) dX5_open_178 ?_
  refine g_aload_n (pc := 179) dX5_open_179 rfl ?_
  refine fg_X5_open_32 (pc := 180) (by rfl) dX5_open_180 ?_
  refine g_iload (pc := 183) dX5_open_183 rfl ?_
  refine g_iconst (pc := 185) (v := 0) dX5_open_185 (by decide +kernel) ?_
  refine g_iastore (pc := 186) (k := 42) (i := 0) (n := 24) (show 0 < 1 by omega) (fun _ => rfl) (by decide) (by decide) dX5_open_186 ?_
  refine g_aload_n (pc := 187) dX5_open_187 rfl ?_
  refine fg_X5_open_35 (pc := 188) (by rfl) dX5_open_188 ?_
  refine g_iload (pc := 191) dX5_open_191 rfl ?_
  refine g_iconst (pc := 193) (v := 0) dX5_open_193 (by decide +kernel) ?_
  refine g_iastore (pc := 194) (k := 43) (i := 0) (n := 24) (show 0 < 1 by omega) (fun _ => rfl) (by decide) (by decide) dX5_open_194 ?_
  refine g_aload_n (pc := 195) dX5_open_195 rfl ?_
  refine fg_X5_open_38 (pc := 196) (by rfl) dX5_open_196 ?_
  refine g_iload (pc := 199) dX5_open_199 rfl ?_
  refine g_iconst (pc := 201) (v := 0) dX5_open_201 (by decide +kernel) ?_
  refine g_iastore (pc := 202) (k := 44) (i := 0) (n := 24) (show 0 < 1 by omega) (fun _ => rfl) (by decide) (by decide) dX5_open_202 ?_
  refine g_aload_n (pc := 203) dX5_open_203 rfl ?_
  refine fg_X5_open_41 (pc := 204) (by rfl) dX5_open_204 ?_
  refine g_iload (pc := 207) dX5_open_207 rfl ?_
  refine g_iconst (pc := 209) (v := 0) dX5_open_209 (by decide +kernel) ?_
  refine g_iastore (pc := 210) (k := 46) (i := 0) (n := 24) (show 0 < 1 by omega) (fun _ => rfl) (by decide) (by decide) dX5_open_210 ?_
  refine g_iinc (pc := 211) (v := 1) (ls' := [rv (D, E, true, B) 5 0, iv 0, iv 0, iv 1, iv 1]) dX5_open_211 (Nat.le_of_ble_eq_true rfl) rfl (by decide +kernel) rfl ?_
  refine g_goto (pc := 214) 110 dX5_open_214 (by decide) ?_
  refine g_iload (pc := 110) dX5_open_110 rfl ?_
  refine g_aload_n (pc := 112) dX5_open_112 rfl ?_
  refine fg_X5_open_101 (pc := 113) (by rfl) dX5_open_113 ?_
  refine g_top (b := 2) (by decide +kernel) ?_
  refine g_icmp_ge (pc := 116) 217 dX5_open_116 (by decide) (by decide) (by decide) (fun h => absurd h (by decide)) (fun _ => ?_)
  refine g_aload_n (pc := 119) dX5_open_119 rfl ?_
  refine fg_X5_open_13 (pc := 120) (by rfl) dX5_open_120 ?_
  refine g_iload (pc := 123) dX5_open_123 rfl ?_
  refine g_iload (pc := 125) dX5_open_125 rfl ?_
  refine g_iload_n (pc := 127) dX5_open_127 rfl ?_
  refine g_icmp_ne (pc := 128) 136 dX5_open_128 (by decide) (by decide) (by decide) (fun _ => ?_) (fun h => absurd h (by decide))
  refine g_bipush (pc := 136) (v := 4294967294) dX5_open_136 (by decide +kernel) ?_
  refine g_iastore (pc := 138) (k := 36) (i := 0) (n := 24) (show 0 < 1 by omega) (fun _ => rfl) (by decide) (by decide) dX5_open_138 ?_
  refine g_aload_n (pc := 139) dX5_open_139 rfl ?_
  refine fg_X5_open_17 (pc := 140) (by rfl) dX5_open_140 ?_
  refine g_iload (pc := 143) dX5_open_143 rfl ?_
  refine g_iconst (pc := 145) (v := 0) dX5_open_145 (by decide +kernel) ?_
  refine g_bastore (pc := 146) (k := 37) (i := 0) (n := 24) (show 0 < 1 by omega) (fun _ => rfl) (by decide) (by decide) (by decide) dX5_open_146 ?_
  refine g_aload_n (pc := 147) dX5_open_147 rfl ?_
  refine fg_X5_open_20 (pc := 148) (by rfl) dX5_open_148 ?_
  refine g_iload (pc := 151) dX5_open_151 rfl ?_
  refine g_iconst (pc := 153) (v := 0) dX5_open_153 (by decide +kernel) ?_
  refine g_bastore (pc := 154) (k := 38) (i := 0) (n := 24) (show 0 < 1 by omega) (fun _ => rfl) (by decide) (by decide) (by decide) dX5_open_154 ?_
  refine g_aload_n (pc := 155) dX5_open_155 rfl ?_
  refine fg_X5_open_23 (pc := 156) (by rfl) dX5_open_156 ?_
  refine g_iload (pc := 159) dX5_open_159 rfl ?_
  refine g_iconst (pc := 161) (v := 0) dX5_open_161 (by decide +kernel) ?_
  refine g_bastore (pc := 162) (k := 39) (i := 0) (n := 24) (show 0 < 1 by omega) (fun _ => rfl) (by decide) (by decide) (by decide) dX5_open_162 ?_
  refine g_aload_n (pc := 163) dX5_open_163 rfl ?_
  refine fg_X5_open_26 (pc := 164) (by rfl) dX5_open_164 ?_
  refine g_iload (pc := 167) dX5_open_167 rfl ?_
  refine g_iconst (pc := 169) (v := 0) dX5_open_169 (by decide +kernel) ?_
  refine g_iastore (pc := 170) (k := 40) (i := 0) (n := 24) (show 0 < 1 by omega) (fun _ => rfl) (by decide) (by decide) dX5_open_170 ?_
  refine g_aload_n (pc := 171) dX5_open_171 rfl ?_
  refine fg_X5_open_29 (pc := 172) (by rfl) dX5_open_172 ?_
  refine g_iload (pc := 175) dX5_open_175 rfl ?_
  refine g_iconst (pc := 177) (v := 0) dX5_open_177 (by decide +kernel) ?_
  refine g_iastore (pc := 178) (k := 41) (i := 0) (n := 24) (show 0 < 1 by omega) (fun _ => rfl) (by decide) (by decide) dX5_open_178 ?_
  refine g_aload_n (pc := 179) dX5_open_179 rfl ?_
  refine fg_X5_open_32 (pc := 180) (by rfl) dX5_open_180 ?_
  refine g_iload (pc := 183) dX5_open_183 rfl ?_
  refine g_iconst (pc := 185) (v := 0) dX5_open_185 (by decide +kernel) ?_
  refine g_iastore (pc := 186) (k := 42) (i := 0) (n := 24) (show 0 < 1 by omega) (fun _ => rfl) (by decide) (by decide) dX5_open_186 ?_
  refine g_aload_n (pc := 187) dX5_open_187 rfl ?_
  refine fg_X5_open_35 (pc := 188) (by rfl) dX5_open_188 ?_
  refine g_iload (pc := 191) dX5_open_191 rfl ?_
  refine g_iconst (pc := 193) (v := 0) dX5_open_193 (by decide +kernel) ?_
  refine g_iastore (pc := 194) (k := 43) (i := 0) (n := 24) (show 0 < 1 by omega) (fun _ => rfl) (by decide) (by decide) dX5_open_194 ?_
  refine g_aload_n (pc := 195) dX5_open_195 rfl ?_
  refine fg_X5_open_38 (pc := 196) (by rfl) dX5_open_196 ?_
  refine g_iload (pc := 199) dX5_open_199 rfl ?_
  refine g_iconst (pc := 201) (v := 0) dX5_open_201 (by decide +kernel) ?_
  refine g_iastore (pc := 202) (k := 44) (i := 0) (n := 24) (show 0 < 1 by omega) (fun _ => rfl) (by decide) (by decide) dX5_open_202 ?_
  refine g_aload_n (pc := 203) dX5_open_203 rfl ?_
  refine fg_X5_open_41 (pc := 204) (by rfl) dX5_open_204 ?_
  refine g_iload (pc := 207) dX5_open_207 rfl ?_
  refine g_iconst (pc := 209) (v := 0) dX5_open_209 (by decide +kernel) ?_
  refine g_iastore (pc := 210) (k := 46) (i := 0) (n := 24) (show 0 < 1 by omega) (fun _ => rfl) (by decide) (by decide) dX5_open_210 ?_
  refine g_iinc (pc := 211) (v := 2) (ls' := [rv (D, E, true, B) 5 0, iv 0, iv 0, iv 1, iv 2]) dX5_open_211 (Nat.le_of_ble_eq_true rfl) rfl (by decide +kernel) rfl ?_
  refine g_goto (pc := 214) 110 dX5_open_214 (by decide) ?_
  refine g_iload (pc := 110) dX5_open_110 rfl ?_
  refine g_aload_n (pc := 112) dX5_open_112 rfl ?_
  refine fg_X5_open_101 (pc := 113) (by rfl) dX5_open_113 ?_
  refine g_top (b := 2) (by decide +kernel) ?_
  refine g_icmp_ge (pc := 116) 217 dX5_open_116 (by decide) (by decide) (by decide) (fun _ => ?_) (fun h => absurd (by decide) h)
  refine g_iconst (pc := 217) (v := 0) dX5_open_217 (by decide +kernel) ?_
  refine g_istore (pc := 218) (ls' := [rv (D, E, true, B) 5 0, iv 0, iv 0, iv 1, iv 0]) dX5_open_218 (Nat.le_of_ble_eq_true rfl) (Nat.le_of_ble_eq_true rfl) rfl ?_
  refine g_iload (pc := 220) dX5_open_220 rfl ?_
  refine g_aload_n (pc := 222) dX5_open_222 rfl ?_
  refine fg_X5_open_101 (pc := 223) (by rfl) dX5_open_223 ?_
  refine g_top (b := 2) (by decide +kernel) ?_
  refine g_icmp_ge (pc := 226) 330 dX5_open_226 (by decide) (by decide) (by decide) (fun h => absurd h (by decide)) (fun _ => ?_)
  refine g_iconst (pc := 229) (v := 0) dX5_open_229 (by decide +kernel) ?_
  refine g_istore (pc := 230) (ls' := [rv (D, E, true, B) 5 0, iv 0, iv 0, iv 1, iv 0, iv 0]) dX5_open_230 (Nat.le_of_ble_eq_true rfl) (Nat.le_of_ble_eq_true rfl) rfl ?_
  refine g_iload (pc := 232) dX5_open_232 rfl ?_
  refine g_aload_n (pc := 234) dX5_open_234 rfl ?_
  refine fg_X5_open_101 (pc := 235) (by rfl) dX5_open_235 ?_
  refine g_top (b := 2) (by decide +kernel) ?_
  refine g_icmp_ge (pc := 238) 324 dX5_open_238 (by decide) (by decide) (by decide) (fun h => absurd h (by decide)) (fun _ => ?_)
  refine g_iconst (pc := 241) (v := 0) dX5_open_241 (by decide +kernel) ?_
  refine g_istore (pc := 242) (ls' := [rv (D, E, true, B) 5 0, iv 0, iv 0, iv 1, iv 0, iv 0, iv 0]) dX5_open_242 (Nat.le_of_ble_eq_true rfl) (Nat.le_of_ble_eq_true rfl) rfl ?_
  refine g_iload (pc := 244) dX5_open_244 rfl ?_
  refine g_aload_n (pc := 246) dX5_open_246 rfl ?_
  refine fg_X5_open_101 (pc := 247) (by rfl) dX5_open_247 ?_
  refine g_top (b := 2) (by decide +kernel) ?_
  refine g_icmp_ge (pc := 250) 318 dX5_open_250 (by decide) (by decide) (by decide) (fun h => absurd h (by decide)) (fun _ => ?_)
  refine g_aload_n (pc := 253) dX5_open_253 rfl ?_
  refine fg_X5_open_13 (pc := 254) (by rfl) dX5_open_254 ?_
  refine g_iload (pc := 257) dX5_open_257 rfl ?_
  refine g_aload_n (pc := 259) dX5_open_259 rfl ?_
  refine fg_X5_open_7 (pc := 260) (by rfl) dX5_open_260 ?_
  refine g_bipush (pc := 263) (v := 24) dX5_open_263 (by decide +kernel) ?_
  refine g_iload (pc := 265) dX5_open_265 rfl ?_
  refine g_imul (pc := 267) dX5_open_267 ?_
  refine g_top (b := 0) (by decide +kernel) ?_
  refine g_iload (pc := 268) dX5_open_268 rfl ?_
  refine g_iadd (pc := 270) dX5_open_270 ?_
  refine g_top (b := 0) (by decide +kernel) ?_
  refine g_baload (pc := 271) (k := 35) (i := 0) (n := 576) (show 0 < 1 by omega) rfl (by decide) (by decide) dX5_open_271 ?_
  refine g_top (b := 0) (by decide +kernel) ?_
  refine g_if_eq (pc := 272) 304 dX5_open_272 (by decide) (by decide) (fun _ => ?_) (fun h => absurd (by decide) h)
  refine g_aload_n (pc := 304) dX5_open_304 rfl ?_
  refine fg_X5_open_13 (pc := 305) (by rfl) dX5_open_305 ?_
  refine g_iload (pc := 308) dX5_open_308 rfl ?_
  refine g_iaload (pc := 310) (k := 36) (i := 0) (n := 24) (show 0 < 1 by omega) rfl (by decide) (by decide) dX5_open_310 ?_
  refine g_top (b := 0) (by decide +kernel) ?_
  refine g_iastore (pc := 311) (k := 36) (i := 0) (n := 24) (show 0 < 1 by omega) (fun _ => rfl) (by decide) (by decide) dX5_open_311 ?_
  refine g_iinc (pc := 312) (v := 1) (ls' := [rv (D, E, true, B) 5 0, iv 0, iv 0, iv 1, iv 0, iv 0, iv 1]) dX5_open_312 (Nat.le_of_ble_eq_true rfl) rfl (by decide +kernel) rfl ?_
  refine g_goto (pc := 315) 244 dX5_open_315 (by decide) ?_
  refine g_iload (pc := 244) dX5_open_244 rfl ?_
  refine g_aload_n (pc := 246) dX5_open_246 rfl ?_
  refine fg_X5_open_101 (pc := 247) (by rfl) dX5_open_247 ?_
  refine g_top (b := 2) (by decide +kernel) ?_
  refine g_icmp_ge (pc := 250) 318 dX5_open_250 (by decide) (by decide) (by decide) (fun h => absurd h (by decide)) (fun _ => ?_)
  refine g_aload_n (pc := 253) dX5_open_253 rfl ?_
  refine fg_X5_open_13 (pc := 254) (by rfl) dX5_open_254 ?_
  refine g_iload (pc := 257) dX5_open_257 rfl ?_
  refine g_aload_n (pc := 259) dX5_open_259 rfl ?_
  refine fg_X5_open_7 (pc := 260) (by rfl) dX5_open_260 ?_
  refine g_bipush (pc := 263) (v := 24) dX5_open_263 (by decide +kernel) ?_
  refine g_iload (pc := 265) dX5_open_265 rfl ?_
  refine g_imul (pc := 267) dX5_open_267 ?_
  refine g_top (b := 0) (by decide +kernel) ?_
  refine g_iload (pc := 268) dX5_open_268 rfl ?_
  refine g_iadd (pc := 270) dX5_open_270 ?_
  refine g_top (b := 1) (by decide +kernel) ?_
  refine g_baload (pc := 271) (k := 35) (i := 0) (n := 576) (show 0 < 1 by omega) rfl (by decide) (by decide) dX5_open_271 ?_
  refine g_top (b := 1) (by decide +kernel) ?_
  refine g_if_eq (pc := 272) 304 dX5_open_272 (by decide) (by decide) (fun h => absurd h (by decide)) (fun _ => ?_)
  refine g_aload_n (pc := 275) dX5_open_275 rfl ?_
  refine fg_X5_open_13 (pc := 276) (by rfl) dX5_open_276 ?_
  refine g_iload (pc := 279) dX5_open_279 rfl ?_
  refine g_iaload (pc := 281) (k := 36) (i := 0) (n := 24) (show 0 < 1 by omega) rfl (by decide) (by decide) dX5_open_281 ?_
  refine g_top (b := 0) (by decide +kernel) ?_
  refine g_bipush (pc := 282) (v := 4294967294) dX5_open_282 (by decide +kernel) ?_
  refine g_icmp_ne (pc := 284) 304 dX5_open_284 (by decide) (by decide) (by decide) (fun _ => ?_) (fun h => absurd h (by decide))
  refine g_aload_n (pc := 304) dX5_open_304 rfl ?_
  refine fg_X5_open_13 (pc := 305) (by rfl) dX5_open_305 ?_
  refine g_iload (pc := 308) dX5_open_308 rfl ?_
  refine g_iaload (pc := 310) (k := 36) (i := 0) (n := 24) (show 0 < 1 by omega) rfl (by decide) (by decide) dX5_open_310 ?_
  refine g_top (b := 0) (by decide +kernel) ?_
  refine g_iastore (pc := 311) (k := 36) (i := 0) (n := 24) (show 0 < 1 by omega) (fun _ => rfl) (by decide) (by decide) dX5_open_311 ?_
  refine g_iinc (pc := 312) (v := 2) (ls' := [rv (D, E, true, B) 5 0, iv 0, iv 0, iv 1, iv 0, iv 0, iv 2]) dX5_open_312 (Nat.le_of_ble_eq_true rfl) rfl (by decide +kernel) rfl ?_
  refine g_goto (pc := 315) 244 dX5_open_315 (by decide) ?_
  refine g_iload (pc := 244) dX5_open_244 rfl ?_
  refine g_aload_n (pc := 246) dX5_open_246 rfl ?_
  refine fg_X5_open_101 (pc := 247) (by rfl) dX5_open_247 ?_
  refine g_top (b := 2) (by decide +kernel) ?_
  refine g_icmp_ge (pc := 250) 318 dX5_open_250 (by decide) (by decide) (by decide) (fun _ => ?_) (fun h => absurd (by decide) h)
  refine g_iinc (pc := 318) (v := 1) (ls' := [rv (D, E, true, B) 5 0, iv 0, iv 0, iv 1, iv 0, iv 1, iv 2]) dX5_open_318 (Nat.le_of_ble_eq_true rfl) rfl (by decide +kernel) rfl ?_
  refine g_goto (pc := 321) 232 dX5_open_321 (by decide) ?_
  refine g_iload (pc := 232) dX5_open_232 rfl ?_
  refine g_aload_n (pc := 234) dX5_open_234 rfl ?_
  refine fg_X5_open_101 (pc := 235) (by rfl) dX5_open_235 ?_
  refine g_top (b := 2) (by decide +kernel) ?_
  refine g_icmp_ge (pc := 238) 324 dX5_open_238 (by decide) (by decide) (by decide) (fun h => absurd h (by decide)) (fun _ => ?_)
  refine g_iconst (pc := 241) (v := 0) dX5_open_241 (by decide +kernel) ?_
  refine g_istore (pc := 242) (ls' := [rv (D, E, true, B) 5 0, iv 0, iv 0, iv 1, iv 0, iv 1, iv 0]) dX5_open_242 (Nat.le_of_ble_eq_true rfl) (Nat.le_of_ble_eq_true rfl) rfl ?_
  refine g_iload (pc := 244) dX5_open_244 rfl ?_
  refine g_aload_n (pc := 246) dX5_open_246 rfl ?_
  refine fg_X5_open_101 (pc := 247) (by rfl) dX5_open_247 ?_
  refine g_top (b := 2) (by decide +kernel) ?_
  refine g_icmp_ge (pc := 250) 318 dX5_open_250 (by decide) (by decide) (by decide) (fun h => absurd h (by decide)) (fun _ => ?_)
  refine g_aload_n (pc := 253) dX5_open_253 rfl ?_
  refine fg_X5_open_13 (pc := 254) (by rfl) dX5_open_254 ?_
  refine g_iload (pc := 257) dX5_open_257 rfl ?_
  refine g_aload_n (pc := 259) dX5_open_259 rfl ?_
  refine fg_X5_open_7 (pc := 260) (by rfl) dX5_open_260 ?_
  refine g_bipush (pc := 263) (v := 24) dX5_open_263 (by decide +kernel) ?_
  refine g_iload (pc := 265) dX5_open_265 rfl ?_
  refine g_imul (pc := 267) dX5_open_267 ?_
  refine g_top (b := 24) (by decide +kernel) ?_
  refine g_iload (pc := 268) dX5_open_268 rfl ?_
  refine g_iadd (pc := 270) dX5_open_270 ?_
  refine g_top (b := 24) (by decide +kernel) ?_
  refine g_baload (pc := 271) (k := 35) (i := 0) (n := 576) (show 0 < 1 by omega) rfl (by decide) (by decide) dX5_open_271 ?_
  refine g_top (b := 1) (by decide +kernel) ?_
  refine g_if_eq (pc := 272) 304 dX5_open_272 (by decide) (by decide) (fun h => absurd h (by decide)) (fun _ => ?_)
  refine g_aload_n (pc := 275) dX5_open_275 rfl ?_
  refine fg_X5_open_13 (pc := 276) (by rfl) dX5_open_276 ?_
  refine g_iload (pc := 279) dX5_open_279 rfl ?_
  refine g_iaload (pc := 281) (k := 36) (i := 0) (n := 24) (show 0 < 1 by omega) rfl (by decide) (by decide) dX5_open_281 ?_
  refine g_top (b := 4294967294) (by decide +kernel) ?_
  refine g_bipush (pc := 282) (v := 4294967294) dX5_open_282 (by decide +kernel) ?_
  refine g_icmp_ne (pc := 284) 304 dX5_open_284 (by decide) (by decide) (by decide) (fun h => absurd (by decide) h) (fun _ => ?_)
  refine g_aload_n (pc := 287) dX5_open_287 rfl ?_
  refine fg_X5_open_13 (pc := 288) (by rfl) dX5_open_288 ?_
  refine g_iload (pc := 291) dX5_open_291 rfl ?_
  refine g_iaload (pc := 293) (k := 36) (i := 0) (n := 24) (show 0 < 1 by omega) rfl (by decide) (by decide) dX5_open_293 ?_
  refine g_top (b := 0) (by decide +kernel) ?_
  refine g_bipush (pc := 294) (v := 4294967294) dX5_open_294 (by decide +kernel) ?_
  refine g_icmp_eq (pc := 296) 304 dX5_open_296 (by decide) (by decide) (by decide) (fun h => absurd h (by decide)) (fun _ => ?_)
  refine g_iload (pc := 299) dX5_open_299 rfl ?_
  refine g_goto (pc := 301) 311 dX5_open_301 (by decide) ?_
  refine g_iastore (pc := 311) (k := 36) (i := 0) (n := 24) (show 0 < 1 by omega) (fun _ => rfl) (by decide) (by decide) dX5_open_311 ?_
  refine g_iinc (pc := 312) (v := 1) (ls' := [rv (D, E, true, B) 5 0, iv 0, iv 0, iv 1, iv 0, iv 1, iv 1]) dX5_open_312 (Nat.le_of_ble_eq_true rfl) rfl (by decide +kernel) rfl ?_
  refine g_goto (pc := 315) 244 dX5_open_315 (by decide) ?_
  refine g_iload (pc := 244) dX5_open_244 rfl ?_
  refine g_aload_n (pc := 246) dX5_open_246 rfl ?_
  refine fg_X5_open_101 (pc := 247) (by rfl) dX5_open_247 ?_
  refine g_top (b := 2) (by decide +kernel) ?_
  refine g_icmp_ge (pc := 250) 318 dX5_open_250 (by decide) (by decide) (by decide) (fun h => absurd h (by decide)) (fun _ => ?_)
  refine g_aload_n (pc := 253) dX5_open_253 rfl ?_
  refine fg_X5_open_13 (pc := 254) (by rfl) dX5_open_254 ?_
  refine g_iload (pc := 257) dX5_open_257 rfl ?_
  refine g_aload_n (pc := 259) dX5_open_259 rfl ?_
  refine fg_X5_open_7 (pc := 260) (by rfl) dX5_open_260 ?_
  refine g_bipush (pc := 263) (v := 24) dX5_open_263 (by decide +kernel) ?_
  refine g_iload (pc := 265) dX5_open_265 rfl ?_
  refine g_imul (pc := 267) dX5_open_267 ?_
  refine g_top (b := 24) (by decide +kernel) ?_
  refine g_iload (pc := 268) dX5_open_268 rfl ?_
  refine g_iadd (pc := 270) dX5_open_270 ?_
  refine g_top (b := 25) (by decide +kernel) ?_
  refine g_baload (pc := 271) (k := 35) (i := 0) (n := 576) (show 0 < 1 by omega) rfl (by decide) (by decide) dX5_open_271 ?_
  refine g_top (b := 0) (by decide +kernel) ?_
  refine g_if_eq (pc := 272) 304 dX5_open_272 (by decide) (by decide) (fun _ => ?_) (fun h => absurd (by decide) h)
  refine g_aload_n (pc := 304) dX5_open_304 rfl ?_
  refine fg_X5_open_13 (pc := 305) (by rfl) dX5_open_305 ?_
  refine g_iload (pc := 308) dX5_open_308 rfl ?_
  refine g_iaload (pc := 310) (k := 36) (i := 0) (n := 24) (show 0 < 1 by omega) rfl (by decide) (by decide) dX5_open_310 ?_
  refine g_top (b := 0) (by decide +kernel) ?_
  refine g_iastore (pc := 311) (k := 36) (i := 0) (n := 24) (show 0 < 1 by omega) (fun _ => rfl) (by decide) (by decide) dX5_open_311 ?_
  refine g_iinc (pc := 312) (v := 2) (ls' := [rv (D, E, true, B) 5 0, iv 0, iv 0, iv 1, iv 0, iv 1, iv 2]) dX5_open_312 (Nat.le_of_ble_eq_true rfl) rfl (by decide +kernel) rfl ?_
  refine g_goto (pc := 315) 244 dX5_open_315 (by decide) ?_
  refine g_iload (pc := 244) dX5_open_244 rfl ?_
  refine g_aload_n (pc := 246) dX5_open_246 rfl ?_
  refine fg_X5_open_101 (pc := 247) (by rfl) dX5_open_247 ?_
  refine g_top (b := 2) (by decide +kernel) ?_
  refine g_icmp_ge (pc := 250) 318 dX5_open_250 (by decide) (by decide) (by decide) (fun _ => ?_) (fun h => absurd (by decide) h)
  refine g_iinc (pc := 318) (v := 2) (ls' := [rv (D, E, true, B) 5 0, iv 0, iv 0, iv 1, iv 0, iv 2, iv 2]) dX5_open_318 (Nat.le_of_ble_eq_true rfl) rfl (by decide +kernel) rfl ?_
  refine g_goto (pc := 321) 232 dX5_open_321 (by decide) ?_
  refine g_iload (pc := 232) dX5_open_232 rfl ?_
  refine g_aload_n (pc := 234) dX5_open_234 rfl ?_
  refine fg_X5_open_101 (pc := 235) (by rfl) dX5_open_235 ?_
  refine g_top (b := 2) (by decide +kernel) ?_
  refine g_icmp_ge (pc := 238) 324 dX5_open_238 (by decide) (by decide) (by decide) (fun _ => ?_) (fun h => absurd (by decide) h)
  refine g_iinc (pc := 324) (v := 1) (ls' := [rv (D, E, true, B) 5 0, iv 0, iv 0, iv 1, iv 1, iv 2, iv 2]) dX5_open_324 (Nat.le_of_ble_eq_true rfl) rfl (by decide +kernel) rfl ?_
  refine g_goto (pc := 327) 220 dX5_open_327 (by decide) ?_
  refine g_iload (pc := 220) dX5_open_220 rfl ?_
  refine g_aload_n (pc := 222) dX5_open_222 rfl ?_
  refine fg_X5_open_101 (pc := 223) (by rfl) dX5_open_223 ?_
  refine g_top (b := 2) (by decide +kernel) ?_
  refine g_icmp_ge (pc := 226) 330 dX5_open_226 (by decide) (by decide) (by decide) (fun h => absurd h (by decide)) (fun _ => ?_)
  refine g_iconst (pc := 229) (v := 0) dX5_open_229 (by decide +kernel) ?_
  refine g_istore (pc := 230) (ls' := [rv (D, E, true, B) 5 0, iv 0, iv 0, iv 1, iv 1, iv 0, iv 2]) dX5_open_230 (Nat.le_of_ble_eq_true rfl) (Nat.le_of_ble_eq_true rfl) rfl ?_
  refine g_iload (pc := 232) dX5_open_232 rfl ?_
  refine g_aload_n (pc := 234) dX5_open_234 rfl ?_
  refine fg_X5_open_101 (pc := 235) (by rfl) dX5_open_235 ?_
  refine g_top (b := 2) (by decide +kernel) ?_
  refine g_icmp_ge (pc := 238) 324 dX5_open_238 (by decide) (by decide) (by decide) (fun h => absurd h (by decide)) (fun _ => ?_)
  refine g_iconst (pc := 241) (v := 0) dX5_open_241 (by decide +kernel) ?_
  refine g_istore (pc := 242) (ls' := [rv (D, E, true, B) 5 0, iv 0, iv 0, iv 1, iv 1, iv 0, iv 0]) dX5_open_242 (Nat.le_of_ble_eq_true rfl) (Nat.le_of_ble_eq_true rfl) rfl ?_
  refine g_iload (pc := 244) dX5_open_244 rfl ?_
  refine g_aload_n (pc := 246) dX5_open_246 rfl ?_
  refine fg_X5_open_101 (pc := 247) (by rfl) dX5_open_247 ?_
  refine g_top (b := 2) (by decide +kernel) ?_
  refine g_icmp_ge (pc := 250) 318 dX5_open_250 (by decide) (by decide) (by decide) (fun h => absurd h (by decide)) (fun _ => ?_)
  refine g_aload_n (pc := 253) dX5_open_253 rfl ?_
  refine fg_X5_open_13 (pc := 254) (by rfl) dX5_open_254 ?_
  refine g_iload (pc := 257) dX5_open_257 rfl ?_
  refine g_aload_n (pc := 259) dX5_open_259 rfl ?_
  refine fg_X5_open_7 (pc := 260) (by rfl) dX5_open_260 ?_
  refine g_bipush (pc := 263) (v := 24) dX5_open_263 (by decide +kernel) ?_
  refine g_iload (pc := 265) dX5_open_265 rfl ?_
  refine g_imul (pc := 267) dX5_open_267 ?_
  refine g_top (b := 0) (by decide +kernel) ?_
  refine g_iload (pc := 268) dX5_open_268 rfl ?_
  refine g_iadd (pc := 270) dX5_open_270 ?_
  refine g_top (b := 0) (by decide +kernel) ?_
  refine g_baload (pc := 271) (k := 35) (i := 0) (n := 576) (show 0 < 1 by omega) rfl (by decide) (by decide) dX5_open_271 ?_
  refine g_top (b := 0) (by decide +kernel) ?_
  refine g_if_eq (pc := 272) 304 dX5_open_272 (by decide) (by decide) (fun _ => ?_) (fun h => absurd (by decide) h)
  refine g_aload_n (pc := 304) dX5_open_304 rfl ?_
  refine fg_X5_open_13 (pc := 305) (by rfl) dX5_open_305 ?_
  refine g_iload (pc := 308) dX5_open_308 rfl ?_
  refine g_iaload (pc := 310) (k := 36) (i := 0) (n := 24) (show 0 < 1 by omega) rfl (by decide) (by decide) dX5_open_310 ?_
  refine g_top (b := 0) (by decide +kernel) ?_
  refine g_iastore (pc := 311) (k := 36) (i := 0) (n := 24) (show 0 < 1 by omega) (fun _ => rfl) (by decide) (by decide) dX5_open_311 ?_
  refine g_iinc (pc := 312) (v := 1) (ls' := [rv (D, E, true, B) 5 0, iv 0, iv 0, iv 1, iv 1, iv 0, iv 1]) dX5_open_312 (Nat.le_of_ble_eq_true rfl) rfl (by decide +kernel) rfl ?_
  refine g_goto (pc := 315) 244 dX5_open_315 (by decide) ?_
  refine g_iload (pc := 244) dX5_open_244 rfl ?_
  refine g_aload_n (pc := 246) dX5_open_246 rfl ?_
  refine fg_X5_open_101 (pc := 247) (by rfl) dX5_open_247 ?_
  refine g_top (b := 2) (by decide +kernel) ?_
  refine g_icmp_ge (pc := 250) 318 dX5_open_250 (by decide) (by decide) (by decide) (fun h => absurd h (by decide)) (fun _ => ?_)
  refine g_aload_n (pc := 253) dX5_open_253 rfl ?_
  refine fg_X5_open_13 (pc := 254) (by rfl) dX5_open_254 ?_
  refine g_iload (pc := 257) dX5_open_257 rfl ?_
  refine g_aload_n (pc := 259) dX5_open_259 rfl ?_
  refine fg_X5_open_7 (pc := 260) (by rfl) dX5_open_260 ?_
  refine g_bipush (pc := 263) (v := 24) dX5_open_263 (by decide +kernel) ?_
  refine g_iload (pc := 265) dX5_open_265 rfl ?_
  refine g_imul (pc := 267) dX5_open_267 ?_
  refine g_top (b := 0) (by decide +kernel) ?_
  refine g_iload (pc := 268) dX5_open_268 rfl ?_
  refine g_iadd (pc := 270) dX5_open_270 ?_
  refine g_top (b := 1) (by decide +kernel) ?_
  refine g_baload (pc := 271) (k := 35) (i := 0) (n := 576) (show 0 < 1 by omega) rfl (by decide) (by decide) dX5_open_271 ?_
  refine g_top (b := 1) (by decide +kernel) ?_
  refine g_if_eq (pc := 272) 304 dX5_open_272 (by decide) (by decide) (fun h => absurd h (by decide)) (fun _ => ?_)
  refine g_aload_n (pc := 275) dX5_open_275 rfl ?_
  refine fg_X5_open_13 (pc := 276) (by rfl) dX5_open_276 ?_
  refine g_iload (pc := 279) dX5_open_279 rfl ?_
  refine g_iaload (pc := 281) (k := 36) (i := 0) (n := 24) (show 0 < 1 by omega) rfl (by decide) (by decide) dX5_open_281 ?_
  refine g_top (b := 0) (by decide +kernel) ?_
  refine g_bipush (pc := 282) (v := 4294967294) dX5_open_282 (by decide +kernel) ?_
  refine g_icmp_ne (pc := 284) 304 dX5_open_284 (by decide) (by decide) (by decide) (fun _ => ?_) (fun h => absurd h (by decide))
  refine g_aload_n (pc := 304) dX5_open_304 rfl ?_
  refine fg_X5_open_13 (pc := 305) (by rfl) dX5_open_305 ?_
  refine g_iload (pc := 308) dX5_open_308 rfl ?_
  refine g_iaload (pc := 310) (k := 36) (i := 0) (n := 24) (show 0 < 1 by omega) rfl (by decide) (by decide) dX5_open_310 ?_
  refine g_top (b := 0) (by decide +kernel) ?_
  refine g_iastore (pc := 311) (k := 36) (i := 0) (n := 24) (show 0 < 1 by omega) (fun _ => rfl) (by decide) (by decide) dX5_open_311 ?_
  refine g_iinc (pc := 312) (v := 2) (ls' := [rv (D, E, true, B) 5 0, iv 0, iv 0, iv 1, iv 1, iv 0, iv 2]) dX5_open_312 (Nat.le_of_ble_eq_true rfl) rfl (by decide +kernel) rfl ?_
  refine g_goto (pc := 315) 244 dX5_open_315 (by decide) ?_
  refine g_iload (pc := 244) dX5_open_244 rfl ?_
  refine g_aload_n (pc := 246) dX5_open_246 rfl ?_
  refine fg_X5_open_101 (pc := 247) (by rfl) dX5_open_247 ?_
  refine g_top (b := 2) (by decide +kernel) ?_
  refine g_icmp_ge (pc := 250) 318 dX5_open_250 (by decide) (by decide) (by decide) (fun _ => ?_) (fun h => absurd (by decide) h)
  refine g_iinc (pc := 318) (v := 1) (ls' := [rv (D, E, true, B) 5 0, iv 0, iv 0, iv 1, iv 1, iv 1, iv 2]) dX5_open_318 (Nat.le_of_ble_eq_true rfl) rfl (by decide +kernel) rfl ?_
  refine g_goto (pc := 321) 232 dX5_open_321 (by decide) ?_
  refine g_iload (pc := 232) dX5_open_232 rfl ?_
  refine g_aload_n (pc := 234) dX5_open_234 rfl ?_
  refine fg_X5_open_101 (pc := 235) (by rfl) dX5_open_235 ?_
  refine g_top (b := 2) (by decide +kernel) ?_
  refine g_icmp_ge (pc := 238) 324 dX5_open_238 (by decide) (by decide) (by decide) (fun h => absurd h (by decide)) (fun _ => ?_)
  refine g_iconst (pc := 241) (v := 0) dX5_open_241 (by decide +kernel) ?_
  refine g_istore (pc := 242) (ls' := [rv (D, E, true, B) 5 0, iv 0, iv 0, iv 1, iv 1, iv 1, iv 0]) dX5_open_242 (Nat.le_of_ble_eq_true rfl) (Nat.le_of_ble_eq_true rfl) rfl ?_
  refine g_iload (pc := 244) dX5_open_244 rfl ?_
  refine g_aload_n (pc := 246) dX5_open_246 rfl ?_
  refine fg_X5_open_101 (pc := 247) (by rfl) dX5_open_247 ?_
  refine g_top (b := 2) (by decide +kernel) ?_
  refine g_icmp_ge (pc := 250) 318 dX5_open_250 (by decide) (by decide) (by decide) (fun h => absurd h (by decide)) (fun _ => ?_)
  refine g_aload_n (pc := 253) dX5_open_253 rfl ?_
  refine fg_X5_open_13 (pc := 254) (by rfl) dX5_open_254 ?_
  refine g_iload (pc := 257) dX5_open_257 rfl ?_
  refine g_aload_n (pc := 259) dX5_open_259 rfl ?_
  refine fg_X5_open_7 (pc := 260) (by rfl) dX5_open_260 ?_
  refine g_bipush (pc := 263) (v := 24) dX5_open_263 (by decide +kernel) ?_
  refine g_iload (pc := 265) dX5_open_265 rfl ?_
  refine g_imul (pc := 267) dX5_open_267 ?_
  refine g_top (b := 24) (by decide +kernel) ?_
  refine g_iload (pc := 268) dX5_open_268 rfl ?_
  refine g_iadd (pc := 270) dX5_open_270 ?_
  refine g_top (b := 24) (by decide +kernel) ?_
  refine g_baload (pc := 271) (k := 35) (i := 0) (n := 576) (show 0 < 1 by omega) rfl (by decide) (by decide) dX5_open_271 ?_
  refine g_top (b := 1) (by decide +kernel) ?_
  refine g_if_eq (pc := 272) 304 dX5_open_272 (by decide) (by decide) (fun h => absurd h (by decide)) (fun _ => ?_)
  refine g_aload_n (pc := 275) dX5_open_275 rfl ?_
  refine fg_X5_open_13 (pc := 276) (by rfl) dX5_open_276 ?_
  refine g_iload (pc := 279) dX5_open_279 rfl ?_
  refine g_iaload (pc := 281) (k := 36) (i := 0) (n := 24) (show 0 < 1 by omega) rfl (by decide) (by decide) dX5_open_281 ?_
  refine g_top (b := 0) (by decide +kernel) ?_
  refine g_bipush (pc := 282) (v := 4294967294) dX5_open_282 (by decide +kernel) ?_
  refine g_icmp_ne (pc := 284) 304 dX5_open_284 (by decide) (by decide) (by decide) (fun _ => ?_) (fun h => absurd h (by decide))
  refine g_aload_n (pc := 304) dX5_open_304 rfl ?_
  refine fg_X5_open_13 (pc := 305) (by rfl) dX5_open_305 ?_
  refine g_iload (pc := 308) dX5_open_308 rfl ?_
  refine g_iaload (pc := 310) (k := 36) (i := 0) (n := 24) (show 0 < 1 by omega) rfl (by decide) (by decide) dX5_open_310 ?_
  refine g_top (b := 0) (by decide +kernel) ?_
  refine g_iastore (pc := 311) (k := 36) (i := 0) (n := 24) (show 0 < 1 by omega) (fun _ => rfl) (by decide) (by decide) dX5_open_311 ?_
  refine g_iinc (pc := 312) (v := 1) (ls' := [rv (D, E, true, B) 5 0, iv 0, iv 0, iv 1, iv 1, iv 1, iv 1]) dX5_open_312 (Nat.le_of_ble_eq_true rfl) rfl (by decide +kernel) rfl ?_
  refine g_goto (pc := 315) 244 dX5_open_315 (by decide) ?_
  refine g_iload (pc := 244) dX5_open_244 rfl ?_
  refine g_aload_n (pc := 246) dX5_open_246 rfl ?_
  refine fg_X5_open_101 (pc := 247) (by rfl) dX5_open_247 ?_
  refine g_top (b := 2) (by decide +kernel) ?_
  refine g_icmp_ge (pc := 250) 318 dX5_open_250 (by decide) (by decide) (by decide) (fun h => absurd h (by decide)) (fun _ => ?_)
  refine g_aload_n (pc := 253) dX5_open_253 rfl ?_
  refine fg_X5_open_13 (pc := 254) (by rfl) dX5_open_254 ?_
  refine g_iload (pc := 257) dX5_open_257 rfl ?_
  refine g_aload_n (pc := 259) dX5_open_259 rfl ?_
  refine fg_X5_open_7 (pc := 260) (by rfl) dX5_open_260 ?_
  refine g_bipush (pc := 263) (v := 24) dX5_open_263 (by decide +kernel) ?_
  refine g_iload (pc := 265) dX5_open_265 rfl ?_
  refine g_imul (pc := 267) dX5_open_267 ?_
  refine g_top (b := 24) (by decide +kernel) ?_
  refine g_iload (pc := 268) dX5_open_268 rfl ?_
  refine g_iadd (pc := 270) dX5_open_270 ?_
  refine g_top (b := 25) (by decide +kernel) ?_
  refine g_baload (pc := 271) (k := 35) (i := 0) (n := 576) (show 0 < 1 by omega) rfl (by decide) (by decide) dX5_open_271 ?_
  refine g_top (b := 0) (by decide +kernel) ?_
  refine g_if_eq (pc := 272) 304 dX5_open_272 (by decide) (by decide) (fun _ => ?_) (fun h => absurd (by decide) h)
  refine g_aload_n (pc := 304) dX5_open_304 rfl ?_
  refine fg_X5_open_13 (pc := 305) (by rfl) dX5_open_305 ?_
  refine g_iload (pc := 308) dX5_open_308 rfl ?_
  refine g_iaload (pc := 310) (k := 36) (i := 0) (n := 24) (show 0 < 1 by omega) rfl (by decide) (by decide) dX5_open_310 ?_
  refine g_top (b := 0) (by decide +kernel) ?_
  refine g_iastore (pc := 311) (k := 36) (i := 0) (n := 24) (show 0 < 1 by omega) (fun _ => rfl) (by decide) (by decide) dX5_open_311 ?_
  refine g_iinc (pc := 312) (v := 2) (ls' := [rv (D, E, true, B) 5 0, iv 0, iv 0, iv 1, iv 1, iv 1, iv 2]) dX5_open_312 (Nat.le_of_ble_eq_true rfl) rfl (by decide +kernel) rfl ?_
  refine g_goto (pc := 315) 244 dX5_open_315 (by decide) ?_
  refine g_iload (pc := 244) dX5_open_244 rfl ?_
  refine g_aload_n (pc := 246) dX5_open_246 rfl ?_
  refine fg_X5_open_101 (pc := 247) (by rfl) dX5_open_247 ?_
  refine g_top (b := 2) (by decide +kernel) ?_
  refine g_icmp_ge (pc := 250) 318 dX5_open_250 (by decide) (by decide) (by decide) (fun _ => ?_) (fun h => absurd (by decide) h)
  refine g_iinc (pc := 318) (v := 2) (ls' := [rv (D, E, true, B) 5 0, iv 0, iv 0, iv 1, iv 1, iv 2, iv 2]) dX5_open_318 (Nat.le_of_ble_eq_true rfl) rfl (by decide +kernel) rfl ?_
  refine g_goto (pc := 321) 232 dX5_open_321 (by decide) ?_
  refine g_iload (pc := 232) dX5_open_232 rfl ?_
  refine g_aload_n (pc := 234) dX5_open_234 rfl ?_
  refine fg_X5_open_101 (pc := 235) (by rfl) dX5_open_235 ?_
  refine g_top (b := 2) (by decide +kernel) ?_
  refine g_icmp_ge (pc := 238) 324 dX5_open_238 (by decide) (by decide) (by decide) (fun _ => ?_) (fun h => absurd (by decide) h)
  refine g_iinc (pc := 324) (v := 2) (ls' := [rv (D, E, true, B) 5 0, iv 0, iv 0, iv 1, iv 2, iv 2, iv 2]) dX5_open_324 (Nat.le_of_ble_eq_true rfl) rfl (by decide +kernel) rfl ?_
  refine g_goto (pc := 327) 220 dX5_open_327 (by decide) ?_
  refine g_iload (pc := 220) dX5_open_220 rfl ?_
  refine g_aload_n (pc := 222) dX5_open_222 rfl ?_
  refine fg_X5_open_101 (pc := 223) (by rfl) dX5_open_223 ?_
  refine g_top (b := 2) (by decide +kernel) ?_
  refine g_icmp_ge (pc := 226) 330 dX5_open_226 (by decide) (by decide) (by decide) (fun _ => ?_) (fun h => absurd (by decide) h)
  refine g_iconst (pc := 330) (v := 0) dX5_open_330 (by decide +kernel) ?_
  exact g_iret (pc := 331) dX5_open_331 ⟨mg_narI _, Or.inl rfl⟩ ⟨rfl, rfl⟩
/-- X5_begin2(r5.0) at qcs80 -/
theorem qm9 (l : Launch) {D : va_G} {E : mg_E} {B : Nat} : mg_C l (D, E, true, B) mX5_begin2 [rv (D, E, true, B) 5 0] qcs80 (fun v g' => v = none ∧ g' = qms6) := by
  refine mg_C.of (by decide) rfl (Nat.le_of_ble_eq_true rfl) (List.forall_mem_cons.mpr ⟨rfl, (fun _ h => nomatch h)⟩) (fun K => ?_)
  refine g_aload_n (pc := 0) dX5_begin2_0 rfl ?_
  refine g_iconst (pc := 1) (v := 2) dX5_begin2_1 (by decide +kernel) ?_
  refine g_callVi (pc := 2) (Y' := mX5_canal) (As := [iv 2]) (st := []) (k := 5) (i := 0) (c_mcanal K.2.1 (n := 2) (g := qcs80) (by decide) (by decide)) gX5_begin2_X5_canal rfl (show 0 < 1 by omega) rfl rfl (na := 1) rfl (by decide +kernel) (by decide) (by decide) (Nat.le_of_ble_eq_true rfl) dX5_begin2_2 (fun r1 g1 hp => ?_)
  obtain ⟨h1, rfl⟩ := hp
  cases h1
  refine g_aload_n (pc := 5) dX5_begin2_5 rfl ?_
  refine g_iconst (pc := 6) (v := 0) dX5_begin2_6 (by decide +kernel) ?_
  refine g_iconst (pc := 7) (v := 1) dX5_begin2_7 (by decide +kernel) ?_
  refine g_callVi (pc := 8) (Y' := mX5_link) (As := [iv 0, iv 1]) (st := [iv 0]) (k := 5) (i := 0) (qm5 K.2.1) gX5_begin2_X5_link rfl (show 0 < 1 by omega) rfl rfl (na := 2) rfl (by decide +kernel) (by decide) (by decide) (Nat.le_of_ble_eq_true rfl) dX5_begin2_8 (fun r1 g1 hp => ?_)
  obtain ⟨h1, rfl⟩ := hp
  cases h1
  refine g_iadd (pc := 11) dX5_begin2_11 ?_
  refine g_top (b := 1) (by decide +kernel) ?_
  refine g_aload_n (pc := 12) dX5_begin2_12 rfl ?_
  refine g_iconst (pc := 13) (v := 0) dX5_begin2_13 (by decide +kernel) ?_
  refine g_iconst (pc := 14) (v := 0) dX5_begin2_14 (by decide +kernel) ?_
  refine g_iconst (pc := 15) (v := 1) dX5_begin2_15 (by decide +kernel) ?_
  refine g_callVi (pc := 16) (Y' := mX5_open) (As := [iv 0, iv 0, iv 1]) (st := [iv 1]) (k := 5) (i := 0) (qm8 K.2.1) gX5_begin2_X5_open rfl (show 0 < 1 by omega) rfl rfl (na := 3) rfl (by decide +kernel) (by decide) (by decide) (Nat.le_of_ble_eq_true rfl) dX5_begin2_16 (fun r1 g1 hp => ?_)
  obtain ⟨h1, rfl⟩ := hp
  cases h1
  refine g_iadd (pc := 19) dX5_begin2_19 ?_
  refine g_top (b := 1) (by decide +kernel) ?_
  refine g_istore_n (pc := 20) (ls' := [rv (D, E, true, B) 5 0, iv 1]) dX5_begin2_20 (Nat.le_of_ble_eq_true rfl) (Nat.le_of_ble_eq_true rfl) rfl ?_
  exact g_ret (pc := 21) dX5_begin2_21 trivial ⟨rfl, rfl⟩
