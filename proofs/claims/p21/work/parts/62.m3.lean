/-! ===== the programs of the methods, 3 ===== -/
/-- X4_letter -/
def P_X4_letter (a b : Nat) (g : mg_F) : mo := bd (P_X4_isCopy a g) fun r1 g2 => if sv r1 = 0 then (some (4294967295, g2)) else (if sv b = sv 0 then (ck (a < mg_cap 1) <| some (g2 11 1 a, g2)) else (if sv b = sv 1 then (ck (a < mg_cap 1) <| some (g2 12 1 a, g2)) else (if sv b = sv 2 then (ck (a < mg_cap 1) <| some (g2 13 1 a, g2)) else (if sv b = sv 3 then (ck (a < mg_cap 1) <| some (g2 14 1 a, g2)) else (if sv b = sv 4 then (ck (a < mg_cap 1) <| some (g2 15 1 a, g2)) else (some (4294967295, g2)))))))
theorem p_X4_letter {l : Launch} {Z : mg_Zt} {a b : Nat} {g : mg_F} : ∀ (r : Nat) (g' : mg_F), P_X4_letter a b g = some (r, g') → mg_C l Z mX4_letter [rv Z 4 0, iv a, iv b] g (mp mX4_letter r g') := by
  refine mC_of (by decide) rfl (Nat.le_of_ble_eq_true rfl) (List.forall_mem_cons.mpr ⟨rfl, (List.forall_mem_cons.mpr ⟨rfl, (List.forall_mem_cons.mpr ⟨rfl, (fun _ h => nomatch h)⟩)⟩)⟩) (fun K => ?_)
  unfold P_X4_letter
  refine j_lift (fun _ k => g_aload_n (pc := 0) dX4_letter_0 rfl k) ?_
  refine j_lift (fun _ k => g_iload_n (pc := 1) dX4_letter_1 rfl k) ?_
  refine j_callVi (pc := 2) (Y' := mX4_isCopy) (As := [iv a]) (st := []) (k := 4) (i := 0) (p_X4_isCopy) gX4_letter_X4_isCopy rfl (show 0 < 1 by omega) rfl rfl (na := 1) rfl (by decide +kernel) (by decide) (by decide) (Nat.le_of_ble_eq_true rfl) dX4_letter_2 (fun r1 g2 => ?_)
  refine j_if_ne (pc := 5) 10 dX4_letter_5 (by decide) (fun h3 => ?_) (fun h3 => ?_)
  · refine j_lift (fun _ k => g_iload_n (pc := 10) dX4_letter_10 rfl k) ?_
    refine j_ite (fun h4 => ?_) (fun h4 => ?_)
    · refine j_lift (fun _ k => g_swIn (pc := 11) (c := 0) 44 h4 dX4_letter_11 (by decide) (by decide) (by decide) rfl (by decide) k) ?_
      refine j_lift (fun _ k => g_aload_n (pc := 44) dX4_letter_44 rfl k) ?_
      refine j_lift (fun _ k => fg_X4_letter_31 (pc := 45) dX4_letter_45 k) ?_
      refine j_lift (fun _ k => fg_X4_letter_193 (pc := 48) (show 1 < 2 by omega) dX4_letter_48 k) ?_
      refine j_lift (fun _ k => g_iload_n (pc := 51) dX4_letter_51 rfl k) ?_
      refine j_ck (fun c5 => ?_)
      refine j_lift (fun _ k => g_iaload (pc := 52) (k := 11) (i := 1) (n := mg_cap 1) (show 1 < 2 by omega) rfl (mg_cap_lt _) c5 dX4_letter_52 k) ?_
      exact j_iret (pc := 53) dX4_letter_53 ⟨mg_narI _, Or.inl rfl⟩ rfl
    refine j_ite (fun h6 => ?_) (fun h6 => ?_)
    · refine j_lift (fun _ k => g_swIn (pc := 11) (c := 1) 54 h6 dX4_letter_11 (by decide) (by decide) (by decide) rfl (by decide) k) ?_
      refine j_lift (fun _ k => g_aload_n (pc := 54) dX4_letter_54 rfl k) ?_
      refine j_lift (fun _ k => fg_X4_letter_31 (pc := 55) dX4_letter_55 k) ?_
      refine j_lift (fun _ k => fg_X4_letter_196 (pc := 58) (show 1 < 2 by omega) dX4_letter_58 k) ?_
      refine j_lift (fun _ k => g_iload_n (pc := 61) dX4_letter_61 rfl k) ?_
      refine j_ck (fun c7 => ?_)
      refine j_lift (fun _ k => g_iaload (pc := 62) (k := 12) (i := 1) (n := mg_cap 1) (show 1 < 2 by omega) rfl (mg_cap_lt _) c7 dX4_letter_62 k) ?_
      exact j_iret (pc := 63) dX4_letter_63 ⟨mg_narI _, Or.inl rfl⟩ rfl
    refine j_ite (fun h8 => ?_) (fun h8 => ?_)
    · refine j_lift (fun _ k => g_swIn (pc := 11) (c := 2) 64 h8 dX4_letter_11 (by decide) (by decide) (by decide) rfl (by decide) k) ?_
      refine j_lift (fun _ k => g_aload_n (pc := 64) dX4_letter_64 rfl k) ?_
      refine j_lift (fun _ k => fg_X4_letter_31 (pc := 65) dX4_letter_65 k) ?_
      refine j_lift (fun _ k => fg_X4_letter_199 (pc := 68) (show 1 < 2 by omega) dX4_letter_68 k) ?_
      refine j_lift (fun _ k => g_iload_n (pc := 71) dX4_letter_71 rfl k) ?_
      refine j_ck (fun c9 => ?_)
      refine j_lift (fun _ k => g_iaload (pc := 72) (k := 13) (i := 1) (n := mg_cap 1) (show 1 < 2 by omega) rfl (mg_cap_lt _) c9 dX4_letter_72 k) ?_
      exact j_iret (pc := 73) dX4_letter_73 ⟨mg_narI _, Or.inl rfl⟩ rfl
    refine j_ite (fun h10 => ?_) (fun h10 => ?_)
    · refine j_lift (fun _ k => g_swIn (pc := 11) (c := 3) 74 h10 dX4_letter_11 (by decide) (by decide) (by decide) rfl (by decide) k) ?_
      refine j_lift (fun _ k => g_aload_n (pc := 74) dX4_letter_74 rfl k) ?_
      refine j_lift (fun _ k => fg_X4_letter_31 (pc := 75) dX4_letter_75 k) ?_
      refine j_lift (fun _ k => fg_X4_letter_202 (pc := 78) (show 1 < 2 by omega) dX4_letter_78 k) ?_
      refine j_lift (fun _ k => g_iload_n (pc := 81) dX4_letter_81 rfl k) ?_
      refine j_ck (fun c11 => ?_)
      refine j_lift (fun _ k => g_iaload (pc := 82) (k := 14) (i := 1) (n := mg_cap 1) (show 1 < 2 by omega) rfl (mg_cap_lt _) c11 dX4_letter_82 k) ?_
      exact j_iret (pc := 83) dX4_letter_83 ⟨mg_narI _, Or.inl rfl⟩ rfl
    refine j_ite (fun h12 => ?_) (fun h12 => ?_)
    · refine j_lift (fun _ k => g_swIn (pc := 11) (c := 4) 84 h12 dX4_letter_11 (by decide) (by decide) (by decide) rfl (by decide) k) ?_
      refine j_lift (fun _ k => g_aload_n (pc := 84) dX4_letter_84 rfl k) ?_
      refine j_lift (fun _ k => fg_X4_letter_31 (pc := 85) dX4_letter_85 k) ?_
      refine j_lift (fun _ k => fg_X4_letter_205 (pc := 88) (show 1 < 2 by omega) dX4_letter_88 k) ?_
      refine j_lift (fun _ k => g_iload_n (pc := 91) dX4_letter_91 rfl k) ?_
      refine j_ck (fun c13 => ?_)
      refine j_lift (fun _ k => g_iaload (pc := 92) (k := 15) (i := 1) (n := mg_cap 1) (show 1 < 2 by omega) rfl (mg_cap_lt _) c13 dX4_letter_92 k) ?_
      exact j_iret (pc := 93) dX4_letter_93 ⟨mg_narI _, Or.inl rfl⟩ rfl
    refine j_lift (fun _ k => g_swOut (pc := 11) 94 dX4_letter_11 (by rw [sv_l0] at h4; rw [sv_l1] at h6; rw [sv_l2] at h8; rw [sv_l3] at h10; rw [sv_l4] at h12; omega) (by decide) k) ?_
    refine j_lift (fun _ k => g_iconst (pc := 94) (v := 4294967295) dX4_letter_94 (by decide +kernel) k) ?_
    exact j_iret (pc := 95) dX4_letter_95 ⟨mg_narI _, Or.inl rfl⟩ rfl
  · refine j_lift (fun _ k => g_iconst (pc := 8) (v := 4294967295) dX4_letter_8 (by decide +kernel) k) ?_
    exact j_iret (pc := 9) dX4_letter_9 ⟨mg_narI _, Or.inl rfl⟩ rfl

/-- X4_told -/
def P_X4_told (a b : Nat) (g : mg_F) : mo := bd (P_X4_isStation a g) fun r1 g2 => if sv r1 = 0 then (some (4294967295, g2)) else (ck (a < 24) <| if sv b = sv 0 then (if sv (g2 3 a 3) = 0 then (some (0, g2)) else (some (1, g2))) else (if sv b = sv 1 then (if sv (g2 3 a 5) = 0 then (some (0, g2)) else (some (1, g2))) else (if sv b = sv 2 then (if sv (g2 3 a 6) = 0 then (some (0, g2)) else (some (1, g2))) else (if sv b = sv 3 then (some (g2 2 a 2, g2)) else (if sv b = sv 4 then (some (g2 3 a 7, g2)) else (if sv b = sv 5 then (some (g2 3 a 8, g2)) else (if sv b = sv 6 then (some (g2 3 a 10, g2)) else (if sv b = sv 7 then (some (g2 3 a 11, g2)) else (if sv b = sv 8 then (bd (P_X1_sentBy 0 a g2) fun r17 g18 => some (r17, g18)) else (if sv b = sv 9 then (bd (P_X0_neighboursOf a g2) fun r20 g21 => some (r20, g21)) else (some (4294967295, g2))))))))))))
theorem p_X4_told {l : Launch} {Z : mg_Zt} {a b : Nat} {g : mg_F} : ∀ (r : Nat) (g' : mg_F), P_X4_told a b g = some (r, g') → mg_C l Z mX4_told [rv Z 4 0, iv a, iv b] g (mp mX4_told r g') := by
  refine mC_of (by decide) rfl (Nat.le_of_ble_eq_true rfl) (List.forall_mem_cons.mpr ⟨rfl, (List.forall_mem_cons.mpr ⟨rfl, (List.forall_mem_cons.mpr ⟨rfl, (fun _ h => nomatch h)⟩)⟩)⟩) (fun K => ?_)
  unfold P_X4_told
  refine j_lift (fun _ k => g_aload_n (pc := 0) dX4_told_0 rfl k) ?_
  refine j_lift (fun _ k => g_iload_n (pc := 1) dX4_told_1 rfl k) ?_
  refine j_callVi (pc := 2) (Y' := mX4_isStation) (As := [iv a]) (st := []) (k := 4) (i := 0) (p_X4_isStation) gX4_told_X4_isStation rfl (show 0 < 1 by omega) rfl rfl (na := 1) rfl (by decide +kernel) (by decide) (by decide) (Nat.le_of_ble_eq_true rfl) dX4_told_2 (fun r1 g2 => ?_)
  refine j_if_ne (pc := 5) 10 dX4_told_5 (by decide) (fun h3 => ?_) (fun h3 => ?_)
  · refine j_lift (fun _ k => g_aload_n (pc := 10) dX4_told_10 rfl k) ?_
    refine j_lift (fun _ k => fg_X4_told_18 (pc := 11) dX4_told_11 k) ?_
    refine j_lift (fun _ k => g_iload_n (pc := 14) dX4_told_14 rfl k) ?_
    refine j_ck (fun c4 => ?_)
    refine j_lift (fun _ k => g_aastation (pc := 15) (a := a) c4 dX4_told_15 k) ?_
    refine j_lift (fun _ k => g_astore_n (pc := 16) (ls' := [rv Z 4 0, iv a, iv b, rv Z 3 a]) dX4_told_16 (Nat.le_of_ble_eq_true rfl) (Nat.le_of_ble_eq_true rfl) rfl k) ?_
    refine j_lift (fun _ k => g_iload_n (pc := 17) dX4_told_17 rfl k) ?_
    refine j_ite (fun h5 => ?_) (fun h5 => ?_)
    · refine j_lift (fun _ k => g_swIn (pc := 18) (c := 0) 72 h5 dX4_told_18 (by decide) (by decide) (by decide) rfl (by decide) k) ?_
      refine j_lift (fun _ k => g_aload_n (pc := 72) dX4_told_72 rfl k) ?_
      refine j_lift (fun _ k => fg_X4_told_178 (pc := 73) c4 dX4_told_73 k) ?_
      refine j_if_eq (pc := 76) 83 dX4_told_76 (by decide) (fun h6 => ?_) (fun h6 => ?_)
      · refine j_lift (fun _ k => g_iconst (pc := 83) (v := 0) dX4_told_83 (by decide +kernel) k) ?_
        exact j_iret (pc := 84) dX4_told_84 ⟨mg_narI _, Or.inl rfl⟩ rfl
      · refine j_lift (fun _ k => g_iconst (pc := 79) (v := 1) dX4_told_79 (by decide +kernel) k) ?_
        refine j_lift (fun _ k => g_goto (pc := 80) 84 dX4_told_80 (by decide) k) ?_
        exact j_iret (pc := 84) dX4_told_84 ⟨mg_narI _, Or.inl rfl⟩ rfl
    refine j_ite (fun h7 => ?_) (fun h7 => ?_)
    · refine j_lift (fun _ k => g_swIn (pc := 18) (c := 1) 85 h7 dX4_told_18 (by decide) (by decide) (by decide) rfl (by decide) k) ?_
      refine j_lift (fun _ k => g_aload_n (pc := 85) dX4_told_85 rfl k) ?_
      refine j_lift (fun _ k => fg_X4_told_111 (pc := 86) c4 dX4_told_86 k) ?_
      refine j_if_eq (pc := 89) 96 dX4_told_89 (by decide) (fun h8 => ?_) (fun h8 => ?_)
      · refine j_lift (fun _ k => g_iconst (pc := 96) (v := 0) dX4_told_96 (by decide +kernel) k) ?_
        exact j_iret (pc := 97) dX4_told_97 ⟨mg_narI _, Or.inl rfl⟩ rfl
      · refine j_lift (fun _ k => g_iconst (pc := 92) (v := 1) dX4_told_92 (by decide +kernel) k) ?_
        refine j_lift (fun _ k => g_goto (pc := 93) 97 dX4_told_93 (by decide) k) ?_
        exact j_iret (pc := 97) dX4_told_97 ⟨mg_narI _, Or.inl rfl⟩ rfl
    refine j_ite (fun h9 => ?_) (fun h9 => ?_)
    · refine j_lift (fun _ k => g_swIn (pc := 18) (c := 2) 98 h9 dX4_told_18 (by decide) (by decide) (by decide) rfl (by decide) k) ?_
      refine j_lift (fun _ k => g_aload_n (pc := 98) dX4_told_98 rfl k) ?_
      refine j_lift (fun _ k => fg_X4_told_211 (pc := 99) c4 dX4_told_99 k) ?_
      refine j_if_eq (pc := 102) 109 dX4_told_102 (by decide) (fun h10 => ?_) (fun h10 => ?_)
      · refine j_lift (fun _ k => g_iconst (pc := 109) (v := 0) dX4_told_109 (by decide +kernel) k) ?_
        exact j_iret (pc := 110) dX4_told_110 ⟨mg_narI _, Or.inl rfl⟩ rfl
      · refine j_lift (fun _ k => g_iconst (pc := 105) (v := 1) dX4_told_105 (by decide +kernel) k) ?_
        refine j_lift (fun _ k => g_goto (pc := 106) 110 dX4_told_106 (by decide) k) ?_
        exact j_iret (pc := 110) dX4_told_110 ⟨mg_narI _, Or.inl rfl⟩ rfl
    refine j_ite (fun h11 => ?_) (fun h11 => ?_)
    · refine j_lift (fun _ k => g_swIn (pc := 18) (c := 3) 111 h11 dX4_told_18 (by decide) (by decide) (by decide) rfl (by decide) k) ?_
      refine j_lift (fun _ k => g_aload_n (pc := 111) dX4_told_111 rfl k) ?_
      refine j_lift (fun _ k => fg_X4_told_118 (pc := 112) c4 dX4_told_112 k) ?_
      refine j_lift (fun _ k => fg_X4_told_133 (pc := 115) c4 dX4_told_115 k) ?_
      exact j_iret (pc := 118) dX4_told_118 ⟨mg_narI _, Or.inl rfl⟩ rfl
    refine j_ite (fun h12 => ?_) (fun h12 => ?_)
    · refine j_lift (fun _ k => g_swIn (pc := 18) (c := 4) 119 h12 dX4_told_18 (by decide) (by decide) (by decide) rfl (by decide) k) ?_
      refine j_lift (fun _ k => g_aload_n (pc := 119) dX4_told_119 rfl k) ?_
      refine j_lift (fun _ k => fg_X4_told_152 (pc := 120) c4 dX4_told_120 k) ?_
      exact j_iret (pc := 123) dX4_told_123 ⟨mg_narI _, Or.inl rfl⟩ rfl
    refine j_ite (fun h13 => ?_) (fun h13 => ?_)
    · refine j_lift (fun _ k => g_swIn (pc := 18) (c := 5) 124 h13 dX4_told_18 (by decide) (by decide) (by decide) rfl (by decide) k) ?_
      refine j_lift (fun _ k => g_aload_n (pc := 124) dX4_told_124 rfl k) ?_
      refine j_lift (fun _ k => fg_X4_told_164 (pc := 125) c4 dX4_told_125 k) ?_
      exact j_iret (pc := 128) dX4_told_128 ⟨mg_narI _, Or.inl rfl⟩ rfl
    refine j_ite (fun h14 => ?_) (fun h14 => ?_)
    · refine j_lift (fun _ k => g_swIn (pc := 18) (c := 6) 129 h14 dX4_told_18 (by decide) (by decide) (by decide) rfl (by decide) k) ?_
      refine j_lift (fun _ k => g_aload_n (pc := 129) dX4_told_129 rfl k) ?_
      refine j_lift (fun _ k => fg_X4_told_130 (pc := 130) c4 dX4_told_130 k) ?_
      exact j_iret (pc := 133) dX4_told_133 ⟨mg_narI _, Or.inl rfl⟩ rfl
    refine j_ite (fun h15 => ?_) (fun h15 => ?_)
    · refine j_lift (fun _ k => g_swIn (pc := 18) (c := 7) 134 h15 dX4_told_18 (by decide) (by decide) (by decide) rfl (by decide) k) ?_
      refine j_lift (fun _ k => g_aload_n (pc := 134) dX4_told_134 rfl k) ?_
      refine j_lift (fun _ k => fg_X4_told_146 (pc := 135) c4 dX4_told_135 k) ?_
      exact j_iret (pc := 138) dX4_told_138 ⟨mg_narI _, Or.inl rfl⟩ rfl
    refine j_ite (fun h16 => ?_) (fun h16 => ?_)
    · refine j_lift (fun _ k => g_swIn (pc := 18) (c := 8) 139 h16 dX4_told_18 (by decide) (by decide) (by decide) rfl (by decide) k) ?_
      refine j_lift (fun _ k => g_aload_n (pc := 139) dX4_told_139 rfl k) ?_
      refine j_lift (fun _ k => fg_X4_told_27 (pc := 140) dX4_told_140 k) ?_
      refine j_lift (fun _ k => g_iload_n (pc := 143) dX4_told_143 rfl k) ?_
      refine j_callVi (pc := 144) (Y' := mX1_sentBy) (As := [iv a]) (st := []) (k := 1) (i := 0) (p_X1_sentBy (show 0 < 2 by omega)) gX4_told_X1_sentBy rfl (show 0 < 2 by omega) rfl rfl (na := 1) rfl (by decide +kernel) (by decide) (by decide) (Nat.le_of_ble_eq_true rfl) dX4_told_144 (fun r17 g18 => ?_)
      exact j_iret (pc := 147) dX4_told_147 ⟨mg_narI _, Or.inl rfl⟩ rfl
    refine j_ite (fun h19 => ?_) (fun h19 => ?_)
    · refine j_lift (fun _ k => g_swIn (pc := 18) (c := 9) 148 h19 dX4_told_18 (by decide) (by decide) (by decide) rfl (by decide) k) ?_
      refine j_lift (fun _ k => g_aload_n (pc := 148) dX4_told_148 rfl k) ?_
      refine j_lift (fun _ k => fg_X4_told_10 (pc := 149) dX4_told_149 k) ?_
      refine j_lift (fun _ k => g_iload_n (pc := 152) dX4_told_152 rfl k) ?_
      refine j_callVi (pc := 153) (Y' := mX0_neighboursOf) (As := [iv a]) (st := []) (k := 0) (i := 0) (p_X0_neighboursOf) gX4_told_X0_neighboursOf rfl (show 0 < 1 by omega) rfl rfl (na := 1) rfl (by decide +kernel) (by decide) (by decide) (Nat.le_of_ble_eq_true rfl) dX4_told_153 (fun r20 g21 => ?_)
      exact j_iret (pc := 156) dX4_told_156 ⟨mg_narI _, Or.inl rfl⟩ rfl
    refine j_lift (fun _ k => g_swOut (pc := 18) 157 dX4_told_18 (by rw [sv_l0] at h5; rw [sv_l1] at h7; rw [sv_l2] at h9; rw [sv_l3] at h11; rw [sv_l4] at h12; rw [sv_l5] at h13; rw [sv_l6] at h14; rw [sv_l7] at h15; rw [sv_l8] at h16; rw [sv_l9] at h19; omega) (by decide) k) ?_
    refine j_lift (fun _ k => g_iconst (pc := 157) (v := 4294967295) dX4_told_157 (by decide +kernel) k) ?_
    exact j_iret (pc := 158) dX4_told_158 ⟨mg_narI _, Or.inl rfl⟩ rfl
  · refine j_lift (fun _ k => g_iconst (pc := 8) (v := 4294967295) dX4_told_8 (by decide +kernel) k) ?_
    exact j_iret (pc := 9) dX4_told_9 ⟨mg_narI _, Or.inl rfl⟩ rfl

/-- X4_whoPumps -/
def L_X4_whoPumps_2 (k : Nat → mg_F → mo) : Nat → Nat → mg_F → mo
  | 0, _, _ => none
  | n + 1, v1, g => if sv v1 < sv (g 0 0 1) then (ck (v1 < 24) <| if sv (g 3 v1 5) = 0 then (L_X4_whoPumps_2  k n (v1 + 1) g) else (some (v1, g))) else (k v1 g)
theorem l_X4_whoPumps_2 {K : mg_Kt} {Z : mg_Zt}  {k : Nat → mg_F → mo} (hk : ∀ (v1 : Nat) (g : mg_F), mj K Z mX4_whoPumps (k v1 g) 33 [rv Z 4 0, iv v1] [] g) : ∀ (n : Nat) (v1 : Nat) (g : mg_F), mj K Z mX4_whoPumps (L_X4_whoPumps_2  k n v1 g) 2 [rv Z 4 0, iv v1] [] g := by
  intro n
  induction n with
  | zero => intro _ _; exact j_none
  | succ n ih =>
    intro v1 g
    unfold L_X4_whoPumps_2
    refine j_lift (fun _ k => g_iload_n (pc := 2) dX4_whoPumps_2 rfl k) ?_
    refine j_lift (fun _ k => g_aload_n (pc := 3) dX4_whoPumps_3 rfl k) ?_
    refine j_lift (fun _ k => fg_X4_whoPumps_10 (pc := 4) dX4_whoPumps_4 k) ?_
    refine j_lift (fun _ k => fg_X4_whoPumps_229 (pc := 7) dX4_whoPumps_7 k) ?_
    refine j_icmp_ge (pc := 10) 33 dX4_whoPumps_10 (by decide) (fun h1 => ?_) (fun h1 => ?_)
    · exact hk v1 g
    · refine j_lift (fun _ k => g_aload_n (pc := 13) dX4_whoPumps_13 rfl k) ?_
      refine j_lift (fun _ k => fg_X4_whoPumps_18 (pc := 14) dX4_whoPumps_14 k) ?_
      refine j_lift (fun _ k => g_iload_n (pc := 17) dX4_whoPumps_17 rfl k) ?_
      refine j_ck (fun c2 => ?_)
      refine j_lift (fun _ k => g_aastation (pc := 18) (a := v1) c2 dX4_whoPumps_18 k) ?_
      refine j_lift (fun _ k => fg_X4_whoPumps_111 (pc := 19) c2 dX4_whoPumps_19 k) ?_
      refine j_if_eq (pc := 22) 27 dX4_whoPumps_22 (by decide) (fun h3 => ?_) (fun h3 => ?_)
      · refine j_lift (fun _ k => g_iinc (pc := 27) (v := v1 + 1) (ls' := [rv Z 4 0, iv (v1 + 1)]) dX4_whoPumps_27 (Nat.le_of_ble_eq_true rfl) rfl (mg_inc _) rfl k) ?_
        refine j_lift (fun _ k => g_goto (pc := 30) 2 dX4_whoPumps_30 (by decide) k) ?_
        exact ih (v1 + 1) g
      · refine j_lift (fun _ k => g_iload_n (pc := 25) dX4_whoPumps_25 rfl k) ?_
        exact j_iret (pc := 26) dX4_whoPumps_26 ⟨mg_narI _, Or.inl rfl⟩ rfl
def P_X4_whoPumps (g : mg_F) : mo := L_X4_whoPumps_2  (fun w4 g5 => some (4294967294, g5)) 4000 0 g
theorem p_X4_whoPumps {l : Launch} {Z : mg_Zt} {g : mg_F} : ∀ (r : Nat) (g' : mg_F), P_X4_whoPumps g = some (r, g') → mg_C l Z mX4_whoPumps [rv Z 4 0] g (mp mX4_whoPumps r g') := by
  refine mC_of (by decide) rfl (Nat.le_of_ble_eq_true rfl) (List.forall_mem_cons.mpr ⟨rfl, (fun _ h => nomatch h)⟩) (fun K => ?_)
  unfold P_X4_whoPumps
  refine j_lift (fun _ k => g_iconst (pc := 0) (v := 0) dX4_whoPumps_0 (by decide +kernel) k) ?_
  refine j_lift (fun _ k => g_istore_n (pc := 1) (ls' := [rv Z 4 0, iv 0]) dX4_whoPumps_1 (Nat.le_of_ble_eq_true rfl) (Nat.le_of_ble_eq_true rfl) rfl k) ?_
  refine l_X4_whoPumps_2  (fun w4 g5 => ?_) 4000 0 g
  refine j_lift (fun _ k => g_bipush (pc := 33) (v := 4294967294) dX4_whoPumps_33 (by decide +kernel) k) ?_
  exact j_iret (pc := 35) dX4_whoPumps_35 ⟨mg_narI _, Or.inl rfl⟩ rfl

/-- X4_count -/
def P_X4_count (a : Nat) (g : mg_F) : mo := if sv a = sv 0 then (some (g 0 0 1, g)) else (if sv a = sv 1 then (some (g 0 0 2, g)) else (if sv a = sv 2 then (if sv (g 4 0 6) = 0 then (some (4294967295, g)) else (some (g 1 1 5, g))) else (if sv a = sv 3 then (if sv (g 4 0 6) = 0 then (some (4294967295, g)) else (bd (P_X4_whoPumps g) fun r7 g8 => some (r7, g8))) else (if sv a = sv 4 then (if sv (g 4 0 6) = 0 then (some (4294967295, g)) else (bd (P_X4_placeOfRight g) fun r11 g12 => some (r11, g12))) else (if sv a = sv 5 then (bd (P_X0_parts g) fun r14 g15 => some (r14, g15)) else (if sv a = sv 6 then (if sv (g 4 0 6) = 0 then (some (4294967295, g)) else (some (g 4 0 9, g))) else (some (4294967295, g))))))))
theorem p_X4_count {l : Launch} {Z : mg_Zt} {a : Nat} {g : mg_F} : ∀ (r : Nat) (g' : mg_F), P_X4_count a g = some (r, g') → mg_C l Z mX4_count [rv Z 4 0, iv a] g (mp mX4_count r g') := by
  refine mC_of (by decide) rfl (Nat.le_of_ble_eq_true rfl) (List.forall_mem_cons.mpr ⟨rfl, (List.forall_mem_cons.mpr ⟨rfl, (fun _ h => nomatch h)⟩)⟩) (fun K => ?_)
  unfold P_X4_count
  refine j_lift (fun _ k => g_iload_n (pc := 0) dX4_count_0 rfl k) ?_
  refine j_ite (fun h1 => ?_) (fun h1 => ?_)
  · refine j_lift (fun _ k => g_swIn (pc := 1) (c := 0) 44 h1 dX4_count_1 (by decide) (by decide) (by decide) rfl (by decide) k) ?_
    refine j_lift (fun _ k => g_aload_n (pc := 44) dX4_count_44 rfl k) ?_
    refine j_lift (fun _ k => fg_X4_count_10 (pc := 45) dX4_count_45 k) ?_
    refine j_lift (fun _ k => fg_X4_count_229 (pc := 48) dX4_count_48 k) ?_
    exact j_iret (pc := 51) dX4_count_51 ⟨mg_narI _, Or.inl rfl⟩ rfl
  refine j_ite (fun h2 => ?_) (fun h2 => ?_)
  · refine j_lift (fun _ k => g_swIn (pc := 1) (c := 1) 52 h2 dX4_count_1 (by decide) (by decide) (by decide) rfl (by decide) k) ?_
    refine j_lift (fun _ k => g_aload_n (pc := 52) dX4_count_52 rfl k) ?_
    refine j_lift (fun _ k => fg_X4_count_10 (pc := 53) dX4_count_53 k) ?_
    refine j_lift (fun _ k => fg_X4_count_77 (pc := 56) dX4_count_56 k) ?_
    exact j_iret (pc := 59) dX4_count_59 ⟨mg_narI _, Or.inl rfl⟩ rfl
  refine j_ite (fun h3 => ?_) (fun h3 => ?_)
  · refine j_lift (fun _ k => g_swIn (pc := 1) (c := 2) 60 h3 dX4_count_1 (by decide) (by decide) (by decide) rfl (by decide) k) ?_
    refine j_lift (fun _ k => g_aload_n (pc := 60) dX4_count_60 rfl k) ?_
    refine j_lift (fun _ k => fg_X4_count_55 (pc := 61) dX4_count_61 k) ?_
    refine j_if_eq (pc := 64) 77 dX4_count_64 (by decide) (fun h4 => ?_) (fun h4 => ?_)
    · refine j_lift (fun _ k => g_iconst (pc := 77) (v := 4294967295) dX4_count_77 (by decide +kernel) k) ?_
      exact j_iret (pc := 78) dX4_count_78 ⟨mg_narI _, Or.inl rfl⟩ rfl
    · refine j_lift (fun _ k => g_aload_n (pc := 67) dX4_count_67 rfl k) ?_
      refine j_lift (fun _ k => fg_X4_count_31 (pc := 68) dX4_count_68 k) ?_
      refine j_lift (fun _ k => fg_X4_count_94 (pc := 71) (show 1 < 2 by omega) dX4_count_71 k) ?_
      refine j_lift (fun _ k => g_goto (pc := 74) 78 dX4_count_74 (by decide) k) ?_
      exact j_iret (pc := 78) dX4_count_78 ⟨mg_narI _, Or.inl rfl⟩ rfl
  refine j_ite (fun h5 => ?_) (fun h5 => ?_)
  · refine j_lift (fun _ k => g_swIn (pc := 1) (c := 3) 79 h5 dX4_count_1 (by decide) (by decide) (by decide) rfl (by decide) k) ?_
    refine j_lift (fun _ k => g_aload_n (pc := 79) dX4_count_79 rfl k) ?_
    refine j_lift (fun _ k => fg_X4_count_55 (pc := 80) dX4_count_80 k) ?_
    refine j_if_eq (pc := 83) 93 dX4_count_83 (by decide) (fun h6 => ?_) (fun h6 => ?_)
    · refine j_lift (fun _ k => g_iconst (pc := 93) (v := 4294967295) dX4_count_93 (by decide +kernel) k) ?_
      exact j_iret (pc := 94) dX4_count_94 ⟨mg_narI _, Or.inl rfl⟩ rfl
    · refine j_lift (fun _ k => g_aload_n (pc := 86) dX4_count_86 rfl k) ?_
      refine j_callVi (pc := 87) (Y' := mX4_whoPumps) (As := []) (st := []) (k := 4) (i := 0) (p_X4_whoPumps) gX4_count_X4_whoPumps rfl (show 0 < 1 by omega) rfl rfl (na := 0) rfl (by decide +kernel) (by decide) (by decide) (Nat.le_of_ble_eq_true rfl) dX4_count_87 (fun r7 g8 => ?_)
      refine j_lift (fun _ k => g_goto (pc := 90) 94 dX4_count_90 (by decide) k) ?_
      exact j_iret (pc := 94) dX4_count_94 ⟨mg_narI _, Or.inl rfl⟩ rfl
  refine j_ite (fun h9 => ?_) (fun h9 => ?_)
  · refine j_lift (fun _ k => g_swIn (pc := 1) (c := 4) 95 h9 dX4_count_1 (by decide) (by decide) (by decide) rfl (by decide) k) ?_
    refine j_lift (fun _ k => g_aload_n (pc := 95) dX4_count_95 rfl k) ?_
    refine j_lift (fun _ k => fg_X4_count_55 (pc := 96) dX4_count_96 k) ?_
    refine j_if_eq (pc := 99) 109 dX4_count_99 (by decide) (fun h10 => ?_) (fun h10 => ?_)
    · refine j_lift (fun _ k => g_iconst (pc := 109) (v := 4294967295) dX4_count_109 (by decide +kernel) k) ?_
      exact j_iret (pc := 110) dX4_count_110 ⟨mg_narI _, Or.inl rfl⟩ rfl
    · refine j_lift (fun _ k => g_aload_n (pc := 102) dX4_count_102 rfl k) ?_
      refine j_callVi (pc := 103) (Y' := mX4_placeOfRight) (As := []) (st := []) (k := 4) (i := 0) (p_X4_placeOfRight) gX4_count_X4_placeOfRight rfl (show 0 < 1 by omega) rfl rfl (na := 0) rfl (by decide +kernel) (by decide) (by decide) (Nat.le_of_ble_eq_true rfl) dX4_count_103 (fun r11 g12 => ?_)
      refine j_lift (fun _ k => g_goto (pc := 106) 110 dX4_count_106 (by decide) k) ?_
      exact j_iret (pc := 110) dX4_count_110 ⟨mg_narI _, Or.inl rfl⟩ rfl
  refine j_ite (fun h13 => ?_) (fun h13 => ?_)
  · refine j_lift (fun _ k => g_swIn (pc := 1) (c := 5) 111 h13 dX4_count_1 (by decide) (by decide) (by decide) rfl (by decide) k) ?_
    refine j_lift (fun _ k => g_aload_n (pc := 111) dX4_count_111 rfl k) ?_
    refine j_lift (fun _ k => fg_X4_count_10 (pc := 112) dX4_count_112 k) ?_
    refine j_callVi (pc := 115) (Y' := mX0_parts) (As := []) (st := []) (k := 0) (i := 0) (p_X0_parts) gX4_count_X0_parts rfl (show 0 < 1 by omega) rfl rfl (na := 0) rfl (by decide +kernel) (by decide) (by decide) (Nat.le_of_ble_eq_true rfl) dX4_count_115 (fun r14 g15 => ?_)
    exact j_iret (pc := 118) dX4_count_118 ⟨mg_narI _, Or.inl rfl⟩ rfl
  refine j_ite (fun h16 => ?_) (fun h16 => ?_)
  · refine j_lift (fun _ k => g_swIn (pc := 1) (c := 6) 119 h16 dX4_count_1 (by decide) (by decide) (by decide) rfl (by decide) k) ?_
    refine j_lift (fun _ k => g_aload_n (pc := 119) dX4_count_119 rfl k) ?_
    refine j_lift (fun _ k => fg_X4_count_55 (pc := 120) dX4_count_120 k) ?_
    refine j_if_eq (pc := 123) 133 dX4_count_123 (by decide) (fun h17 => ?_) (fun h17 => ?_)
    · refine j_lift (fun _ k => g_iconst (pc := 133) (v := 4294967295) dX4_count_133 (by decide +kernel) k) ?_
      exact j_iret (pc := 134) dX4_count_134 ⟨mg_narI _, Or.inl rfl⟩ rfl
    · refine j_lift (fun _ k => g_aload_n (pc := 126) dX4_count_126 rfl k) ?_
      refine j_lift (fun _ k => fg_X4_count_91 (pc := 127) dX4_count_127 k) ?_
      refine j_lift (fun _ k => g_goto (pc := 130) 134 dX4_count_130 (by decide) k) ?_
      exact j_iret (pc := 134) dX4_count_134 ⟨mg_narI _, Or.inl rfl⟩ rfl
  refine j_lift (fun _ k => g_swOut (pc := 1) 135 dX4_count_1 (by rw [sv_l0] at h1; rw [sv_l1] at h2; rw [sv_l2] at h3; rw [sv_l3] at h5; rw [sv_l4] at h9; rw [sv_l5] at h13; rw [sv_l6] at h16; omega) (by decide) k) ?_
  refine j_lift (fun _ k => g_iconst (pc := 135) (v := 4294967295) dX4_count_135 (by decide +kernel) k) ?_
  exact j_iret (pc := 136) dX4_count_136 ⟨mg_narI _, Or.inl rfl⟩ rfl

/-- X5_canal -/
def L_X5_canal_30 (a1 : Nat) (k : Nat → mg_F → mo) : Nat → Nat → mg_F → mo
  | 0, _, _ => none
  | n + 1, v2, g => if sv v2 < sv 576 then (ck (v2 < 576) <| wr (mg_up g 35 0 v2 0) fun g3 => L_X5_canal_30 a1 k n (v2 + 1) g3) else (k v2 g)
theorem l_X5_canal_30 {K : mg_Kt} {Z : mg_Zt} (hb : Z.2.2.1 = true) {a1 : Nat}  {k : Nat → mg_F → mo} (hk : ∀ (v2 : Nat) (g : mg_F), mj K Z mX5_canal (k v2 g) 50 [rv Z 5 0, iv a1, iv v2] [] g) : ∀ (n : Nat) (v2 : Nat) (g : mg_F), mj K Z mX5_canal (L_X5_canal_30 a1 k n v2 g) 30 [rv Z 5 0, iv a1, iv v2] [] g := by
  intro n
  induction n with
  | zero => intro _ _; exact j_none
  | succ n ih =>
    intro v2 g
    unfold L_X5_canal_30
    refine j_lift (fun _ k => g_iload_n (pc := 30) dX5_canal_30 rfl k) ?_
    refine j_lift (fun _ k => g_sipush (pc := 31) (v := 576) dX5_canal_31 (by decide +kernel) k) ?_
    refine j_icmp_ge (pc := 34) 50 dX5_canal_34 (by decide) (fun h1 => ?_) (fun h1 => ?_)
    · exact hk v2 g
    · refine j_lift (fun _ k => g_aload_n (pc := 37) dX5_canal_37 rfl k) ?_
      refine j_lift (fun _ k => fg_X5_canal_7 (pc := 38) hb dX5_canal_38 k) ?_
      refine j_lift (fun _ k => g_iload_n (pc := 41) dX5_canal_41 rfl k) ?_
      refine j_lift (fun _ k => g_iconst (pc := 42) (v := 0) dX5_canal_42 (by decide +kernel) k) ?_
      refine j_ck (fun c2 => ?_)
      refine j_w (fun _ k => g_bastore (pc := 43) (k := 35) (i := 0) (n := 576) (by rw [hb]; decide) (fun _ => rfl) (by decide) c2 (by decide) dX5_canal_43 k) (fun g3 => ?_)
      refine j_lift (fun _ k => g_iinc (pc := 44) (v := v2 + 1) (ls' := [rv Z 5 0, iv a1, iv (v2 + 1)]) dX5_canal_44 (Nat.le_of_ble_eq_true rfl) rfl (mg_inc _) rfl k) ?_
      refine j_lift (fun _ k => g_goto (pc := 47) 30 dX5_canal_47 (by decide) k) ?_
      exact ih (v2 + 1) g3
def P_X5_canal (a : Nat) (g : mg_F) : mo := if sv a < sv 2 then (some (4294967295, g)) else (if sv 24 < sv a then (some (4294967295, g)) else (wr (mg_up g 5 0 0 a) fun g3 => wr (mg_up g3 5 0 1 0) fun g4 => wr (mg_up g4 5 0 4 0) fun g5 => L_X5_canal_30 a (fun w6 g7 => some (0, g7)) 4000 0 g5))
theorem p_X5_canal {l : Launch} {Z : mg_Zt} {a : Nat} {g : mg_F} (hb : Z.2.2.1 = true) : ∀ (r : Nat) (g' : mg_F), P_X5_canal a g = some (r, g') → mg_C l Z mX5_canal [rv Z 5 0, iv a] g (mp mX5_canal r g') := by
  refine mC_of (by decide) rfl (Nat.le_of_ble_eq_true rfl) (List.forall_mem_cons.mpr ⟨rfl, (List.forall_mem_cons.mpr ⟨rfl, (fun _ h => nomatch h)⟩)⟩) (fun K => ?_)
  unfold P_X5_canal
  refine j_lift (fun _ k => g_iload_n (pc := 0) dX5_canal_0 rfl k) ?_
  refine j_lift (fun _ k => g_iconst (pc := 1) (v := 2) dX5_canal_1 (by decide +kernel) k) ?_
  refine j_icmp_lt (pc := 2) 11 dX5_canal_2 (by decide) (fun h1 => ?_) (fun h1 => ?_)
  · refine j_lift (fun _ k => g_iconst (pc := 11) (v := 4294967295) dX5_canal_11 (by decide +kernel) k) ?_
    exact j_iret (pc := 12) dX5_canal_12 ⟨mg_narI _, Or.inl rfl⟩ rfl
  · refine j_lift (fun _ k => g_iload_n (pc := 5) dX5_canal_5 rfl k) ?_
    refine j_lift (fun _ k => g_bipush (pc := 6) (v := 24) dX5_canal_6 (by decide +kernel) k) ?_
    refine j_icmp_le (pc := 8) 13 dX5_canal_8 (by decide) (fun h2 => ?_) (fun h2 => ?_)
    · refine j_lift (fun _ k => g_aload_n (pc := 13) dX5_canal_13 rfl k) ?_
      refine j_lift (fun _ k => g_iload_n (pc := 14) dX5_canal_14 rfl k) ?_
      refine j_w (fun _ k => fp_X5_canal_101 (pc := 15) hb dX5_canal_15 k) (fun g3 => ?_)
      refine j_lift (fun _ k => g_aload_n (pc := 18) dX5_canal_18 rfl k) ?_
      refine j_lift (fun _ k => g_iconst (pc := 19) (v := 0) dX5_canal_19 (by decide +kernel) k) ?_
      refine j_w (fun _ k => fp_X5_canal_105 (pc := 20) hb (by decide) dX5_canal_20 k) (fun g4 => ?_)
      refine j_lift (fun _ k => g_aload_n (pc := 23) dX5_canal_23 rfl k) ?_
      refine j_lift (fun _ k => g_iconst (pc := 24) (v := 0) dX5_canal_24 (by decide +kernel) k) ?_
      refine j_w (fun _ k => fp_X5_canal_113 (pc := 25) hb dX5_canal_25 k) (fun g5 => ?_)
      refine j_lift (fun _ k => g_iconst (pc := 28) (v := 0) dX5_canal_28 (by decide +kernel) k) ?_
      refine j_lift (fun _ k => g_istore_n (pc := 29) (ls' := [rv Z 5 0, iv a, iv 0]) dX5_canal_29 (Nat.le_of_ble_eq_true rfl) (Nat.le_of_ble_eq_true rfl) rfl k) ?_
      refine l_X5_canal_30 hb  (fun w6 g7 => ?_) 4000 0 g5
      refine j_lift (fun _ k => g_iconst (pc := 50) (v := 0) dX5_canal_50 (by decide +kernel) k) ?_
      exact j_iret (pc := 51) dX5_canal_51 ⟨mg_narI _, Or.inl rfl⟩ rfl
    · refine j_lift (fun _ k => g_iconst (pc := 11) (v := 4294967295) dX5_canal_11 (by decide +kernel) k) ?_
      exact j_iret (pc := 12) dX5_canal_12 ⟨mg_narI _, Or.inl rfl⟩ rfl

/-- X5_part -/
def L_X5_part_2 (k : Nat → mg_F → mo) : Nat → Nat → mg_F → mo
  | 0, _, _ => none
  | n + 1, v1, g => if sv v1 < sv (g 5 0 0) then (ck (v1 < 24) <| wr (mg_up g 61 0 v1 v1) fun g3 => L_X5_part_2  k n (v1 + 1) g3) else (k v1 g)
theorem l_X5_part_2 {K : mg_Kt} {Z : mg_Zt} (hb : Z.2.2.1 = true)  {k : Nat → mg_F → mo} (hk : ∀ (v1 : Nat) (g : mg_F), mj K Z mX5_part (k v1 g) 23 [rv Z 5 0, iv v1] [] g) : ∀ (n : Nat) (v1 : Nat) (g : mg_F), mj K Z mX5_part (L_X5_part_2  k n v1 g) 2 [rv Z 5 0, iv v1] [] g := by
  intro n
  induction n with
  | zero => intro _ _; exact j_none
  | succ n ih =>
    intro v1 g
    unfold L_X5_part_2
    refine j_lift (fun _ k => g_iload_n (pc := 2) dX5_part_2 rfl k) ?_
    refine j_lift (fun _ k => g_aload_n (pc := 3) dX5_part_3 rfl k) ?_
    refine j_lift (fun _ k => fg_X5_part_101 (pc := 4) hb dX5_part_4 k) ?_
    refine j_icmp_ge (pc := 7) 23 dX5_part_7 (by decide) (fun h1 => ?_) (fun h1 => ?_)
    · exact hk v1 g
    · refine j_lift (fun _ k => g_aload_n (pc := 10) dX5_part_10 rfl k) ?_
      refine j_lift (fun _ k => fg_X5_part_80 (pc := 11) hb dX5_part_11 k) ?_
      refine j_lift (fun _ k => g_iload_n (pc := 14) dX5_part_14 rfl k) ?_
      refine j_lift (fun _ k => g_iload_n (pc := 15) dX5_part_15 rfl k) ?_
      refine j_ck (fun c2 => ?_)
      refine j_w (fun _ k => g_iastore (pc := 16) (k := 61) (i := 0) (n := 24) (by rw [hb]; decide) (fun _ => rfl) (by decide) c2 dX5_part_16 k) (fun g3 => ?_)
      refine j_lift (fun _ k => g_iinc (pc := 17) (v := v1 + 1) (ls' := [rv Z 5 0, iv (v1 + 1)]) dX5_part_17 (Nat.le_of_ble_eq_true rfl) rfl (mg_inc _) rfl k) ?_
      refine j_lift (fun _ k => g_goto (pc := 20) 2 dX5_part_20 (by decide) k) ?_
      exact ih (v1 + 1) g3
def L_X5_part_45 (a1 a2 : Nat) (k : Nat → mg_F → mo) : Nat → Nat → mg_F → mo
  | 0, _, _ => none
  | n + 1, v3, g => if sv v3 < sv (g 5 0 0) then (ck ((24 * a2) + v3 < 576) <| jn (α := Nat) (fun x6 g7 => ck (a2 < 24) <| wr (mg_up g7 61 0 a2 x6) fun g9 => L_X5_part_45 a1 a2 k n (v3 + 1) g9) fun kj4 => if sv (g 35 0 ((24 * a2) + v3)) = 0 then (ck (a2 < 24) <| kj4 (g 61 0 a2) g) else (ck (v3 < 24) <| ck (a2 < 24) <| if sv (g 61 0 v3) < sv (g 61 0 a2) then (kj4 (g 61 0 v3) g) else (kj4 (g 61 0 a2) g))) else (k v3 g)
theorem l_X5_part_45 {K : mg_Kt} {Z : mg_Zt} (hb : Z.2.2.1 = true) {a1 a2 : Nat}  {k : Nat → mg_F → mo} (hk : ∀ (v3 : Nat) (g : mg_F), mj K Z mX5_part (k v3 g) 109 [rv Z 5 0, iv a1, iv a2, iv v3] [] g) : ∀ (n : Nat) (v3 : Nat) (g : mg_F), mj K Z mX5_part (L_X5_part_45 a1 a2 k n v3 g) 45 [rv Z 5 0, iv a1, iv a2, iv v3] [] g := by
  intro n
  induction n with
  | zero => intro _ _; exact j_none
  | succ n ih =>
    intro v3 g
    unfold L_X5_part_45
    refine j_lift (fun _ k => g_iload_n (pc := 45) dX5_part_45 rfl k) ?_
    refine j_lift (fun _ k => g_aload_n (pc := 46) dX5_part_46 rfl k) ?_
    refine j_lift (fun _ k => fg_X5_part_101 (pc := 47) hb dX5_part_47 k) ?_
    refine j_icmp_ge (pc := 50) 109 dX5_part_50 (by decide) (fun h1 => ?_) (fun h1 => ?_)
    · exact hk v3 g
    · refine j_lift (fun _ k => g_aload_n (pc := 53) dX5_part_53 rfl k) ?_
      refine j_lift (fun _ k => fg_X5_part_80 (pc := 54) hb dX5_part_54 k) ?_
      refine j_lift (fun _ k => g_iload_n (pc := 57) dX5_part_57 rfl k) ?_
      refine j_lift (fun _ k => g_aload_n (pc := 58) dX5_part_58 rfl k) ?_
      refine j_lift (fun _ k => fg_X5_part_7 (pc := 59) hb dX5_part_59 k) ?_
      refine j_lift (fun _ k => g_bipush (pc := 62) (v := 24) dX5_part_62 (by decide +kernel) k) ?_
      refine j_lift (fun _ k => g_iload_n (pc := 64) dX5_part_64 rfl k) ?_
      refine j_lift (fun _ k => g_imul (pc := 65) (a := 24) (b := a2) dX5_part_65 k) ?_
      refine j_lift (fun _ k => g_iload_n (pc := 66) dX5_part_66 rfl k) ?_
      refine j_lift (fun _ k => g_iadd (pc := 67) (a := 24 * a2) (b := v3) dX5_part_67 k) ?_
      refine j_ck (fun c2 => ?_)
      refine j_lift (fun _ k => g_baload (pc := 68) (k := 35) (i := 0) (n := 576) (by rw [hb]; decide) rfl (by decide) c2 dX5_part_68 k) ?_
      refine j_jn (α := Nat) 102 (fun x6 => [rv Z 5 0, iv a1, iv a2, iv v3]) (fun x6 => [iv x6, iv a2, rv Z 61 0]) (fun x6 g7 => ?_) (fun kj4 hk5 => ?_)
      · refine j_ck (fun c8 => ?_)
        refine j_w (fun _ k => g_iastore (pc := 102) (k := 61) (i := 0) (n := 24) (by rw [hb]; decide) (fun _ => rfl) (by decide) c8 dX5_part_102 k) (fun g9 => ?_)
        refine j_lift (fun _ k => g_iinc (pc := 103) (v := v3 + 1) (ls' := [rv Z 5 0, iv a1, iv a2, iv (v3 + 1)]) dX5_part_103 (Nat.le_of_ble_eq_true rfl) rfl (mg_inc _) rfl k) ?_
        refine j_lift (fun _ k => g_goto (pc := 106) 45 dX5_part_106 (by decide) k) ?_
        exact ih (v3 + 1) g9
      · refine j_if_eq (pc := 69) 96 dX5_part_69 (by decide) (fun h3 => ?_) (fun h3 => ?_)
        · refine j_lift (fun _ k => g_aload_n (pc := 96) dX5_part_96 rfl k) ?_
          refine j_lift (fun _ k => fg_X5_part_80 (pc := 97) hb dX5_part_97 k) ?_
          refine j_lift (fun _ k => g_iload_n (pc := 100) dX5_part_100 rfl k) ?_
          refine j_ck (fun c10 => ?_)
          refine j_lift (fun _ k => g_iaload (pc := 101) (k := 61) (i := 0) (n := 24) (by rw [hb]; decide) rfl (by decide) c10 dX5_part_101 k) ?_
          exact hk5 (g 61 0 a2) g
        · refine j_lift (fun _ k => g_aload_n (pc := 72) dX5_part_72 rfl k) ?_
          refine j_lift (fun _ k => fg_X5_part_80 (pc := 73) hb dX5_part_73 k) ?_
          refine j_lift (fun _ k => g_iload_n (pc := 76) dX5_part_76 rfl k) ?_
          refine j_ck (fun c11 => ?_)
          refine j_lift (fun _ k => g_iaload (pc := 77) (k := 61) (i := 0) (n := 24) (by rw [hb]; decide) rfl (by decide) c11 dX5_part_77 k) ?_
          refine j_lift (fun _ k => g_aload_n (pc := 78) dX5_part_78 rfl k) ?_
          refine j_lift (fun _ k => fg_X5_part_80 (pc := 79) hb dX5_part_79 k) ?_
          refine j_lift (fun _ k => g_iload_n (pc := 82) dX5_part_82 rfl k) ?_
          refine j_ck (fun c12 => ?_)
          refine j_lift (fun _ k => g_iaload (pc := 83) (k := 61) (i := 0) (n := 24) (by rw [hb]; decide) rfl (by decide) c12 dX5_part_83 k) ?_
          refine j_icmp_ge (pc := 84) 96 dX5_part_84 (by decide) (fun h13 => ?_) (fun h13 => ?_)
          · refine j_lift (fun _ k => g_aload_n (pc := 96) dX5_part_96 rfl k) ?_
            refine j_lift (fun _ k => fg_X5_part_80 (pc := 97) hb dX5_part_97 k) ?_
            refine j_lift (fun _ k => g_iload_n (pc := 100) dX5_part_100 rfl k) ?_
            refine j_lift (fun _ k => g_iaload (pc := 101) (k := 61) (i := 0) (n := 24) (by rw [hb]; decide) rfl (by decide) c12 dX5_part_101 k) ?_
            exact hk5 (g 61 0 a2) g
          · refine j_lift (fun _ k => g_aload_n (pc := 87) dX5_part_87 rfl k) ?_
            refine j_lift (fun _ k => fg_X5_part_80 (pc := 88) hb dX5_part_88 k) ?_
            refine j_lift (fun _ k => g_iload_n (pc := 91) dX5_part_91 rfl k) ?_
            refine j_lift (fun _ k => g_iaload (pc := 92) (k := 61) (i := 0) (n := 24) (by rw [hb]; decide) rfl (by decide) c11 dX5_part_92 k) ?_
            refine j_lift (fun _ k => g_goto (pc := 93) 102 dX5_part_93 (by decide) k) ?_
            exact hk5 (g 61 0 v3) g
def L_X5_part_35 (a1 : Nat) (k : Nat → mg_F → mo) : Nat → Nat → mg_F → mo
  | 0, _, _ => none
  | n + 1, v2, g => if sv v2 < sv (g 5 0 0) then (L_X5_part_45 a1 v2 (fun w14 g15 => L_X5_part_35 a1 k n (v2 + 1) g15) 4000 0 g) else (k v2 g)
theorem l_X5_part_35 {K : mg_Kt} {Z : mg_Zt} (hb : Z.2.2.1 = true) {a1 : Nat}  {k : Nat → mg_F → mo} (hk : ∀ (v2 : Nat) (g : mg_F), mj K Z mX5_part (k v2 g) 115 [rv Z 5 0, iv a1, iv v2] [] g) : ∀ (n : Nat) (v2 : Nat) (g : mg_F), mj K Z mX5_part (L_X5_part_35 a1 k n v2 g) 35 [rv Z 5 0, iv a1, iv v2] [] g := by
  intro n
  induction n with
  | zero => intro _ _; exact j_none
  | succ n ih =>
    intro v2 g
    unfold L_X5_part_35
    refine j_lift (fun _ k => g_iload_n (pc := 35) dX5_part_35 rfl k) ?_
    refine j_lift (fun _ k => g_aload_n (pc := 36) dX5_part_36 rfl k) ?_
    refine j_lift (fun _ k => fg_X5_part_101 (pc := 37) hb dX5_part_37 k) ?_
    refine j_icmp_ge (pc := 40) 115 dX5_part_40 (by decide) (fun h1 => ?_) (fun h1 => ?_)
    · exact hk v2 g
    · refine j_lift (fun _ k => g_iconst (pc := 43) (v := 0) dX5_part_43 (by decide +kernel) k) ?_
      refine j_lift (fun _ k => g_istore_n (pc := 44) (ls' := [rv Z 5 0, iv a1, iv v2, iv 0]) dX5_part_44 (Nat.le_of_ble_eq_true rfl) (Nat.le_of_ble_eq_true rfl) rfl k) ?_
      refine l_X5_part_45 hb  (fun w14 g15 => ?_) 4000 0 g
      refine j_lift (fun _ k => g_iinc (pc := 109) (v := v2 + 1) (ls' := [rv Z 5 0, iv a1, iv (v2 + 1), iv w14]) dX5_part_109 (Nat.le_of_ble_eq_true rfl) rfl (mg_inc _) rfl k) ?_
      refine j_lift (fun _ k => g_goto (pc := 112) 35 dX5_part_112 (by decide) k) ?_
      refine j_trunc (ls := [rv Z 5 0, iv a1, iv (v2 + 1)]) [iv w14] ?_
      exact ih (v2 + 1) g15
def L_X5_part_25 (k : Nat → mg_F → mo) : Nat → Nat → mg_F → mo
  | 0, _, _ => none
  | n + 1, v1, g => if sv v1 < sv (g 5 0 0) then (L_X5_part_35 v1 (fun w16 g17 => L_X5_part_25  k n (v1 + 1) g17) 4000 0 g) else (k v1 g)
theorem l_X5_part_25 {K : mg_Kt} {Z : mg_Zt} (hb : Z.2.2.1 = true)  {k : Nat → mg_F → mo} (hk : ∀ (v1 : Nat) (g : mg_F), mj K Z mX5_part (k v1 g) 121 [rv Z 5 0, iv v1] [] g) : ∀ (n : Nat) (v1 : Nat) (g : mg_F), mj K Z mX5_part (L_X5_part_25  k n v1 g) 25 [rv Z 5 0, iv v1] [] g := by
  intro n
  induction n with
  | zero => intro _ _; exact j_none
  | succ n ih =>
    intro v1 g
    unfold L_X5_part_25
    refine j_lift (fun _ k => g_iload_n (pc := 25) dX5_part_25 rfl k) ?_
    refine j_lift (fun _ k => g_aload_n (pc := 26) dX5_part_26 rfl k) ?_
    refine j_lift (fun _ k => fg_X5_part_101 (pc := 27) hb dX5_part_27 k) ?_
    refine j_icmp_ge (pc := 30) 121 dX5_part_30 (by decide) (fun h1 => ?_) (fun h1 => ?_)
    · exact hk v1 g
    · refine j_lift (fun _ k => g_iconst (pc := 33) (v := 0) dX5_part_33 (by decide +kernel) k) ?_
      refine j_lift (fun _ k => g_istore_n (pc := 34) (ls' := [rv Z 5 0, iv v1, iv 0]) dX5_part_34 (Nat.le_of_ble_eq_true rfl) (Nat.le_of_ble_eq_true rfl) rfl k) ?_
      refine l_X5_part_35 hb  (fun w16 g17 => ?_) 4000 0 g
      refine j_lift (fun _ k => g_iinc (pc := 115) (v := v1 + 1) (ls' := [rv Z 5 0, iv (v1 + 1), iv w16]) dX5_part_115 (Nat.le_of_ble_eq_true rfl) rfl (mg_inc _) rfl k) ?_
      refine j_lift (fun _ k => g_goto (pc := 118) 25 dX5_part_118 (by decide) k) ?_
      refine j_trunc (ls := [rv Z 5 0, iv (v1 + 1)]) [iv w16] ?_
      exact ih (v1 + 1) g17
def L_X5_part_125 (k : Nat → Nat → mg_F → mo) : Nat → Nat → Nat → mg_F → mo
  | 0, _, _, _ => none
  | n + 1, v1, v2, g => if sv v2 < sv (g 5 0 0) then (ck (v2 < 24) <| jn (α := Nat) (fun x6 g7 => L_X5_part_125  k n (v1 + x6) (v2 + 1) g7) fun kj4 => if sv (g 61 0 v2) = sv v2 then (kj4 1 g) else (kj4 0 g)) else (k v1 v2 g)
theorem l_X5_part_125 {K : mg_Kt} {Z : mg_Zt} (hb : Z.2.2.1 = true)  {k : Nat → Nat → mg_F → mo} (hk : ∀ (v1 v2 : Nat) (g : mg_F), mj K Z mX5_part (k v1 v2 g) 157 [rv Z 5 0, iv v1, iv v2] [] g) : ∀ (n : Nat) (v1 v2 : Nat) (g : mg_F), mj K Z mX5_part (L_X5_part_125  k n v1 v2 g) 125 [rv Z 5 0, iv v1, iv v2] [] g := by
  intro n
  induction n with
  | zero => intro _ _ _; exact j_none
  | succ n ih =>
    intro v1 v2 g
    unfold L_X5_part_125
    refine j_lift (fun _ k => g_iload_n (pc := 125) dX5_part_125 rfl k) ?_
    refine j_lift (fun _ k => g_aload_n (pc := 126) dX5_part_126 rfl k) ?_
    refine j_lift (fun _ k => fg_X5_part_101 (pc := 127) hb dX5_part_127 k) ?_
    refine j_icmp_ge (pc := 130) 157 dX5_part_130 (by decide) (fun h1 => ?_) (fun h1 => ?_)
    · exact hk v1 v2 g
    · refine j_lift (fun _ k => g_iload_n (pc := 133) dX5_part_133 rfl k) ?_
      refine j_lift (fun _ k => g_aload_n (pc := 134) dX5_part_134 rfl k) ?_
      refine j_lift (fun _ k => fg_X5_part_80 (pc := 135) hb dX5_part_135 k) ?_
      refine j_lift (fun _ k => g_iload_n (pc := 138) dX5_part_138 rfl k) ?_
      refine j_ck (fun c2 => ?_)
      refine j_lift (fun _ k => g_iaload (pc := 139) (k := 61) (i := 0) (n := 24) (by rw [hb]; decide) rfl (by decide) c2 dX5_part_139 k) ?_
      refine j_lift (fun _ k => g_iload_n (pc := 140) dX5_part_140 rfl k) ?_
      refine j_jn (α := Nat) 149 (fun x6 => [rv Z 5 0, iv v1, iv v2]) (fun x6 => [iv x6, iv v1]) (fun x6 g7 => ?_) (fun kj4 hk5 => ?_)
      · refine j_lift (fun _ k => g_iadd (pc := 149) (a := v1) (b := x6) dX5_part_149 k) ?_
        refine j_lift (fun _ k => g_istore_n (pc := 150) (ls' := [rv Z 5 0, iv (v1 + x6), iv v2]) dX5_part_150 (Nat.le_of_ble_eq_true rfl) (Nat.le_of_ble_eq_true rfl) rfl k) ?_
        refine j_lift (fun _ k => g_iinc (pc := 151) (v := v2 + 1) (ls' := [rv Z 5 0, iv (v1 + x6), iv (v2 + 1)]) dX5_part_151 (Nat.le_of_ble_eq_true rfl) rfl (mg_inc _) rfl k) ?_
        refine j_lift (fun _ k => g_goto (pc := 154) 125 dX5_part_154 (by decide) k) ?_
        exact ih (v1 + x6) (v2 + 1) g7
      · refine j_icmp_ne (pc := 141) 148 dX5_part_141 (by decide) (fun h3 => ?_) (fun h3 => ?_)
        · refine j_lift (fun _ k => g_iconst (pc := 148) (v := 0) dX5_part_148 (by decide +kernel) k) ?_
          exact hk5 0 g
        · refine j_lift (fun _ k => g_iconst (pc := 144) (v := 1) dX5_part_144 (by decide +kernel) k) ?_
          refine j_lift (fun _ k => g_goto (pc := 145) 149 dX5_part_145 (by decide) k) ?_
          exact hk5 1 g
def P_X5_part (g : mg_F) : mo := L_X5_part_2  (fun w4 g5 => L_X5_part_25  (fun w18 g19 => L_X5_part_125  (fun w20 w21 g22 => some (w20, g22)) 4000 0 0 g19) 4000 0 g5) 4000 0 g
theorem p_X5_part {l : Launch} {Z : mg_Zt} {g : mg_F} (hb : Z.2.2.1 = true) : ∀ (r : Nat) (g' : mg_F), P_X5_part g = some (r, g') → mg_C l Z mX5_part [rv Z 5 0] g (mp mX5_part r g') := by
  refine mC_of (by decide) rfl (Nat.le_of_ble_eq_true rfl) (List.forall_mem_cons.mpr ⟨rfl, (fun _ h => nomatch h)⟩) (fun K => ?_)
  unfold P_X5_part
  refine j_lift (fun _ k => g_iconst (pc := 0) (v := 0) dX5_part_0 (by decide +kernel) k) ?_
  refine j_lift (fun _ k => g_istore_n (pc := 1) (ls' := [rv Z 5 0, iv 0]) dX5_part_1 (Nat.le_of_ble_eq_true rfl) (Nat.le_of_ble_eq_true rfl) rfl k) ?_
  refine l_X5_part_2 hb  (fun w4 g5 => ?_) 4000 0 g
  refine j_lift (fun _ k => g_iconst (pc := 23) (v := 0) dX5_part_23 (by decide +kernel) k) ?_
  refine j_lift (fun _ k => g_istore_n (pc := 24) (ls' := [rv Z 5 0, iv 0]) dX5_part_24 (Nat.le_of_ble_eq_true rfl) (Nat.le_of_ble_eq_true rfl) rfl k) ?_
  refine l_X5_part_25 hb  (fun w18 g19 => ?_) 4000 0 g5
  refine j_lift (fun _ k => g_iconst (pc := 121) (v := 0) dX5_part_121 (by decide +kernel) k) ?_
  refine j_lift (fun _ k => g_istore_n (pc := 122) (ls' := [rv Z 5 0, iv 0]) dX5_part_122 (Nat.le_of_ble_eq_true rfl) (Nat.le_of_ble_eq_true rfl) rfl k) ?_
  refine j_lift (fun _ k => g_iconst (pc := 123) (v := 0) dX5_part_123 (by decide +kernel) k) ?_
  refine j_lift (fun _ k => g_istore_n (pc := 124) (ls' := [rv Z 5 0, iv 0, iv 0]) dX5_part_124 (Nat.le_of_ble_eq_true rfl) (Nat.le_of_ble_eq_true rfl) rfl k) ?_
  refine l_X5_part_125 hb  (fun w20 w21 g22 => ?_) 4000 0 0 g19
  refine j_lift (fun _ k => g_iload_n (pc := 157) dX5_part_157 rfl k) ?_
  exact j_iret (pc := 158) dX5_part_158 ⟨mg_narI _, Or.inl rfl⟩ rfl

/-- X5_isStation -/
def P_X5_isStation (a : Nat) (g : mg_F) : mo := if sv a < 0 then (some (0, g)) else (if sv a < sv (g 5 0 0) then (some (1, g)) else (some (0, g)))
theorem p_X5_isStation {l : Launch} {Z : mg_Zt} {a : Nat} {g : mg_F} (hb : Z.2.2.1 = true) : ∀ (r : Nat) (g' : mg_F), P_X5_isStation a g = some (r, g') → mg_C l Z mX5_isStation [rv Z 5 0, iv a] g (mp mX5_isStation r g') := by
  refine mC_of (by decide) rfl (Nat.le_of_ble_eq_true rfl) (List.forall_mem_cons.mpr ⟨rfl, (List.forall_mem_cons.mpr ⟨rfl, (fun _ h => nomatch h)⟩)⟩) (fun K => ?_)
  unfold P_X5_isStation
  refine j_lift (fun _ k => g_iload_n (pc := 0) dX5_isStation_0 rfl k) ?_
  refine j_if_lt (pc := 1) 16 dX5_isStation_1 (by decide) (fun h1 => ?_) (fun h1 => ?_)
  · refine j_lift (fun _ k => g_iconst (pc := 16) (v := 0) dX5_isStation_16 (by decide +kernel) k) ?_
    exact j_iret (pc := 17) dX5_isStation_17 ⟨mg_narZ (by decide), Or.inr rfl⟩ rfl
  · refine j_lift (fun _ k => g_iload_n (pc := 4) dX5_isStation_4 rfl k) ?_
    refine j_lift (fun _ k => g_aload_n (pc := 5) dX5_isStation_5 rfl k) ?_
    refine j_lift (fun _ k => fg_X5_isStation_101 (pc := 6) hb dX5_isStation_6 k) ?_
    refine j_icmp_ge (pc := 9) 16 dX5_isStation_9 (by decide) (fun h2 => ?_) (fun h2 => ?_)
    · refine j_lift (fun _ k => g_iconst (pc := 16) (v := 0) dX5_isStation_16 (by decide +kernel) k) ?_
      exact j_iret (pc := 17) dX5_isStation_17 ⟨mg_narZ (by decide), Or.inr rfl⟩ rfl
    · refine j_lift (fun _ k => g_iconst (pc := 12) (v := 1) dX5_isStation_12 (by decide +kernel) k) ?_
      refine j_lift (fun _ k => g_goto (pc := 13) 17 dX5_isStation_13 (by decide) k) ?_
      exact j_iret (pc := 17) dX5_isStation_17 ⟨mg_narZ (by decide), Or.inr rfl⟩ rfl

/-- X5_join2 -/
def P_X5_join2 (a b c : Nat) (g : mg_F) : mo := ck ((24 * a) + b < 576) <| ck (c < 2) <| wr (mg_up g 35 0 ((24 * a) + b) c) fun g3 => ck ((24 * b) + a < 576) <| ck (c < 2) <| wr (mg_up g3 35 0 ((24 * b) + a) c) fun g6 => jn (α := Nat) (fun x10 g11 => wr (mg_up g11 5 0 4 ((g6 5 0 4) + x10)) fun g12 => some (0, g12)) fun kj8 => if sv c = 0 then (kj8 4294967295 g6) else (kj8 1 g6)
theorem p_X5_join2 {l : Launch} {Z : mg_Zt} {a b c : Nat} {g : mg_F} (hb : Z.2.2.1 = true) : ∀ (r : Nat) (g' : mg_F), P_X5_join2 a b c g = some (r, g') → mg_C l Z mX5_join2 [rv Z 5 0, iv a, iv b, iv c] g (mp mX5_join2 r g') := by
  refine mC_of (by decide) rfl (Nat.le_of_ble_eq_true rfl) (List.forall_mem_cons.mpr ⟨rfl, (List.forall_mem_cons.mpr ⟨rfl, (List.forall_mem_cons.mpr ⟨rfl, (List.forall_mem_cons.mpr ⟨rfl, (fun _ h => nomatch h)⟩)⟩)⟩)⟩) (fun K => ?_)
  unfold P_X5_join2
  refine j_lift (fun _ k => g_aload_n (pc := 0) dX5_join2_0 rfl k) ?_
  refine j_lift (fun _ k => fg_X5_join2_7 (pc := 1) hb dX5_join2_1 k) ?_
  refine j_lift (fun _ k => g_bipush (pc := 4) (v := 24) dX5_join2_4 (by decide +kernel) k) ?_
  refine j_lift (fun _ k => g_iload_n (pc := 6) dX5_join2_6 rfl k) ?_
  refine j_lift (fun _ k => g_imul (pc := 7) (a := 24) (b := a) dX5_join2_7 k) ?_
  refine j_lift (fun _ k => g_iload_n (pc := 8) dX5_join2_8 rfl k) ?_
  refine j_lift (fun _ k => g_iadd (pc := 9) (a := 24 * a) (b := b) dX5_join2_9 k) ?_
  refine j_lift (fun _ k => g_iload_n (pc := 10) dX5_join2_10 rfl k) ?_
  refine j_ck (fun c1 => ?_)
  refine j_ck (fun c2 => ?_)
  refine j_w (fun _ k => g_bastore (pc := 11) (k := 35) (i := 0) (n := 576) (by rw [hb]; decide) (fun _ => rfl) (by decide) c1 c2 dX5_join2_11 k) (fun g3 => ?_)
  refine j_lift (fun _ k => g_aload_n (pc := 12) dX5_join2_12 rfl k) ?_
  refine j_lift (fun _ k => fg_X5_join2_7 (pc := 13) hb dX5_join2_13 k) ?_
  refine j_lift (fun _ k => g_bipush (pc := 16) (v := 24) dX5_join2_16 (by decide +kernel) k) ?_
  refine j_lift (fun _ k => g_iload_n (pc := 18) dX5_join2_18 rfl k) ?_
  refine j_lift (fun _ k => g_imul (pc := 19) (a := 24) (b := b) dX5_join2_19 k) ?_
  refine j_lift (fun _ k => g_iload_n (pc := 20) dX5_join2_20 rfl k) ?_
  refine j_lift (fun _ k => g_iadd (pc := 21) (a := 24 * b) (b := a) dX5_join2_21 k) ?_
  refine j_lift (fun _ k => g_iload_n (pc := 22) dX5_join2_22 rfl k) ?_
  refine j_ck (fun c4 => ?_)
  refine j_ck (fun c5 => ?_)
  refine j_w (fun _ k => g_bastore (pc := 23) (k := 35) (i := 0) (n := 576) (by rw [hb]; decide) (fun _ => rfl) (by decide) c4 c5 dX5_join2_23 k) (fun g6 => ?_)
  refine j_lift (fun _ k => g_aload_n (pc := 24) dX5_join2_24 rfl k) ?_
  refine j_lift (fun _ k => g_dup (pc := 25) dX5_join2_25 rfl k) ?_
  refine j_lift (fun _ k => fg_X5_join2_113 (pc := 26) hb dX5_join2_26 k) ?_
  refine j_lift (fun _ k => g_iload_n (pc := 29) dX5_join2_29 rfl k) ?_
  refine j_jn (α := Nat) 38 (fun x10 => [rv Z 5 0, iv a, iv b, iv c]) (fun x10 => [iv x10, iv (g6 5 0 4), rv Z 5 0]) (fun x10 g11 => ?_) (fun kj8 hk9 => ?_)
  · refine j_lift (fun _ k => g_iadd (pc := 38) (a := g6 5 0 4) (b := x10) dX5_join2_38 k) ?_
    refine j_w (fun _ k => fp_X5_join2_113 (pc := 39) hb dX5_join2_39 k) (fun g12 => ?_)
    exact j_ret (pc := 42) dX5_join2_42 trivial rfl
  · refine j_if_eq (pc := 30) 37 dX5_join2_30 (by decide) (fun h7 => ?_) (fun h7 => ?_)
    · refine j_lift (fun _ k => g_iconst (pc := 37) (v := 4294967295) dX5_join2_37 (by decide +kernel) k) ?_
      exact hk9 4294967295 g6
    · refine j_lift (fun _ k => g_iconst (pc := 33) (v := 1) dX5_join2_33 (by decide +kernel) k) ?_
      refine j_lift (fun _ k => g_goto (pc := 34) 38 dX5_join2_34 (by decide) k) ?_
      exact hk9 1 g6

/-- X5_link -/
def P_X5_link (a b : Nat) (g : mg_F) : mo := bd (P_X5_part g) fun r1 g2 => if sv (g2 5 0 1) = 0 then (bd (P_X5_isStation a g2) fun r4 g5 => if sv r4 = 0 then (some (4294967295, g5)) else (bd (P_X5_isStation b g5) fun r7 g8 => if sv r7 = 0 then (some (4294967295, g8)) else (ck (a < 24) <| ck (b < 24) <| if sv (g8 61 0 a) = sv (g8 61 0 b) then (some (4294967295, g8)) else (bd (P_X5_join2 a b 1 g8) fun _ g14 => some (g14 5 0 4, g14))))) else (some (4294967295, g2))
theorem p_X5_link {l : Launch} {Z : mg_Zt} {a b : Nat} {g : mg_F} (hb : Z.2.2.1 = true) : ∀ (r : Nat) (g' : mg_F), P_X5_link a b g = some (r, g') → mg_C l Z mX5_link [rv Z 5 0, iv a, iv b] g (mp mX5_link r g') := by
  refine mC_of (by decide) rfl (Nat.le_of_ble_eq_true rfl) (List.forall_mem_cons.mpr ⟨rfl, (List.forall_mem_cons.mpr ⟨rfl, (List.forall_mem_cons.mpr ⟨rfl, (fun _ h => nomatch h)⟩)⟩)⟩) (fun K => ?_)
  unfold P_X5_link
  refine j_lift (fun _ k => g_aload_n (pc := 0) dX5_link_0 rfl k) ?_
  refine j_callVi (pc := 1) (Y' := mX5_part) (As := []) (st := []) (k := 5) (i := 0) (p_X5_part hb) gX5_link_X5_part rfl (by rw [hb]; decide) rfl rfl (na := 0) rfl (by decide +kernel) (by decide) (by decide) (Nat.le_of_ble_eq_true rfl) dX5_link_1 (fun r1 g2 => ?_)
  refine j_lift (fun _ k => g_istore_n (pc := 4) (ls' := [rv Z 5 0, iv a, iv b, iv r1]) dX5_link_4 (Nat.le_of_ble_eq_true rfl) (Nat.le_of_ble_eq_true rfl) rfl k) ?_
  refine j_lift (fun _ k => g_aload_n (pc := 5) dX5_link_5 rfl k) ?_
  refine j_lift (fun _ k => fg_X5_link_105 (pc := 6) hb dX5_link_6 k) ?_
  refine j_if_ne (pc := 9) 43 dX5_link_9 (by decide) (fun h3 => ?_) (fun h3 => ?_)
  · refine j_lift (fun _ k => g_iconst (pc := 43) (v := 4294967295) dX5_link_43 (by decide +kernel) k) ?_
    exact j_iret (pc := 44) dX5_link_44 ⟨mg_narI _, Or.inl rfl⟩ rfl
  · refine j_lift (fun _ k => g_aload_n (pc := 12) dX5_link_12 rfl k) ?_
    refine j_lift (fun _ k => g_iload_n (pc := 13) dX5_link_13 rfl k) ?_
    refine j_callVi (pc := 14) (Y' := mX5_isStation) (As := [iv a]) (st := []) (k := 5) (i := 0) (p_X5_isStation hb) gX5_link_X5_isStation rfl (by rw [hb]; decide) rfl rfl (na := 1) rfl (by decide +kernel) (by decide) (by decide) (Nat.le_of_ble_eq_true rfl) dX5_link_14 (fun r4 g5 => ?_)
    refine j_if_eq (pc := 17) 43 dX5_link_17 (by decide) (fun h6 => ?_) (fun h6 => ?_)
    · refine j_lift (fun _ k => g_iconst (pc := 43) (v := 4294967295) dX5_link_43 (by decide +kernel) k) ?_
      exact j_iret (pc := 44) dX5_link_44 ⟨mg_narI _, Or.inl rfl⟩ rfl
    · refine j_lift (fun _ k => g_aload_n (pc := 20) dX5_link_20 rfl k) ?_
      refine j_lift (fun _ k => g_iload_n (pc := 21) dX5_link_21 rfl k) ?_
      refine j_callVi (pc := 22) (Y' := mX5_isStation) (As := [iv b]) (st := []) (k := 5) (i := 0) (p_X5_isStation hb) gX5_link_X5_isStation rfl (by rw [hb]; decide) rfl rfl (na := 1) rfl (by decide +kernel) (by decide) (by decide) (Nat.le_of_ble_eq_true rfl) dX5_link_22 (fun r7 g8 => ?_)
      refine j_if_eq (pc := 25) 43 dX5_link_25 (by decide) (fun h9 => ?_) (fun h9 => ?_)
      · refine j_lift (fun _ k => g_iconst (pc := 43) (v := 4294967295) dX5_link_43 (by decide +kernel) k) ?_
        exact j_iret (pc := 44) dX5_link_44 ⟨mg_narI _, Or.inl rfl⟩ rfl
      · refine j_lift (fun _ k => g_aload_n (pc := 28) dX5_link_28 rfl k) ?_
        refine j_lift (fun _ k => fg_X5_link_80 (pc := 29) hb dX5_link_29 k) ?_
        refine j_lift (fun _ k => g_iload_n (pc := 32) dX5_link_32 rfl k) ?_
        refine j_ck (fun c10 => ?_)
        refine j_lift (fun _ k => g_iaload (pc := 33) (k := 61) (i := 0) (n := 24) (by rw [hb]; decide) rfl (by decide) c10 dX5_link_33 k) ?_
        refine j_lift (fun _ k => g_aload_n (pc := 34) dX5_link_34 rfl k) ?_
        refine j_lift (fun _ k => fg_X5_link_80 (pc := 35) hb dX5_link_35 k) ?_
        refine j_lift (fun _ k => g_iload_n (pc := 38) dX5_link_38 rfl k) ?_
        refine j_ck (fun c11 => ?_)
        refine j_lift (fun _ k => g_iaload (pc := 39) (k := 61) (i := 0) (n := 24) (by rw [hb]; decide) rfl (by decide) c11 dX5_link_39 k) ?_
        refine j_icmp_ne (pc := 40) 45 dX5_link_40 (by decide) (fun h12 => ?_) (fun h12 => ?_)
        · refine j_lift (fun _ k => g_aload_n (pc := 45) dX5_link_45 rfl k) ?_
          refine j_lift (fun _ k => g_iload_n (pc := 46) dX5_link_46 rfl k) ?_
          refine j_lift (fun _ k => g_iload_n (pc := 47) dX5_link_47 rfl k) ?_
          refine j_lift (fun _ k => g_iconst (pc := 48) (v := 1) dX5_link_48 (by decide +kernel) k) ?_
          refine j_callVv (pc := 49) (Y' := mX5_join2) (As := [iv a, iv b, iv 1]) (st := []) (k := 5) (i := 0) (p_X5_join2 hb) gX5_link_X5_join2 rfl (by rw [hb]; decide) rfl rfl (na := 3) rfl (by decide +kernel) (by decide) (by decide) (Nat.le_of_ble_eq_true rfl) dX5_link_49 (fun _ g14 => ?_)
          refine j_lift (fun _ k => g_aload_n (pc := 52) dX5_link_52 rfl k) ?_
          refine j_lift (fun _ k => fg_X5_link_113 (pc := 53) hb dX5_link_53 k) ?_
          exact j_iret (pc := 56) dX5_link_56 ⟨mg_narI _, Or.inl rfl⟩ rfl
        · refine j_lift (fun _ k => g_iconst (pc := 43) (v := 4294967295) dX5_link_43 (by decide +kernel) k) ?_
          exact j_iret (pc := 44) dX5_link_44 ⟨mg_narI _, Or.inl rfl⟩ rfl

/-- X5_open -/
def L_X5_open_77 (a1 a2 a3 : Nat) (k : Nat → mg_F → mo) : Nat → Nat → mg_F → mo
  | 0, _, _ => none
  | n + 1, v4, g => if sv v4 < sv 576 then (ck (v4 < 576) <| wr (mg_up g 49 0 v4 0) fun g3 => ck (v4 < 576) <| wr (mg_up g3 50 0 v4 0) fun g5 => L_X5_open_77 a1 a2 a3 k n (v4 + 1) g5) else (k v4 g)
theorem l_X5_open_77 {K : mg_Kt} {Z : mg_Zt} (hb : Z.2.2.1 = true) {a1 a2 a3 : Nat}  {k : Nat → mg_F → mo} (hk : ∀ (v4 : Nat) (g : mg_F), mj K Z mX5_open (k v4 g) 107 [rv Z 5 0, iv a1, iv a2, iv a3, iv v4] [] g) : ∀ (n : Nat) (v4 : Nat) (g : mg_F), mj K Z mX5_open (L_X5_open_77 a1 a2 a3 k n v4 g) 77 [rv Z 5 0, iv a1, iv a2, iv a3, iv v4] [] g := by
  intro n
  induction n with
  | zero => intro _ _; exact j_none
  | succ n ih =>
    intro v4 g
    unfold L_X5_open_77
    refine j_lift (fun _ k => g_iload (pc := 77) dX5_open_77 rfl k) ?_
    refine j_lift (fun _ k => g_sipush (pc := 79) (v := 576) dX5_open_79 (by decide +kernel) k) ?_
    refine j_icmp_ge (pc := 82) 107 dX5_open_82 (by decide) (fun h1 => ?_) (fun h1 => ?_)
    · exact hk v4 g
    · refine j_lift (fun _ k => g_aload_n (pc := 85) dX5_open_85 rfl k) ?_
      refine j_lift (fun _ k => fg_X5_open_50 (pc := 86) hb dX5_open_86 k) ?_
      refine j_lift (fun _ k => g_iload (pc := 89) dX5_open_89 rfl k) ?_
      refine j_lift (fun _ k => g_iconst (pc := 91) (v := 0) dX5_open_91 (by decide +kernel) k) ?_
      refine j_ck (fun c2 => ?_)
      refine j_w (fun _ k => g_iastore (pc := 92) (k := 49) (i := 0) (n := 576) (by rw [hb]; decide) (fun _ => rfl) (by decide) c2 dX5_open_92 k) (fun g3 => ?_)
      refine j_lift (fun _ k => g_aload_n (pc := 93) dX5_open_93 rfl k) ?_
      refine j_lift (fun _ k => fg_X5_open_53 (pc := 94) hb dX5_open_94 k) ?_
      refine j_lift (fun _ k => g_iload (pc := 97) dX5_open_97 rfl k) ?_
      refine j_lift (fun _ k => g_iconst (pc := 99) (v := 0) dX5_open_99 (by decide +kernel) k) ?_
      refine j_ck (fun c4 => ?_)
      refine j_w (fun _ k => g_iastore (pc := 100) (k := 50) (i := 0) (n := 576) (by rw [hb]; decide) (fun _ => rfl) (by decide) c4 dX5_open_100 k) (fun g5 => ?_)
      refine j_lift (fun _ k => g_iinc (pc := 101) (v := v4 + 1) (ls' := [rv Z 5 0, iv a1, iv a2, iv a3, iv (v4 + 1)]) dX5_open_101 (Nat.le_of_ble_eq_true rfl) rfl (mg_inc _) rfl k) ?_
      refine j_lift (fun _ k => g_goto (pc := 104) 77 dX5_open_104 (by decide) k) ?_
      exact ih (v4 + 1) g5
def L_X5_open_110 (a1 a2 a3 : Nat) (k : Nat → mg_F → mo) : Nat → Nat → mg_F → mo
  | 0, _, _ => none
  | n + 1, v4, g => if sv v4 < sv (g 5 0 0) then (jn (α := Nat) (fun x5 g6 => ck (v4 < 24) <| wr (mg_up g6 36 0 v4 x5) fun g8 => wr (mg_up g8 37 0 v4 0) fun g9 => wr (mg_up g9 38 0 v4 0) fun g10 => wr (mg_up g10 39 0 v4 0) fun g11 => wr (mg_up g11 40 0 v4 0) fun g12 => wr (mg_up g12 41 0 v4 0) fun g13 => wr (mg_up g13 42 0 v4 0) fun g14 => wr (mg_up g14 43 0 v4 0) fun g15 => wr (mg_up g15 44 0 v4 0) fun g16 => wr (mg_up g16 46 0 v4 0) fun g17 => L_X5_open_110 a1 a2 a3 k n (v4 + 1) g17) fun kj3 => if sv v4 = sv a1 then (kj3 v4 g) else (kj3 4294967294 g)) else (k v4 g)
theorem l_X5_open_110 {K : mg_Kt} {Z : mg_Zt} (hb : Z.2.2.1 = true) {a1 a2 a3 : Nat}  {k : Nat → mg_F → mo} (hk : ∀ (v4 : Nat) (g : mg_F), mj K Z mX5_open (k v4 g) 217 [rv Z 5 0, iv a1, iv a2, iv a3, iv v4] [] g) : ∀ (n : Nat) (v4 : Nat) (g : mg_F), mj K Z mX5_open (L_X5_open_110 a1 a2 a3 k n v4 g) 110 [rv Z 5 0, iv a1, iv a2, iv a3, iv v4] [] g := by
  intro n
  induction n with
  | zero => intro _ _; exact j_none
  | succ n ih =>
    intro v4 g
    unfold L_X5_open_110
    refine j_lift (fun _ k => g_iload (pc := 110) dX5_open_110 rfl k) ?_
    refine j_lift (fun _ k => g_aload_n (pc := 112) dX5_open_112 rfl k) ?_
    refine j_lift (fun _ k => fg_X5_open_101 (pc := 113) hb dX5_open_113 k) ?_
    refine j_icmp_ge (pc := 116) 217 dX5_open_116 (by decide) (fun h1 => ?_) (fun h1 => ?_)
    · exact hk v4 g
    · refine j_lift (fun _ k => g_aload_n (pc := 119) dX5_open_119 rfl k) ?_
      refine j_lift (fun _ k => fg_X5_open_13 (pc := 120) hb dX5_open_120 k) ?_
      refine j_lift (fun _ k => g_iload (pc := 123) dX5_open_123 rfl k) ?_
      refine j_lift (fun _ k => g_iload (pc := 125) dX5_open_125 rfl k) ?_
      refine j_lift (fun _ k => g_iload_n (pc := 127) dX5_open_127 rfl k) ?_
      refine j_jn (α := Nat) 138 (fun x5 => [rv Z 5 0, iv a1, iv a2, iv a3, iv v4]) (fun x5 => [iv x5, iv v4, rv Z 36 0]) (fun x5 g6 => ?_) (fun kj3 hk4 => ?_)
      · refine j_ck (fun c7 => ?_)
        refine j_w (fun _ k => g_iastore (pc := 138) (k := 36) (i := 0) (n := 24) (by rw [hb]; decide) (fun _ => rfl) (by decide) c7 dX5_open_138 k) (fun g8 => ?_)
        refine j_lift (fun _ k => g_aload_n (pc := 139) dX5_open_139 rfl k) ?_
        refine j_lift (fun _ k => fg_X5_open_17 (pc := 140) hb dX5_open_140 k) ?_
        refine j_lift (fun _ k => g_iload (pc := 143) dX5_open_143 rfl k) ?_
        refine j_lift (fun _ k => g_iconst (pc := 145) (v := 0) dX5_open_145 (by decide +kernel) k) ?_
        refine j_w (fun _ k => g_bastore (pc := 146) (k := 37) (i := 0) (n := 24) (by rw [hb]; decide) (fun _ => rfl) (by decide) c7 (by decide) dX5_open_146 k) (fun g9 => ?_)
        refine j_lift (fun _ k => g_aload_n (pc := 147) dX5_open_147 rfl k) ?_
        refine j_lift (fun _ k => fg_X5_open_20 (pc := 148) hb dX5_open_148 k) ?_
        refine j_lift (fun _ k => g_iload (pc := 151) dX5_open_151 rfl k) ?_
        refine j_lift (fun _ k => g_iconst (pc := 153) (v := 0) dX5_open_153 (by decide +kernel) k) ?_
        refine j_w (fun _ k => g_bastore (pc := 154) (k := 38) (i := 0) (n := 24) (by rw [hb]; decide) (fun _ => rfl) (by decide) c7 (by decide) dX5_open_154 k) (fun g10 => ?_)
        refine j_lift (fun _ k => g_aload_n (pc := 155) dX5_open_155 rfl k) ?_
        refine j_lift (fun _ k => fg_X5_open_23 (pc := 156) hb dX5_open_156 k) ?_
        refine j_lift (fun _ k => g_iload (pc := 159) dX5_open_159 rfl k) ?_
        refine j_lift (fun _ k => g_iconst (pc := 161) (v := 0) dX5_open_161 (by decide +kernel) k) ?_
        refine j_w (fun _ k => g_bastore (pc := 162) (k := 39) (i := 0) (n := 24) (by rw [hb]; decide) (fun _ => rfl) (by decide) c7 (by decide) dX5_open_162 k) (fun g11 => ?_)
        refine j_lift (fun _ k => g_aload_n (pc := 163) dX5_open_163 rfl k) ?_
        refine j_lift (fun _ k => fg_X5_open_26 (pc := 164) hb dX5_open_164 k) ?_
        refine j_lift (fun _ k => g_iload (pc := 167) dX5_open_167 rfl k) ?_
        refine j_lift (fun _ k => g_iconst (pc := 169) (v := 0) dX5_open_169 (by decide +kernel) k) ?_
        refine j_w (fun _ k => g_iastore (pc := 170) (k := 40) (i := 0) (n := 24) (by rw [hb]; decide) (fun _ => rfl) (by decide) c7 dX5_open_170 k) (fun g12 => ?_)
        refine j_lift (fun _ k => g_aload_n (pc := 171) dX5_open_171 rfl k) ?_
        refine j_lift (fun _ k => fg_X5_open_29 (pc := 172) hb dX5_open_172 k) ?_
        refine j_lift (fun _ k => g_iload (pc := 175) dX5_open_175 rfl k) ?_
        refine j_lift (fun _ k => g_iconst (pc := 177) (v := 0) dX5_open_177 (by decide +kernel) k) ?_
        refine j_w (fun _ k => g_iastore (pc := 178) (k := 41) (i := 0) (n := 24) (by rw [hb]; decide) (fun _ => rfl) (by decide) c7 dX5_open_178 k) (fun g13 => ?_)
        refine j_lift (fun _ k => g_aload_n (pc := 179) dX5_open_179 rfl k) ?_
        refine j_lift (fun _ k => fg_X5_open_32 (pc := 180) hb dX5_open_180 k) ?_
        refine j_lift (fun _ k => g_iload (pc := 183) dX5_open_183 rfl k) ?_
        refine j_lift (fun _ k => g_iconst (pc := 185) (v := 0) dX5_open_185 (by decide +kernel) k) ?_
        refine j_w (fun _ k => g_iastore (pc := 186) (k := 42) (i := 0) (n := 24) (by rw [hb]; decide) (fun _ => rfl) (by decide) c7 dX5_open_186 k) (fun g14 => ?_)
        refine j_lift (fun _ k => g_aload_n (pc := 187) dX5_open_187 rfl k) ?_
        refine j_lift (fun _ k => fg_X5_open_35 (pc := 188) hb dX5_open_188 k) ?_
        refine j_lift (fun _ k => g_iload (pc := 191) dX5_open_191 rfl k) ?_
        refine j_lift (fun _ k => g_iconst (pc := 193) (v := 0) dX5_open_193 (by decide +kernel) k) ?_
        refine j_w (fun _ k => g_iastore (pc := 194) (k := 43) (i := 0) (n := 24) (by rw [hb]; decide) (fun _ => rfl) (by decide) c7 dX5_open_194 k) (fun g15 => ?_)
        refine j_lift (fun _ k => g_aload_n (pc := 195) dX5_open_195 rfl k) ?_
        refine j_lift (fun _ k => fg_X5_open_38 (pc := 196) hb dX5_open_196 k) ?_
        refine j_lift (fun _ k => g_iload (pc := 199) dX5_open_199 rfl k) ?_
        refine j_lift (fun _ k => g_iconst (pc := 201) (v := 0) dX5_open_201 (by decide +kernel) k) ?_
        refine j_w (fun _ k => g_iastore (pc := 202) (k := 44) (i := 0) (n := 24) (by rw [hb]; decide) (fun _ => rfl) (by decide) c7 dX5_open_202 k) (fun g16 => ?_)
        refine j_lift (fun _ k => g_aload_n (pc := 203) dX5_open_203 rfl k) ?_
        refine j_lift (fun _ k => fg_X5_open_41 (pc := 204) hb dX5_open_204 k) ?_
        refine j_lift (fun _ k => g_iload (pc := 207) dX5_open_207 rfl k) ?_
        refine j_lift (fun _ k => g_iconst (pc := 209) (v := 0) dX5_open_209 (by decide +kernel) k) ?_
        refine j_w (fun _ k => g_iastore (pc := 210) (k := 46) (i := 0) (n := 24) (by rw [hb]; decide) (fun _ => rfl) (by decide) c7 dX5_open_210 k) (fun g17 => ?_)
        refine j_lift (fun _ k => g_iinc (pc := 211) (v := v4 + 1) (ls' := [rv Z 5 0, iv a1, iv a2, iv a3, iv (v4 + 1)]) dX5_open_211 (Nat.le_of_ble_eq_true rfl) rfl (mg_inc _) rfl k) ?_
        refine j_lift (fun _ k => g_goto (pc := 214) 110 dX5_open_214 (by decide) k) ?_
        exact ih (v4 + 1) g17
      · refine j_icmp_ne (pc := 128) 136 dX5_open_128 (by decide) (fun h2 => ?_) (fun h2 => ?_)
        · refine j_lift (fun _ k => g_bipush (pc := 136) (v := 4294967294) dX5_open_136 (by decide +kernel) k) ?_
          exact hk4 4294967294 g
        · refine j_lift (fun _ k => g_iload (pc := 131) dX5_open_131 rfl k) ?_
          refine j_lift (fun _ k => g_goto (pc := 133) 138 dX5_open_133 (by decide) k) ?_
          exact hk4 v4 g
def L_X5_open_244 (a1 a2 a3 a4 a5 : Nat) (k : Nat → mg_F → mo) : Nat → Nat → mg_F → mo
  | 0, _, _ => none
  | n + 1, v6, g => if sv v6 < sv (g 5 0 0) then (ck ((24 * a5) + v6 < 576) <| jn (α := Nat) (fun x6 g7 => ck (a5 < 24) <| wr (mg_up g7 36 0 a5 x6) fun g9 => L_X5_open_244 a1 a2 a3 a4 a5 k n (v6 + 1) g9) fun kj4 => if sv (g 35 0 ((24 * a5) + v6)) = 0 then (ck (a5 < 24) <| kj4 (g 36 0 a5) g) else (ck (a5 < 24) <| if sv (g 36 0 a5) = sv 4294967294 then (ck (v6 < 24) <| if sv (g 36 0 v6) = sv 4294967294 then (kj4 (g 36 0 a5) g) else (kj4 v6 g)) else (kj4 (g 36 0 a5) g))) else (k v6 g)
theorem l_X5_open_244 {K : mg_Kt} {Z : mg_Zt} (hb : Z.2.2.1 = true) {a1 a2 a3 a4 a5 : Nat}  {k : Nat → mg_F → mo} (hk : ∀ (v6 : Nat) (g : mg_F), mj K Z mX5_open (k v6 g) 318 [rv Z 5 0, iv a1, iv a2, iv a3, iv a4, iv a5, iv v6] [] g) : ∀ (n : Nat) (v6 : Nat) (g : mg_F), mj K Z mX5_open (L_X5_open_244 a1 a2 a3 a4 a5 k n v6 g) 244 [rv Z 5 0, iv a1, iv a2, iv a3, iv a4, iv a5, iv v6] [] g := by
  intro n
  induction n with
  | zero => intro _ _; exact j_none
  | succ n ih =>
    intro v6 g
    unfold L_X5_open_244
    refine j_lift (fun _ k => g_iload (pc := 244) dX5_open_244 rfl k) ?_
    refine j_lift (fun _ k => g_aload_n (pc := 246) dX5_open_246 rfl k) ?_
    refine j_lift (fun _ k => fg_X5_open_101 (pc := 247) hb dX5_open_247 k) ?_
    refine j_icmp_ge (pc := 250) 318 dX5_open_250 (by decide) (fun h1 => ?_) (fun h1 => ?_)
    · exact hk v6 g
    · refine j_lift (fun _ k => g_aload_n (pc := 253) dX5_open_253 rfl k) ?_
      refine j_lift (fun _ k => fg_X5_open_13 (pc := 254) hb dX5_open_254 k) ?_
      refine j_lift (fun _ k => g_iload (pc := 257) dX5_open_257 rfl k) ?_
      refine j_lift (fun _ k => g_aload_n (pc := 259) dX5_open_259 rfl k) ?_
      refine j_lift (fun _ k => fg_X5_open_7 (pc := 260) hb dX5_open_260 k) ?_
      refine j_lift (fun _ k => g_bipush (pc := 263) (v := 24) dX5_open_263 (by decide +kernel) k) ?_
      refine j_lift (fun _ k => g_iload (pc := 265) dX5_open_265 rfl k) ?_
      refine j_lift (fun _ k => g_imul (pc := 267) (a := 24) (b := a5) dX5_open_267 k) ?_
      refine j_lift (fun _ k => g_iload (pc := 268) dX5_open_268 rfl k) ?_
      refine j_lift (fun _ k => g_iadd (pc := 270) (a := 24 * a5) (b := v6) dX5_open_270 k) ?_
      refine j_ck (fun c2 => ?_)
      refine j_lift (fun _ k => g_baload (pc := 271) (k := 35) (i := 0) (n := 576) (by rw [hb]; decide) rfl (by decide) c2 dX5_open_271 k) ?_
      refine j_jn (α := Nat) 311 (fun x6 => [rv Z 5 0, iv a1, iv a2, iv a3, iv a4, iv a5, iv v6]) (fun x6 => [iv x6, iv a5, rv Z 36 0]) (fun x6 g7 => ?_) (fun kj4 hk5 => ?_)
      · refine j_ck (fun c8 => ?_)
        refine j_w (fun _ k => g_iastore (pc := 311) (k := 36) (i := 0) (n := 24) (by rw [hb]; decide) (fun _ => rfl) (by decide) c8 dX5_open_311 k) (fun g9 => ?_)
        refine j_lift (fun _ k => g_iinc (pc := 312) (v := v6 + 1) (ls' := [rv Z 5 0, iv a1, iv a2, iv a3, iv a4, iv a5, iv (v6 + 1)]) dX5_open_312 (Nat.le_of_ble_eq_true rfl) rfl (mg_inc _) rfl k) ?_
        refine j_lift (fun _ k => g_goto (pc := 315) 244 dX5_open_315 (by decide) k) ?_
        exact ih (v6 + 1) g9
      · refine j_if_eq (pc := 272) 304 dX5_open_272 (by decide) (fun h3 => ?_) (fun h3 => ?_)
        · refine j_lift (fun _ k => g_aload_n (pc := 304) dX5_open_304 rfl k) ?_
          refine j_lift (fun _ k => fg_X5_open_13 (pc := 305) hb dX5_open_305 k) ?_
          refine j_lift (fun _ k => g_iload (pc := 308) dX5_open_308 rfl k) ?_
          refine j_ck (fun c10 => ?_)
          refine j_lift (fun _ k => g_iaload (pc := 310) (k := 36) (i := 0) (n := 24) (by rw [hb]; decide) rfl (by decide) c10 dX5_open_310 k) ?_
          exact hk5 (g 36 0 a5) g
        · refine j_lift (fun _ k => g_aload_n (pc := 275) dX5_open_275 rfl k) ?_
          refine j_lift (fun _ k => fg_X5_open_13 (pc := 276) hb dX5_open_276 k) ?_
          refine j_lift (fun _ k => g_iload (pc := 279) dX5_open_279 rfl k) ?_
          refine j_ck (fun c11 => ?_)
          refine j_lift (fun _ k => g_iaload (pc := 281) (k := 36) (i := 0) (n := 24) (by rw [hb]; decide) rfl (by decide) c11 dX5_open_281 k) ?_
          refine j_lift (fun _ k => g_bipush (pc := 282) (v := 4294967294) dX5_open_282 (by decide +kernel) k) ?_
          refine j_icmp_ne (pc := 284) 304 dX5_open_284 (by decide) (fun h12 => ?_) (fun h12 => ?_)
          · refine j_lift (fun _ k => g_aload_n (pc := 304) dX5_open_304 rfl k) ?_
            refine j_lift (fun _ k => fg_X5_open_13 (pc := 305) hb dX5_open_305 k) ?_
            refine j_lift (fun _ k => g_iload (pc := 308) dX5_open_308 rfl k) ?_
            refine j_lift (fun _ k => g_iaload (pc := 310) (k := 36) (i := 0) (n := 24) (by rw [hb]; decide) rfl (by decide) c11 dX5_open_310 k) ?_
            exact hk5 (g 36 0 a5) g
          · refine j_lift (fun _ k => g_aload_n (pc := 287) dX5_open_287 rfl k) ?_
            refine j_lift (fun _ k => fg_X5_open_13 (pc := 288) hb dX5_open_288 k) ?_
            refine j_lift (fun _ k => g_iload (pc := 291) dX5_open_291 rfl k) ?_
            refine j_ck (fun c13 => ?_)
            refine j_lift (fun _ k => g_iaload (pc := 293) (k := 36) (i := 0) (n := 24) (by rw [hb]; decide) rfl (by decide) c13 dX5_open_293 k) ?_
            refine j_lift (fun _ k => g_bipush (pc := 294) (v := 4294967294) dX5_open_294 (by decide +kernel) k) ?_
            refine j_icmp_eq (pc := 296) 304 dX5_open_296 (by decide) (fun h14 => ?_) (fun h14 => ?_)
            · refine j_lift (fun _ k => g_aload_n (pc := 304) dX5_open_304 rfl k) ?_
              refine j_lift (fun _ k => fg_X5_open_13 (pc := 305) hb dX5_open_305 k) ?_
              refine j_lift (fun _ k => g_iload (pc := 308) dX5_open_308 rfl k) ?_
              refine j_lift (fun _ k => g_iaload (pc := 310) (k := 36) (i := 0) (n := 24) (by rw [hb]; decide) rfl (by decide) c11 dX5_open_310 k) ?_
              exact hk5 (g 36 0 a5) g
            · refine j_lift (fun _ k => g_iload (pc := 299) dX5_open_299 rfl k) ?_
              refine j_lift (fun _ k => g_goto (pc := 301) 311 dX5_open_301 (by decide) k) ?_
              exact hk5 v6 g
def L_X5_open_232 (a1 a2 a3 a4 : Nat) (k : Nat → mg_F → mo) : Nat → Nat → mg_F → mo
  | 0, _, _ => none
  | n + 1, v5, g => if sv v5 < sv (g 5 0 0) then (L_X5_open_244 a1 a2 a3 a4 v5 (fun w15 g16 => L_X5_open_232 a1 a2 a3 a4 k n (v5 + 1) g16) 4000 0 g) else (k v5 g)
theorem l_X5_open_232 {K : mg_Kt} {Z : mg_Zt} (hb : Z.2.2.1 = true) {a1 a2 a3 a4 : Nat}  {k : Nat → mg_F → mo} (hk : ∀ (v5 : Nat) (g : mg_F), mj K Z mX5_open (k v5 g) 324 [rv Z 5 0, iv a1, iv a2, iv a3, iv a4, iv v5] [] g) : ∀ (n : Nat) (v5 : Nat) (g : mg_F), mj K Z mX5_open (L_X5_open_232 a1 a2 a3 a4 k n v5 g) 232 [rv Z 5 0, iv a1, iv a2, iv a3, iv a4, iv v5] [] g := by
  intro n
  induction n with
  | zero => intro _ _; exact j_none
  | succ n ih =>
    intro v5 g
    unfold L_X5_open_232
    refine j_lift (fun _ k => g_iload (pc := 232) dX5_open_232 rfl k) ?_
    refine j_lift (fun _ k => g_aload_n (pc := 234) dX5_open_234 rfl k) ?_
    refine j_lift (fun _ k => fg_X5_open_101 (pc := 235) hb dX5_open_235 k) ?_
    refine j_icmp_ge (pc := 238) 324 dX5_open_238 (by decide) (fun h1 => ?_) (fun h1 => ?_)
    · exact hk v5 g
    · refine j_lift (fun _ k => g_iconst (pc := 241) (v := 0) dX5_open_241 (by decide +kernel) k) ?_
      refine j_lift (fun _ k => g_istore (pc := 242) (ls' := [rv Z 5 0, iv a1, iv a2, iv a3, iv a4, iv v5, iv 0]) dX5_open_242 (Nat.le_of_ble_eq_true rfl) (Nat.le_of_ble_eq_true rfl) rfl k) ?_
      refine l_X5_open_244 hb  (fun w15 g16 => ?_) 4000 0 g
      refine j_lift (fun _ k => g_iinc (pc := 318) (v := v5 + 1) (ls' := [rv Z 5 0, iv a1, iv a2, iv a3, iv a4, iv (v5 + 1), iv w15]) dX5_open_318 (Nat.le_of_ble_eq_true rfl) rfl (mg_inc _) rfl k) ?_
      refine j_lift (fun _ k => g_goto (pc := 321) 232 dX5_open_321 (by decide) k) ?_
      refine j_trunc (ls := [rv Z 5 0, iv a1, iv a2, iv a3, iv a4, iv (v5 + 1)]) [iv w15] ?_
      exact ih (v5 + 1) g16
def L_X5_open_220 (a1 a2 a3 : Nat) (k : Nat → mg_F → mo) : Nat → Nat → mg_F → mo
  | 0, _, _ => none
  | n + 1, v4, g => if sv v4 < sv (g 5 0 0) then (L_X5_open_232 a1 a2 a3 v4 (fun w17 g18 => L_X5_open_220 a1 a2 a3 k n (v4 + 1) g18) 4000 0 g) else (k v4 g)
theorem l_X5_open_220 {K : mg_Kt} {Z : mg_Zt} (hb : Z.2.2.1 = true) {a1 a2 a3 : Nat}  {k : Nat → mg_F → mo} (hk : ∀ (v4 : Nat) (g : mg_F), mj K Z mX5_open (k v4 g) 330 [rv Z 5 0, iv a1, iv a2, iv a3, iv v4] [] g) : ∀ (n : Nat) (v4 : Nat) (g : mg_F), mj K Z mX5_open (L_X5_open_220 a1 a2 a3 k n v4 g) 220 [rv Z 5 0, iv a1, iv a2, iv a3, iv v4] [] g := by
  intro n
  induction n with
  | zero => intro _ _; exact j_none
  | succ n ih =>
    intro v4 g
    unfold L_X5_open_220
    refine j_lift (fun _ k => g_iload (pc := 220) dX5_open_220 rfl k) ?_
    refine j_lift (fun _ k => g_aload_n (pc := 222) dX5_open_222 rfl k) ?_
    refine j_lift (fun _ k => fg_X5_open_101 (pc := 223) hb dX5_open_223 k) ?_
    refine j_icmp_ge (pc := 226) 330 dX5_open_226 (by decide) (fun h1 => ?_) (fun h1 => ?_)
    · exact hk v4 g
    · refine j_lift (fun _ k => g_iconst (pc := 229) (v := 0) dX5_open_229 (by decide +kernel) k) ?_
      refine j_lift (fun _ k => g_istore (pc := 230) (ls' := [rv Z 5 0, iv a1, iv a2, iv a3, iv v4, iv 0]) dX5_open_230 (Nat.le_of_ble_eq_true rfl) (Nat.le_of_ble_eq_true rfl) rfl k) ?_
      refine l_X5_open_232 hb  (fun w17 g18 => ?_) 4000 0 g
      refine j_lift (fun _ k => g_iinc (pc := 324) (v := v4 + 1) (ls' := [rv Z 5 0, iv a1, iv a2, iv a3, iv (v4 + 1), iv w17]) dX5_open_324 (Nat.le_of_ble_eq_true rfl) rfl (mg_inc _) rfl k) ?_
      refine j_lift (fun _ k => g_goto (pc := 327) 220 dX5_open_327 (by decide) k) ?_
      refine j_trunc (ls := [rv Z 5 0, iv a1, iv a2, iv a3, iv (v4 + 1)]) [iv w17] ?_
      exact ih (v4 + 1) g18
def P_X5_open (a b c : Nat) (g : mg_F) : mo := if sv (g 5 0 1) = 0 then (bd (P_X5_isStation a g) fun r2 g3 => if sv r2 = 0 then (some (4294967295, g3)) else (if sv b < 0 then (some (4294967295, g3)) else (if sv 2 < sv b then (some (4294967295, g3)) else (if sv c < sv 1 then (some (4294967295, g3)) else (if sv 4 < sv c then (some (4294967295, g3)) else (bd (P_X5_part g3) fun r9 g10 => if sv 1 < sv r9 then (some (4294967295, g10)) else (wr (mg_up g10 5 0 1 1) fun g12 => wr (mg_up g12 5 0 2 b) fun g13 => wr (mg_up g13 5 0 3 c) fun g14 => wr (mg_up g14 5 0 15 0) fun g15 => wr (mg_up g15 5 0 21 0) fun g16 => wr (mg_up g16 5 0 26 0) fun g17 => L_X5_open_77 a b c (fun w18 g19 => L_X5_open_110 a b c (fun w20 g21 => L_X5_open_220 a b c (fun w22 g23 => some (0, g23)) 4000 0 g21) 4000 0 g19) 4000 0 g17))))))) else (some (4294967295, g))
theorem p_X5_open {l : Launch} {Z : mg_Zt} {a b c : Nat} {g : mg_F} (hb : Z.2.2.1 = true) : ∀ (r : Nat) (g' : mg_F), P_X5_open a b c g = some (r, g') → mg_C l Z mX5_open [rv Z 5 0, iv a, iv b, iv c] g (mp mX5_open r g') := by
  refine mC_of (by decide) rfl (Nat.le_of_ble_eq_true rfl) (List.forall_mem_cons.mpr ⟨rfl, (List.forall_mem_cons.mpr ⟨rfl, (List.forall_mem_cons.mpr ⟨rfl, (List.forall_mem_cons.mpr ⟨rfl, (fun _ h => nomatch h)⟩)⟩)⟩)⟩) (fun K => ?_)
  unfold P_X5_open
  refine j_lift (fun _ k => g_aload_n (pc := 0) dX5_open_0 rfl k) ?_
  refine j_lift (fun _ k => fg_X5_open_105 (pc := 1) hb dX5_open_1 k) ?_
  refine j_if_ne (pc := 4) 42 dX5_open_4 (by decide) (fun h1 => ?_) (fun h1 => ?_)
  · refine j_lift (fun _ k => g_iconst (pc := 42) (v := 4294967295) dX5_open_42 (by decide +kernel) k) ?_
    exact j_iret (pc := 43) dX5_open_43 ⟨mg_narI _, Or.inl rfl⟩ rfl
  · refine j_lift (fun _ k => g_aload_n (pc := 7) dX5_open_7 rfl k) ?_
    refine j_lift (fun _ k => g_iload_n (pc := 8) dX5_open_8 rfl k) ?_
    refine j_callVi (pc := 9) (Y' := mX5_isStation) (As := [iv a]) (st := []) (k := 5) (i := 0) (p_X5_isStation hb) gX5_open_X5_isStation rfl (by rw [hb]; decide) rfl rfl (na := 1) rfl (by decide +kernel) (by decide) (by decide) (Nat.le_of_ble_eq_true rfl) dX5_open_9 (fun r2 g3 => ?_)
    refine j_if_eq (pc := 12) 42 dX5_open_12 (by decide) (fun h4 => ?_) (fun h4 => ?_)
    · refine j_lift (fun _ k => g_iconst (pc := 42) (v := 4294967295) dX5_open_42 (by decide +kernel) k) ?_
      exact j_iret (pc := 43) dX5_open_43 ⟨mg_narI _, Or.inl rfl⟩ rfl
    · refine j_lift (fun _ k => g_iload_n (pc := 15) dX5_open_15 rfl k) ?_
      refine j_if_lt (pc := 16) 42 dX5_open_16 (by decide) (fun h5 => ?_) (fun h5 => ?_)
      · refine j_lift (fun _ k => g_iconst (pc := 42) (v := 4294967295) dX5_open_42 (by decide +kernel) k) ?_
        exact j_iret (pc := 43) dX5_open_43 ⟨mg_narI _, Or.inl rfl⟩ rfl
      · refine j_lift (fun _ k => g_iload_n (pc := 19) dX5_open_19 rfl k) ?_
        refine j_lift (fun _ k => g_iconst (pc := 20) (v := 2) dX5_open_20 (by decide +kernel) k) ?_
        refine j_icmp_gt (pc := 21) 42 dX5_open_21 (by decide) (fun h6 => ?_) (fun h6 => ?_)
        · refine j_lift (fun _ k => g_iconst (pc := 42) (v := 4294967295) dX5_open_42 (by decide +kernel) k) ?_
          exact j_iret (pc := 43) dX5_open_43 ⟨mg_narI _, Or.inl rfl⟩ rfl
        · refine j_lift (fun _ k => g_iload_n (pc := 24) dX5_open_24 rfl k) ?_
          refine j_lift (fun _ k => g_iconst (pc := 25) (v := 1) dX5_open_25 (by decide +kernel) k) ?_
          refine j_icmp_lt (pc := 26) 42 dX5_open_26 (by decide) (fun h7 => ?_) (fun h7 => ?_)
          · refine j_lift (fun _ k => g_iconst (pc := 42) (v := 4294967295) dX5_open_42 (by decide +kernel) k) ?_
            exact j_iret (pc := 43) dX5_open_43 ⟨mg_narI _, Or.inl rfl⟩ rfl
          · refine j_lift (fun _ k => g_iload_n (pc := 29) dX5_open_29 rfl k) ?_
            refine j_lift (fun _ k => g_iconst (pc := 30) (v := 4) dX5_open_30 (by decide +kernel) k) ?_
            refine j_icmp_gt (pc := 31) 42 dX5_open_31 (by decide) (fun h8 => ?_) (fun h8 => ?_)
            · refine j_lift (fun _ k => g_iconst (pc := 42) (v := 4294967295) dX5_open_42 (by decide +kernel) k) ?_
              exact j_iret (pc := 43) dX5_open_43 ⟨mg_narI _, Or.inl rfl⟩ rfl
            · refine j_lift (fun _ k => g_aload_n (pc := 34) dX5_open_34 rfl k) ?_
              refine j_callVi (pc := 35) (Y' := mX5_part) (As := []) (st := []) (k := 5) (i := 0) (p_X5_part hb) gX5_open_X5_part rfl (by rw [hb]; decide) rfl rfl (na := 0) rfl (by decide +kernel) (by decide) (by decide) (Nat.le_of_ble_eq_true rfl) dX5_open_35 (fun r9 g10 => ?_)
              refine j_lift (fun _ k => g_iconst (pc := 38) (v := 1) dX5_open_38 (by decide +kernel) k) ?_
              refine j_icmp_le (pc := 39) 44 dX5_open_39 (by decide) (fun h11 => ?_) (fun h11 => ?_)
              · refine j_lift (fun _ k => g_aload_n (pc := 44) dX5_open_44 rfl k) ?_
                refine j_lift (fun _ k => g_iconst (pc := 45) (v := 1) dX5_open_45 (by decide +kernel) k) ?_
                refine j_w (fun _ k => fp_X5_open_105 (pc := 46) hb (by decide) dX5_open_46 k) (fun g12 => ?_)
                refine j_lift (fun _ k => g_aload_n (pc := 49) dX5_open_49 rfl k) ?_
                refine j_lift (fun _ k => g_iload_n (pc := 50) dX5_open_50 rfl k) ?_
                refine j_w (fun _ k => fp_X5_open_124 (pc := 51) hb dX5_open_51 k) (fun g13 => ?_)
                refine j_lift (fun _ k => g_aload_n (pc := 54) dX5_open_54 rfl k) ?_
                refine j_lift (fun _ k => g_iload_n (pc := 55) dX5_open_55 rfl k) ?_
                refine j_w (fun _ k => fp_X5_open_127 (pc := 56) hb dX5_open_56 k) (fun g14 => ?_)
                refine j_lift (fun _ k => g_aload_n (pc := 59) dX5_open_59 rfl k) ?_
                refine j_lift (fun _ k => g_iconst (pc := 60) (v := 0) dX5_open_60 (by decide +kernel) k) ?_
                refine j_w (fun _ k => fp_X5_open_130 (pc := 61) hb dX5_open_61 k) (fun g15 => ?_)
                refine j_lift (fun _ k => g_aload_n (pc := 64) dX5_open_64 rfl k) ?_
                refine j_lift (fun _ k => g_iconst (pc := 65) (v := 0) dX5_open_65 (by decide +kernel) k) ?_
                refine j_w (fun _ k => fp_X5_open_133 (pc := 66) hb dX5_open_66 k) (fun g16 => ?_)
                refine j_lift (fun _ k => g_aload_n (pc := 69) dX5_open_69 rfl k) ?_
                refine j_lift (fun _ k => g_iconst (pc := 70) (v := 0) dX5_open_70 (by decide +kernel) k) ?_
                refine j_w (fun _ k => fp_X5_open_136 (pc := 71) hb dX5_open_71 k) (fun g17 => ?_)
                refine j_lift (fun _ k => g_iconst (pc := 74) (v := 0) dX5_open_74 (by decide +kernel) k) ?_
                refine j_lift (fun _ k => g_istore (pc := 75) (ls' := [rv Z 5 0, iv a, iv b, iv c, iv 0]) dX5_open_75 (Nat.le_of_ble_eq_true rfl) (Nat.le_of_ble_eq_true rfl) rfl k) ?_
                refine l_X5_open_77 hb  (fun w18 g19 => ?_) 4000 0 g17
                refine j_lift (fun _ k => g_iconst (pc := 107) (v := 0) dX5_open_107 (by decide +kernel) k) ?_
                refine j_lift (fun _ k => g_istore (pc := 108) (ls' := [rv Z 5 0, iv a, iv b, iv c, iv 0]) dX5_open_108 (Nat.le_of_ble_eq_true rfl) (Nat.le_of_ble_eq_true rfl) rfl k) ?_
                refine l_X5_open_110 hb  (fun w20 g21 => ?_) 4000 0 g19
                refine j_lift (fun _ k => g_iconst (pc := 217) (v := 0) dX5_open_217 (by decide +kernel) k) ?_
                refine j_lift (fun _ k => g_istore (pc := 218) (ls' := [rv Z 5 0, iv a, iv b, iv c, iv 0]) dX5_open_218 (Nat.le_of_ble_eq_true rfl) (Nat.le_of_ble_eq_true rfl) rfl k) ?_
                refine l_X5_open_220 hb  (fun w22 g23 => ?_) 4000 0 g21
                refine j_lift (fun _ k => g_iconst (pc := 330) (v := 0) dX5_open_330 (by decide +kernel) k) ?_
                exact j_iret (pc := 331) dX5_open_331 ⟨mg_narI _, Or.inl rfl⟩ rfl
              · refine j_lift (fun _ k => g_iconst (pc := 42) (v := 4294967295) dX5_open_42 (by decide +kernel) k) ?_
                exact j_iret (pc := 43) dX5_open_43 ⟨mg_narI _, Or.inl rfl⟩ rfl

