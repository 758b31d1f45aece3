/-! ===== the programs of the methods, 6 ===== -/
/-- X5_cut -/
def L_X5_cut_81 (a1 a2 a3 a4 : Nat) (k : Nat → Nat → mg_F → mo) : Nat → Nat → Nat → mg_F → mo
  | 0, _, _, _ => none
  | n + 1, v5, v6, g => if sv v6 < sv (g 5 0 26) then (jn (α := Nat) (fun x5 g6 => L_X5_cut_81 a1 a2 a3 a4 k n x5 (v6 + 1) g6) fun kj3 => if sv v5 = 0 then (ck (v6 < 60) <| if sv (g 57 0 v6) = sv a3 then (kj3 1 g) else (ck (v6 < 60) <| if sv (g 57 0 v6) = sv a4 then (kj3 1 g) else (kj3 0 g))) else (kj3 1 g)) else (k v5 v6 g)
theorem l_X5_cut_81 {K : mg_Kt} {Z : mg_Zt} (hb : Z.2.2.1 = true) {a1 a2 a3 a4 : Nat}  {k : Nat → Nat → mg_F → mo} (hk : ∀ (v5 v6 : Nat) (g : mg_F), mj K Z mX5_cut (k v5 v6 g) 131 [rv Z 5 0, iv a1, iv a2, iv a3, iv a4, iv v5, iv v6] [] g) : ∀ (n : Nat) (v5 v6 : Nat) (g : mg_F), mj K Z mX5_cut (L_X5_cut_81 a1 a2 a3 a4 k n v5 v6 g) 81 [rv Z 5 0, iv a1, iv a2, iv a3, iv a4, iv v5, iv v6] [] g := by
  intro n
  induction n with
  | zero => intro _ _ _; exact j_none
  | succ n ih =>
    intro v5 v6 g
    unfold L_X5_cut_81
    refine j_lift (fun _ k => g_iload (pc := 81) dX5_cut_81 rfl k) ?_
    refine j_lift (fun _ k => g_aload_n (pc := 83) dX5_cut_83 rfl k) ?_
    refine j_lift (fun _ k => fg_X5_cut_136 (pc := 84) hb dX5_cut_84 k) ?_
    refine j_icmp_ge (pc := 87) 131 dX5_cut_87 (by decide) (fun h1 => ?_) (fun h1 => ?_)
    · exact hk v5 v6 g
    · refine j_lift (fun _ k => g_iload (pc := 90) dX5_cut_90 rfl k) ?_
      refine j_jn (α := Nat) 123 (fun x5 => [rv Z 5 0, iv a1, iv a2, iv a3, iv a4, iv v5, iv v6]) (fun x5 => [iv x5]) (fun x5 g6 => ?_) (fun kj3 hk4 => ?_)
      · refine j_lift (fun _ k => g_istore (pc := 123) (ls' := [rv Z 5 0, iv a1, iv a2, iv a3, iv a4, iv x5, iv v6]) dX5_cut_123 (Nat.le_of_ble_eq_true rfl) (Nat.le_of_ble_eq_true rfl) rfl k) ?_
        refine j_lift (fun _ k => g_iinc (pc := 125) (v := v6 + 1) (ls' := [rv Z 5 0, iv a1, iv a2, iv a3, iv a4, iv x5, iv (v6 + 1)]) dX5_cut_125 (Nat.le_of_ble_eq_true rfl) rfl (mg_inc _) rfl k) ?_
        refine j_lift (fun _ k => g_goto (pc := 128) 81 dX5_cut_128 (by decide) k) ?_
        exact ih x5 (v6 + 1) g6
      · refine j_if_ne (pc := 92) 118 dX5_cut_92 (by decide) (fun h2 => ?_) (fun h2 => ?_)
        · refine j_lift (fun _ k => g_iconst (pc := 118) (v := 1) dX5_cut_118 (by decide +kernel) k) ?_
          refine j_lift (fun _ k => g_goto (pc := 119) 123 dX5_cut_119 (by decide) k) ?_
          exact hk4 1 g
        · refine j_lift (fun _ k => g_aload_n (pc := 95) dX5_cut_95 rfl k) ?_
          refine j_lift (fun _ k => fg_X5_cut_68 (pc := 96) hb dX5_cut_96 k) ?_
          refine j_lift (fun _ k => g_iload (pc := 99) dX5_cut_99 rfl k) ?_
          refine j_ck (fun c7 => ?_)
          refine j_lift (fun _ k => g_iaload (pc := 101) (k := 57) (i := 0) (n := 60) (by rw [hb]; decide) rfl (by decide) c7 dX5_cut_101 k) ?_
          refine j_lift (fun _ k => g_iload_n (pc := 102) dX5_cut_102 rfl k) ?_
          refine j_icmp_eq (pc := 103) 118 dX5_cut_103 (by decide) (fun h8 => ?_) (fun h8 => ?_)
          · refine j_lift (fun _ k => g_iconst (pc := 118) (v := 1) dX5_cut_118 (by decide +kernel) k) ?_
            refine j_lift (fun _ k => g_goto (pc := 119) 123 dX5_cut_119 (by decide) k) ?_
            exact hk4 1 g
          · refine j_lift (fun _ k => g_aload_n (pc := 106) dX5_cut_106 rfl k) ?_
            refine j_lift (fun _ k => fg_X5_cut_68 (pc := 107) hb dX5_cut_107 k) ?_
            refine j_lift (fun _ k => g_iload (pc := 110) dX5_cut_110 rfl k) ?_
            refine j_ck (fun c9 => ?_)
            refine j_lift (fun _ k => g_iaload (pc := 112) (k := 57) (i := 0) (n := 60) (by rw [hb]; decide) rfl (by decide) c9 dX5_cut_112 k) ?_
            refine j_lift (fun _ k => g_iload (pc := 113) dX5_cut_113 rfl k) ?_
            refine j_icmp_ne (pc := 115) 122 dX5_cut_115 (by decide) (fun h10 => ?_) (fun h10 => ?_)
            · refine j_lift (fun _ k => g_iconst (pc := 122) (v := 0) dX5_cut_122 (by decide +kernel) k) ?_
              exact hk4 0 g
            · refine j_lift (fun _ k => g_iconst (pc := 118) (v := 1) dX5_cut_118 (by decide +kernel) k) ?_
              refine j_lift (fun _ k => g_goto (pc := 119) 123 dX5_cut_119 (by decide) k) ?_
              exact hk4 1 g
def P_X5_cut (a b : Nat) (g : mg_F) : mo := if sv (g 5 0 1) = 0 then (some (4294967295, g)) else (bd (P_X5_isStation a g) fun r2 g3 => if sv r2 = 0 then (some (4294967295, g3)) else (bd (P_X5_isStation b g3) fun r5 g6 => if sv r5 = 0 then (some (4294967295, g6)) else (ck ((24 * a) + b < 576) <| if sv (g6 35 0 ((24 * a) + b)) = 0 then (some (4294967295, g6)) else (bd (P_X5_firstLetter ((24 * a) + b) g6) fun r10 g11 => jn (α := Nat) (fun x15 g16 => L_X5_cut_81 a b ((24 * a) + b) ((24 * b) + a) (fun w17 w18 g19 => if sv w17 = 0 then (bd (P_X5_placeOf a b g19) fun r21 g22 => if sv r21 < 0 then (bd (P_X5_placeOf b a g22) fun r24 g25 => if sv r24 < 0 then (bd (P_X5_join2 a b 0 g25) fun _ g28 => ck (a < 24) <| jn (α := Nat) (fun x33 g34 => wr (mg_up g34 36 0 a x33) fun g35 => ck (b < 24) <| jn (α := Nat) (fun x40 g41 => wr (mg_up g41 36 0 b x40) fun g42 => some (0, g42)) fun kj38 => if sv (g35 36 0 b) = sv a then (kj38 4294967294 g35) else (kj38 (g35 36 0 b) g35)) fun kj31 => if sv (g28 36 0 a) = sv b then (kj31 4294967294 g28) else (kj31 (g28 36 0 a) g28)) else (some (4294967292, g25))) else (some (4294967292, g22))) else (some (4294967293, g19))) 4000 x15 0 g16) fun kj13 => if sv r10 < 0 then (bd (P_X5_firstLetter ((24 * b) + a) g11) fun r43 g44 => if sv r43 < 0 then (kj13 0 g44) else (kj13 1 g44)) else (kj13 1 g11)))))
theorem p_X5_cut {l : Launch} {Z : mg_Zt} {a b : Nat} {g : mg_F} (hb : Z.2.2.1 = true) : ∀ (r : Nat) (g' : mg_F), P_X5_cut a b g = some (r, g') → mg_C l Z mX5_cut [rv Z 5 0, iv a, iv b] g (mp mX5_cut r g') := by
  refine mC_of (by decide) rfl (Nat.le_of_ble_eq_true rfl) (List.forall_mem_cons.mpr ⟨rfl, (List.forall_mem_cons.mpr ⟨rfl, (List.forall_mem_cons.mpr ⟨rfl, (fun _ h => nomatch h)⟩)⟩)⟩) (fun K => ?_)
  unfold P_X5_cut
  refine j_lift (fun _ k => g_aload_n (pc := 0) dX5_cut_0 rfl k) ?_
  refine j_lift (fun _ k => fg_X5_cut_105 (pc := 1) hb dX5_cut_1 k) ?_
  refine j_if_eq (pc := 4) 37 dX5_cut_4 (by decide) (fun h1 => ?_) (fun h1 => ?_)
  · refine j_lift (fun _ k => g_iconst (pc := 37) (v := 4294967295) dX5_cut_37 (by decide +kernel) k) ?_
    exact j_iret (pc := 38) dX5_cut_38 ⟨mg_narI _, Or.inl rfl⟩ rfl
  · refine j_lift (fun _ k => g_aload_n (pc := 7) dX5_cut_7 rfl k) ?_
    refine j_lift (fun _ k => g_iload_n (pc := 8) dX5_cut_8 rfl k) ?_
    refine j_callVi (pc := 9) (Y' := mX5_isStation) (As := [iv a]) (st := []) (k := 5) (i := 0) (p_X5_isStation hb) gX5_cut_X5_isStation rfl (by rw [hb]; decide) rfl rfl (na := 1) rfl (by decide +kernel) (by decide) (by decide) (Nat.le_of_ble_eq_true rfl) dX5_cut_9 (fun r2 g3 => ?_)
    refine j_if_eq (pc := 12) 37 dX5_cut_12 (by decide) (fun h4 => ?_) (fun h4 => ?_)
    · refine j_lift (fun _ k => g_iconst (pc := 37) (v := 4294967295) dX5_cut_37 (by decide +kernel) k) ?_
      exact j_iret (pc := 38) dX5_cut_38 ⟨mg_narI _, Or.inl rfl⟩ rfl
    · refine j_lift (fun _ k => g_aload_n (pc := 15) dX5_cut_15 rfl k) ?_
      refine j_lift (fun _ k => g_iload_n (pc := 16) dX5_cut_16 rfl k) ?_
      refine j_callVi (pc := 17) (Y' := mX5_isStation) (As := [iv b]) (st := []) (k := 5) (i := 0) (p_X5_isStation hb) gX5_cut_X5_isStation rfl (by rw [hb]; decide) rfl rfl (na := 1) rfl (by decide +kernel) (by decide) (by decide) (Nat.le_of_ble_eq_true rfl) dX5_cut_17 (fun r5 g6 => ?_)
      refine j_if_eq (pc := 20) 37 dX5_cut_20 (by decide) (fun h7 => ?_) (fun h7 => ?_)
      · refine j_lift (fun _ k => g_iconst (pc := 37) (v := 4294967295) dX5_cut_37 (by decide +kernel) k) ?_
        exact j_iret (pc := 38) dX5_cut_38 ⟨mg_narI _, Or.inl rfl⟩ rfl
      · refine j_lift (fun _ k => g_aload_n (pc := 23) dX5_cut_23 rfl k) ?_
        refine j_lift (fun _ k => fg_X5_cut_7 (pc := 24) hb dX5_cut_24 k) ?_
        refine j_lift (fun _ k => g_bipush (pc := 27) (v := 24) dX5_cut_27 (by decide +kernel) k) ?_
        refine j_lift (fun _ k => g_iload_n (pc := 29) dX5_cut_29 rfl k) ?_
        refine j_lift (fun _ k => g_imul (pc := 30) (a := 24) (b := a) dX5_cut_30 k) ?_
        refine j_lift (fun _ k => g_iload_n (pc := 31) dX5_cut_31 rfl k) ?_
        refine j_lift (fun _ k => g_iadd (pc := 32) (a := 24 * a) (b := b) dX5_cut_32 k) ?_
        refine j_ck (fun c8 => ?_)
        refine j_lift (fun _ k => g_baload (pc := 33) (k := 35) (i := 0) (n := 576) (by rw [hb]; decide) rfl (by decide) c8 dX5_cut_33 k) ?_
        refine j_if_ne (pc := 34) 39 dX5_cut_34 (by decide) (fun h9 => ?_) (fun h9 => ?_)
        · refine j_lift (fun _ k => g_bipush (pc := 39) (v := 24) dX5_cut_39 (by decide +kernel) k) ?_
          refine j_lift (fun _ k => g_iload_n (pc := 41) dX5_cut_41 rfl k) ?_
          refine j_lift (fun _ k => g_imul (pc := 42) (a := 24) (b := a) dX5_cut_42 k) ?_
          refine j_lift (fun _ k => g_iload_n (pc := 43) dX5_cut_43 rfl k) ?_
          refine j_lift (fun _ k => g_iadd (pc := 44) (a := 24 * a) (b := b) dX5_cut_44 k) ?_
          refine j_lift (fun _ k => g_istore_n (pc := 45) (ls' := [rv Z 5 0, iv a, iv b, iv ((24 * a) + b)]) dX5_cut_45 (Nat.le_of_ble_eq_true rfl) (Nat.le_of_ble_eq_true rfl) rfl k) ?_
          refine j_lift (fun _ k => g_bipush (pc := 46) (v := 24) dX5_cut_46 (by decide +kernel) k) ?_
          refine j_lift (fun _ k => g_iload_n (pc := 48) dX5_cut_48 rfl k) ?_
          refine j_lift (fun _ k => g_imul (pc := 49) (a := 24) (b := b) dX5_cut_49 k) ?_
          refine j_lift (fun _ k => g_iload_n (pc := 50) dX5_cut_50 rfl k) ?_
          refine j_lift (fun _ k => g_iadd (pc := 51) (a := 24 * b) (b := a) dX5_cut_51 k) ?_
          refine j_lift (fun _ k => g_istore (pc := 52) (ls' := [rv Z 5 0, iv a, iv b, iv ((24 * a) + b), iv ((24 * b) + a)]) dX5_cut_52 (Nat.le_of_ble_eq_true rfl) (Nat.le_of_ble_eq_true rfl) rfl k) ?_
          refine j_lift (fun _ k => g_aload_n (pc := 54) dX5_cut_54 rfl k) ?_
          refine j_lift (fun _ k => g_iload_n (pc := 55) dX5_cut_55 rfl k) ?_
          refine j_callVi (pc := 56) (Y' := mX5_firstLetter) (As := [iv ((24 * a) + b)]) (st := []) (k := 5) (i := 0) (p_X5_firstLetter hb) gX5_cut_X5_firstLetter rfl (by rw [hb]; decide) rfl rfl (na := 1) rfl (by decide +kernel) (by decide) (by decide) (Nat.le_of_ble_eq_true rfl) dX5_cut_56 (fun r10 g11 => ?_)
          refine j_jn (α := Nat) 76 (fun x15 => [rv Z 5 0, iv a, iv b, iv ((24 * a) + b), iv ((24 * b) + a)]) (fun x15 => [iv x15]) (fun x15 g16 => ?_) (fun kj13 hk14 => ?_)
          · refine j_lift (fun _ k => g_istore (pc := 76) (ls' := [rv Z 5 0, iv a, iv b, iv ((24 * a) + b), iv ((24 * b) + a), iv x15]) dX5_cut_76 (Nat.le_of_ble_eq_true rfl) (Nat.le_of_ble_eq_true rfl) rfl k) ?_
            refine j_lift (fun _ k => g_iconst (pc := 78) (v := 0) dX5_cut_78 (by decide +kernel) k) ?_
            refine j_lift (fun _ k => g_istore (pc := 79) (ls' := [rv Z 5 0, iv a, iv b, iv ((24 * a) + b), iv ((24 * b) + a), iv x15, iv 0]) dX5_cut_79 (Nat.le_of_ble_eq_true rfl) (Nat.le_of_ble_eq_true rfl) rfl k) ?_
            refine l_X5_cut_81 hb  (fun w17 w18 g19 => ?_) 4000 x15 0 g16
            refine j_lift (fun _ k => g_iload (pc := 131) dX5_cut_131 rfl k) ?_
            refine j_if_eq (pc := 133) 139 dX5_cut_133 (by decide) (fun h20 => ?_) (fun h20 => ?_)
            · refine j_lift (fun _ k => g_aload_n (pc := 139) dX5_cut_139 rfl k) ?_
              refine j_lift (fun _ k => g_iload_n (pc := 140) dX5_cut_140 rfl k) ?_
              refine j_lift (fun _ k => g_iload_n (pc := 141) dX5_cut_141 rfl k) ?_
              refine j_callVi (pc := 142) (Y' := mX5_placeOf) (As := [iv a, iv b]) (st := []) (k := 5) (i := 0) (p_X5_placeOf hb) gX5_cut_X5_placeOf rfl (by rw [hb]; decide) rfl rfl (na := 2) rfl (by decide +kernel) (by decide) (by decide) (Nat.le_of_ble_eq_true rfl) dX5_cut_142 (fun r21 g22 => ?_)
              refine j_if_ge (pc := 145) 157 dX5_cut_145 (by decide) (fun h23 => ?_) (fun h23 => ?_)
              · refine j_lift (fun _ k => g_bipush (pc := 157) (v := 4294967292) dX5_cut_157 (by decide +kernel) k) ?_
                exact j_iret (pc := 159) dX5_cut_159 ⟨mg_narI _, Or.inl rfl⟩ rfl
              · refine j_lift (fun _ k => g_aload_n (pc := 148) dX5_cut_148 rfl k) ?_
                refine j_lift (fun _ k => g_iload_n (pc := 149) dX5_cut_149 rfl k) ?_
                refine j_lift (fun _ k => g_iload_n (pc := 150) dX5_cut_150 rfl k) ?_
                refine j_callVi (pc := 151) (Y' := mX5_placeOf) (As := [iv b, iv a]) (st := []) (k := 5) (i := 0) (p_X5_placeOf hb) gX5_cut_X5_placeOf rfl (by rw [hb]; decide) rfl rfl (na := 2) rfl (by decide +kernel) (by decide) (by decide) (Nat.le_of_ble_eq_true rfl) dX5_cut_151 (fun r24 g25 => ?_)
                refine j_if_lt (pc := 154) 160 dX5_cut_154 (by decide) (fun h26 => ?_) (fun h26 => ?_)
                · refine j_lift (fun _ k => g_aload_n (pc := 160) dX5_cut_160 rfl k) ?_
                  refine j_lift (fun _ k => g_iload_n (pc := 161) dX5_cut_161 rfl k) ?_
                  refine j_lift (fun _ k => g_iload_n (pc := 162) dX5_cut_162 rfl k) ?_
                  refine j_lift (fun _ k => g_iconst (pc := 163) (v := 0) dX5_cut_163 (by decide +kernel) k) ?_
                  refine j_callVv (pc := 164) (Y' := mX5_join2) (As := [iv a, iv b, iv 0]) (st := []) (k := 5) (i := 0) (p_X5_join2 hb) gX5_cut_X5_join2 rfl (by rw [hb]; decide) rfl rfl (na := 3) rfl (by decide +kernel) (by decide) (by decide) (Nat.le_of_ble_eq_true rfl) dX5_cut_164 (fun _ g28 => ?_)
                  refine j_lift (fun _ k => g_aload_n (pc := 167) dX5_cut_167 rfl k) ?_
                  refine j_lift (fun _ k => fg_X5_cut_13 (pc := 168) hb dX5_cut_168 k) ?_
                  refine j_lift (fun _ k => g_iload_n (pc := 171) dX5_cut_171 rfl k) ?_
                  refine j_lift (fun _ k => g_aload_n (pc := 172) dX5_cut_172 rfl k) ?_
                  refine j_lift (fun _ k => fg_X5_cut_13 (pc := 173) hb dX5_cut_173 k) ?_
                  refine j_lift (fun _ k => g_iload_n (pc := 176) dX5_cut_176 rfl k) ?_
                  refine j_ck (fun c29 => ?_)
                  refine j_lift (fun _ k => g_iaload (pc := 177) (k := 36) (i := 0) (n := 24) (by rw [hb]; decide) rfl (by decide) c29 dX5_cut_177 k) ?_
                  refine j_lift (fun _ k => g_iload_n (pc := 178) dX5_cut_178 rfl k) ?_
                  refine j_jn (α := Nat) 193 (fun x33 => [rv Z 5 0, iv a, iv b, iv ((24 * a) + b), iv ((24 * b) + a), iv w17, iv w18]) (fun x33 => [iv x33, iv a, rv Z 36 0]) (fun x33 g34 => ?_) (fun kj31 hk32 => ?_)
                  · refine j_w (fun _ k => g_iastore (pc := 193) (k := 36) (i := 0) (n := 24) (by rw [hb]; decide) (fun _ => rfl) (by decide) c29 dX5_cut_193 k) (fun g35 => ?_)
                    refine j_lift (fun _ k => g_aload_n (pc := 194) dX5_cut_194 rfl k) ?_
                    refine j_lift (fun _ k => fg_X5_cut_13 (pc := 195) hb dX5_cut_195 k) ?_
                    refine j_lift (fun _ k => g_iload_n (pc := 198) dX5_cut_198 rfl k) ?_
                    refine j_lift (fun _ k => g_aload_n (pc := 199) dX5_cut_199 rfl k) ?_
                    refine j_lift (fun _ k => fg_X5_cut_13 (pc := 200) hb dX5_cut_200 k) ?_
                    refine j_lift (fun _ k => g_iload_n (pc := 203) dX5_cut_203 rfl k) ?_
                    refine j_ck (fun c36 => ?_)
                    refine j_lift (fun _ k => g_iaload (pc := 204) (k := 36) (i := 0) (n := 24) (by rw [hb]; decide) rfl (by decide) c36 dX5_cut_204 k) ?_
                    refine j_lift (fun _ k => g_iload_n (pc := 205) dX5_cut_205 rfl k) ?_
                    refine j_jn (α := Nat) 220 (fun x40 => [rv Z 5 0, iv a, iv b, iv ((24 * a) + b), iv ((24 * b) + a), iv w17, iv w18]) (fun x40 => [iv x40, iv b, rv Z 36 0]) (fun x40 g41 => ?_) (fun kj38 hk39 => ?_)
                    · refine j_w (fun _ k => g_iastore (pc := 220) (k := 36) (i := 0) (n := 24) (by rw [hb]; decide) (fun _ => rfl) (by decide) c36 dX5_cut_220 k) (fun g42 => ?_)
                      refine j_lift (fun _ k => g_iconst (pc := 221) (v := 0) dX5_cut_221 (by decide +kernel) k) ?_
                      exact j_iret (pc := 222) dX5_cut_222 ⟨mg_narI _, Or.inl rfl⟩ rfl
                    · refine j_icmp_ne (pc := 206) 214 dX5_cut_206 (by decide) (fun h37 => ?_) (fun h37 => ?_)
                      · refine j_lift (fun _ k => g_aload_n (pc := 214) dX5_cut_214 rfl k) ?_
                        refine j_lift (fun _ k => fg_X5_cut_13 (pc := 215) hb dX5_cut_215 k) ?_
                        refine j_lift (fun _ k => g_iload_n (pc := 218) dX5_cut_218 rfl k) ?_
                        refine j_lift (fun _ k => g_iaload (pc := 219) (k := 36) (i := 0) (n := 24) (by rw [hb]; decide) rfl (by decide) c36 dX5_cut_219 k) ?_
                        exact hk39 (g35 36 0 b) g35
                      · refine j_lift (fun _ k => g_bipush (pc := 209) (v := 4294967294) dX5_cut_209 (by decide +kernel) k) ?_
                        refine j_lift (fun _ k => g_goto (pc := 211) 220 dX5_cut_211 (by decide) k) ?_
                        exact hk39 4294967294 g35
                  · refine j_icmp_ne (pc := 179) 187 dX5_cut_179 (by decide) (fun h30 => ?_) (fun h30 => ?_)
                    · refine j_lift (fun _ k => g_aload_n (pc := 187) dX5_cut_187 rfl k) ?_
                      refine j_lift (fun _ k => fg_X5_cut_13 (pc := 188) hb dX5_cut_188 k) ?_
                      refine j_lift (fun _ k => g_iload_n (pc := 191) dX5_cut_191 rfl k) ?_
                      refine j_lift (fun _ k => g_iaload (pc := 192) (k := 36) (i := 0) (n := 24) (by rw [hb]; decide) rfl (by decide) c29 dX5_cut_192 k) ?_
                      exact hk32 (g28 36 0 a) g28
                    · refine j_lift (fun _ k => g_bipush (pc := 182) (v := 4294967294) dX5_cut_182 (by decide +kernel) k) ?_
                      refine j_lift (fun _ k => g_goto (pc := 184) 193 dX5_cut_184 (by decide) k) ?_
                      exact hk32 4294967294 g28
                · refine j_lift (fun _ k => g_bipush (pc := 157) (v := 4294967292) dX5_cut_157 (by decide +kernel) k) ?_
                  exact j_iret (pc := 159) dX5_cut_159 ⟨mg_narI _, Or.inl rfl⟩ rfl
            · refine j_lift (fun _ k => g_bipush (pc := 136) (v := 4294967293) dX5_cut_136 (by decide +kernel) k) ?_
              exact j_iret (pc := 138) dX5_cut_138 ⟨mg_narI _, Or.inl rfl⟩ rfl
          · refine j_if_ge (pc := 59) 71 dX5_cut_59 (by decide) (fun h12 => ?_) (fun h12 => ?_)
            · refine j_lift (fun _ k => g_iconst (pc := 71) (v := 1) dX5_cut_71 (by decide +kernel) k) ?_
              refine j_lift (fun _ k => g_goto (pc := 72) 76 dX5_cut_72 (by decide) k) ?_
              exact hk14 1 g11
            · refine j_lift (fun _ k => g_aload_n (pc := 62) dX5_cut_62 rfl k) ?_
              refine j_lift (fun _ k => g_iload (pc := 63) dX5_cut_63 rfl k) ?_
              refine j_callVi (pc := 65) (Y' := mX5_firstLetter) (As := [iv ((24 * b) + a)]) (st := []) (k := 5) (i := 0) (p_X5_firstLetter hb) gX5_cut_X5_firstLetter rfl (by rw [hb]; decide) rfl rfl (na := 1) rfl (by decide +kernel) (by decide) (by decide) (Nat.le_of_ble_eq_true rfl) dX5_cut_65 (fun r43 g44 => ?_)
              refine j_if_lt (pc := 68) 75 dX5_cut_68 (by decide) (fun h45 => ?_) (fun h45 => ?_)
              · refine j_lift (fun _ k => g_iconst (pc := 75) (v := 0) dX5_cut_75 (by decide +kernel) k) ?_
                exact hk14 0 g44
              · refine j_lift (fun _ k => g_iconst (pc := 71) (v := 1) dX5_cut_71 (by decide +kernel) k) ?_
                refine j_lift (fun _ k => g_goto (pc := 72) 76 dX5_cut_72 (by decide) k) ?_
                exact hk14 1 g44
        · refine j_lift (fun _ k => g_iconst (pc := 37) (v := 4294967295) dX5_cut_37 (by decide +kernel) k) ?_
          exact j_iret (pc := 38) dX5_cut_38 ⟨mg_narI _, Or.inl rfl⟩ rfl

/-- X5_rightAt -/
def L_X5_rightAt_2 (k : Nat → mg_F → mo) : Nat → Nat → mg_F → mo
  | 0, _, _ => none
  | n + 1, v1, g => if sv v1 < sv (g 5 0 0) then (ck (v1 < 24) <| if sv (g 36 0 v1) = sv v1 then (some (v1, g)) else (L_X5_rightAt_2  k n (v1 + 1) g)) else (k v1 g)
theorem l_X5_rightAt_2 {K : mg_Kt} {Z : mg_Zt} (hb : Z.2.2.1 = true)  {k : Nat → mg_F → mo} (hk : ∀ (v1 : Nat) (g : mg_F), mj K Z mX5_rightAt (k v1 g) 28 [rv Z 5 0, iv v1] [] g) : ∀ (n : Nat) (v1 : Nat) (g : mg_F), mj K Z mX5_rightAt (L_X5_rightAt_2  k n v1 g) 2 [rv Z 5 0, iv v1] [] g := by
  intro n
  induction n with
  | zero => intro _ _; exact j_none
  | succ n ih =>
    intro v1 g
    unfold L_X5_rightAt_2
    refine j_lift (fun _ k => g_iload_n (pc := 2) dX5_rightAt_2 rfl k) ?_
    refine j_lift (fun _ k => g_aload_n (pc := 3) dX5_rightAt_3 rfl k) ?_
    refine j_lift (fun _ k => fg_X5_rightAt_101 (pc := 4) hb dX5_rightAt_4 k) ?_
    refine j_icmp_ge (pc := 7) 28 dX5_rightAt_7 (by decide) (fun h1 => ?_) (fun h1 => ?_)
    · exact hk v1 g
    · refine j_lift (fun _ k => g_aload_n (pc := 10) dX5_rightAt_10 rfl k) ?_
      refine j_lift (fun _ k => fg_X5_rightAt_13 (pc := 11) hb dX5_rightAt_11 k) ?_
      refine j_lift (fun _ k => g_iload_n (pc := 14) dX5_rightAt_14 rfl k) ?_
      refine j_ck (fun c2 => ?_)
      refine j_lift (fun _ k => g_iaload (pc := 15) (k := 36) (i := 0) (n := 24) (by rw [hb]; decide) rfl (by decide) c2 dX5_rightAt_15 k) ?_
      refine j_lift (fun _ k => g_iload_n (pc := 16) dX5_rightAt_16 rfl k) ?_
      refine j_icmp_ne (pc := 17) 22 dX5_rightAt_17 (by decide) (fun h3 => ?_) (fun h3 => ?_)
      · refine j_lift (fun _ k => g_iinc (pc := 22) (v := v1 + 1) (ls' := [rv Z 5 0, iv (v1 + 1)]) dX5_rightAt_22 (Nat.le_of_ble_eq_true rfl) rfl (mg_inc _) rfl k) ?_
        refine j_lift (fun _ k => g_goto (pc := 25) 2 dX5_rightAt_25 (by decide) k) ?_
        exact ih (v1 + 1) g
      · refine j_lift (fun _ k => g_iload_n (pc := 20) dX5_rightAt_20 rfl k) ?_
        exact j_iret (pc := 21) dX5_rightAt_21 ⟨mg_narI _, Or.inl rfl⟩ rfl
def L_X5_rightAt_33 (k : Nat → Nat → mg_F → mo) : Nat → Nat → Nat → mg_F → mo
  | 0, _, _, _ => none
  | n + 1, v1, v2, g => if sv v2 < sv (g 5 0 21) then (ck (v2 < 3000) <| jn (α := Nat) (fun x6 g7 => L_X5_rightAt_33  k n x6 (v2 + 1) g7) fun kj4 => if sv (g 53 0 v2) = sv 1 then (ck (v2 < 3000) <| ck (v2 < 3000) <| ck (g 52 0 v2 < 576) <| if sv (g 55 0 v2) < sv (g 50 0 (g 52 0 v2)) then (kj4 v1 g) else (ck (v2 < 3000) <| ck (g 52 0 v2 < 2147483648) <| kj4 ((g 52 0 v2) / 24) g)) else (kj4 v1 g)) else (k v1 v2 g)
theorem l_X5_rightAt_33 {K : mg_Kt} {Z : mg_Zt} (hb : Z.2.2.1 = true)  {k : Nat → Nat → mg_F → mo} (hk : ∀ (v1 v2 : Nat) (g : mg_F), mj K Z mX5_rightAt (k v1 v2 g) 91 [rv Z 5 0, iv v1, iv v2] [] g) : ∀ (n : Nat) (v1 v2 : Nat) (g : mg_F), mj K Z mX5_rightAt (L_X5_rightAt_33  k n v1 v2 g) 33 [rv Z 5 0, iv v1, iv v2] [] g := by
  intro n
  induction n with
  | zero => intro _ _ _; exact j_none
  | succ n ih =>
    intro v1 v2 g
    unfold L_X5_rightAt_33
    refine j_lift (fun _ k => g_iload_n (pc := 33) dX5_rightAt_33 rfl k) ?_
    refine j_lift (fun _ k => g_aload_n (pc := 34) dX5_rightAt_34 rfl k) ?_
    refine j_lift (fun _ k => fg_X5_rightAt_133 (pc := 35) hb dX5_rightAt_35 k) ?_
    refine j_icmp_ge (pc := 38) 91 dX5_rightAt_38 (by decide) (fun h1 => ?_) (fun h1 => ?_)
    · exact hk v1 v2 g
    · refine j_lift (fun _ k => g_aload_n (pc := 41) dX5_rightAt_41 rfl k) ?_
      refine j_lift (fun _ k => fg_X5_rightAt_59 (pc := 42) hb dX5_rightAt_42 k) ?_
      refine j_lift (fun _ k => g_iload_n (pc := 45) dX5_rightAt_45 rfl k) ?_
      refine j_ck (fun c2 => ?_)
      refine j_lift (fun _ k => g_iaload (pc := 46) (k := 53) (i := 0) (n := 3000) (by rw [hb]; decide) rfl (by decide) c2 dX5_rightAt_46 k) ?_
      refine j_lift (fun _ k => g_iconst (pc := 47) (v := 1) dX5_rightAt_47 (by decide +kernel) k) ?_
      refine j_jn (α := Nat) 84 (fun x6 => [rv Z 5 0, iv v1, iv v2]) (fun x6 => [iv x6]) (fun x6 g7 => ?_) (fun kj4 hk5 => ?_)
      · refine j_lift (fun _ k => g_istore_n (pc := 84) (ls' := [rv Z 5 0, iv x6, iv v2]) dX5_rightAt_84 (Nat.le_of_ble_eq_true rfl) (Nat.le_of_ble_eq_true rfl) rfl k) ?_
        refine j_lift (fun _ k => g_iinc (pc := 85) (v := v2 + 1) (ls' := [rv Z 5 0, iv x6, iv (v2 + 1)]) dX5_rightAt_85 (Nat.le_of_ble_eq_true rfl) rfl (mg_inc _) rfl k) ?_
        refine j_lift (fun _ k => g_goto (pc := 88) 33 dX5_rightAt_88 (by decide) k) ?_
        exact ih x6 (v2 + 1) g7
      · refine j_icmp_ne (pc := 48) 83 dX5_rightAt_48 (by decide) (fun h3 => ?_) (fun h3 => ?_)
        · refine j_lift (fun _ k => g_iload_n (pc := 83) dX5_rightAt_83 rfl k) ?_
          exact hk5 v1 g
        · refine j_lift (fun _ k => g_aload_n (pc := 51) dX5_rightAt_51 rfl k) ?_
          refine j_lift (fun _ k => fg_X5_rightAt_65 (pc := 52) hb dX5_rightAt_52 k) ?_
          refine j_lift (fun _ k => g_iload_n (pc := 55) dX5_rightAt_55 rfl k) ?_
          refine j_ck (fun c8 => ?_)
          refine j_lift (fun _ k => g_iaload (pc := 56) (k := 55) (i := 0) (n := 3000) (by rw [hb]; decide) rfl (by decide) c8 dX5_rightAt_56 k) ?_
          refine j_lift (fun _ k => g_aload_n (pc := 57) dX5_rightAt_57 rfl k) ?_
          refine j_lift (fun _ k => fg_X5_rightAt_53 (pc := 58) hb dX5_rightAt_58 k) ?_
          refine j_lift (fun _ k => g_aload_n (pc := 61) dX5_rightAt_61 rfl k) ?_
          refine j_lift (fun _ k => fg_X5_rightAt_56 (pc := 62) hb dX5_rightAt_62 k) ?_
          refine j_lift (fun _ k => g_iload_n (pc := 65) dX5_rightAt_65 rfl k) ?_
          refine j_ck (fun c9 => ?_)
          refine j_lift (fun _ k => g_iaload (pc := 66) (k := 52) (i := 0) (n := 3000) (by rw [hb]; decide) rfl (by decide) c9 dX5_rightAt_66 k) ?_
          refine j_ck (fun c10 => ?_)
          refine j_lift (fun _ k => g_iaload (pc := 67) (k := 50) (i := 0) (n := 576) (by rw [hb]; decide) rfl (by decide) c10 dX5_rightAt_67 k) ?_
          refine j_icmp_lt (pc := 68) 83 dX5_rightAt_68 (by decide) (fun h11 => ?_) (fun h11 => ?_)
          · refine j_lift (fun _ k => g_iload_n (pc := 83) dX5_rightAt_83 rfl k) ?_
            exact hk5 v1 g
          · refine j_lift (fun _ k => g_aload_n (pc := 71) dX5_rightAt_71 rfl k) ?_
            refine j_lift (fun _ k => fg_X5_rightAt_56 (pc := 72) hb dX5_rightAt_72 k) ?_
            refine j_lift (fun _ k => g_iload_n (pc := 75) dX5_rightAt_75 rfl k) ?_
            refine j_ck (fun c12 => ?_)
            refine j_lift (fun _ k => g_iaload (pc := 76) (k := 52) (i := 0) (n := 3000) (by rw [hb]; decide) rfl (by decide) c12 dX5_rightAt_76 k) ?_
            refine j_lift (fun _ k => g_bipush (pc := 77) (v := 24) dX5_rightAt_77 (by decide +kernel) k) ?_
            refine j_ck (fun c13 => ?_)
            refine j_lift (fun _ k => g_idiv (pc := 79) c13 (by decide) (by decide) dX5_rightAt_79 k) ?_
            refine j_lift (fun _ k => g_goto (pc := 80) 84 dX5_rightAt_80 (by decide) k) ?_
            exact hk5 ((g 52 0 v2) / 24) g
def P_X5_rightAt (g : mg_F) : mo := L_X5_rightAt_2  (fun w4 g5 => L_X5_rightAt_33  (fun w14 w15 g16 => some (w14, g16)) 4000 4294967294 0 g5) 4000 0 g
theorem p_X5_rightAt {l : Launch} {Z : mg_Zt} {g : mg_F} (hb : Z.2.2.1 = true) : ∀ (r : Nat) (g' : mg_F), P_X5_rightAt g = some (r, g') → mg_C l Z mX5_rightAt [rv Z 5 0] g (mp mX5_rightAt r g') := by
  refine mC_of (by decide) rfl (Nat.le_of_ble_eq_true rfl) (List.forall_mem_cons.mpr ⟨rfl, (fun _ h => nomatch h)⟩) (fun K => ?_)
  unfold P_X5_rightAt
  refine j_lift (fun _ k => g_iconst (pc := 0) (v := 0) dX5_rightAt_0 (by decide +kernel) k) ?_
  refine j_lift (fun _ k => g_istore_n (pc := 1) (ls' := [rv Z 5 0, iv 0]) dX5_rightAt_1 (Nat.le_of_ble_eq_true rfl) (Nat.le_of_ble_eq_true rfl) rfl k) ?_
  refine l_X5_rightAt_2 hb  (fun w4 g5 => ?_) 4000 0 g
  refine j_lift (fun _ k => g_bipush (pc := 28) (v := 4294967294) dX5_rightAt_28 (by decide +kernel) k) ?_
  refine j_lift (fun _ k => g_istore_n (pc := 30) (ls' := [rv Z 5 0, iv 4294967294]) dX5_rightAt_30 (Nat.le_of_ble_eq_true rfl) (Nat.le_of_ble_eq_true rfl) rfl k) ?_
  refine j_lift (fun _ k => g_iconst (pc := 31) (v := 0) dX5_rightAt_31 (by decide +kernel) k) ?_
  refine j_lift (fun _ k => g_istore_n (pc := 32) (ls' := [rv Z 5 0, iv 4294967294, iv 0]) dX5_rightAt_32 (Nat.le_of_ble_eq_true rfl) (Nat.le_of_ble_eq_true rfl) rfl k) ?_
  refine l_X5_rightAt_33 hb  (fun w14 w15 g16 => ?_) 4000 4294967294 0 g5
  refine j_lift (fun _ k => g_iload_n (pc := 91) dX5_rightAt_91 rfl k) ?_
  exact j_iret (pc := 92) dX5_rightAt_92 ⟨mg_narI _, Or.inl rfl⟩ rfl

/-- X5_join -/
def L_X5_join_128 (a1 a2 a3 a4 a5 a6 : Nat) (k : Nat → Nat → mg_F → mo) : Nat → Nat → Nat → mg_F → mo
  | 0, _, _, _ => none
  | n + 1, v7, v8, g => if sv v8 = sv 4294967294 then (k v7 v8 g) else (ck (v7 < 25) <| wr (mg_up g 62 0 v7 v8) fun g3 => ck (v8 < 24) <| L_X5_join_128 a1 a2 a3 a4 a5 a6 k n (v7 + 1) (g3 36 0 v8) g3)
theorem l_X5_join_128 {K : mg_Kt} {Z : mg_Zt} (hb : Z.2.2.1 = true) {a1 a2 a3 a4 a5 a6 : Nat} (ha1 : a1 < 24) (ha2 : a2 < 24) (ha4 : a4 < 24) {k : Nat → Nat → mg_F → mo} (hk : ∀ (v7 v8 : Nat) (g : mg_F), mj K Z mX5_join (k v7 v8 g) 159 [rv Z 5 0, iv a1, iv a2, iv a3, iv a4, iv a5, iv a6, iv v7, iv v8] [] g) : ∀ (n : Nat) (v7 v8 : Nat) (g : mg_F), mj K Z mX5_join (L_X5_join_128 a1 a2 a3 a4 a5 a6 k n v7 v8 g) 128 [rv Z 5 0, iv a1, iv a2, iv a3, iv a4, iv a5, iv a6, iv v7, iv v8] [] g := by
  intro n
  induction n with
  | zero => intro _ _ _; exact j_none
  | succ n ih =>
    intro v7 v8 g
    unfold L_X5_join_128
    refine j_lift (fun _ k => g_iload (pc := 128) dX5_join_128 rfl k) ?_
    refine j_lift (fun _ k => g_bipush (pc := 130) (v := 4294967294) dX5_join_130 (by decide +kernel) k) ?_
    refine j_icmp_eq (pc := 132) 159 dX5_join_132 (by decide) (fun h1 => ?_) (fun h1 => ?_)
    · exact hk v7 v8 g
    · refine j_lift (fun _ k => g_aload_n (pc := 135) dX5_join_135 rfl k) ?_
      refine j_lift (fun _ k => fg_X5_join_83 (pc := 136) hb dX5_join_136 k) ?_
      refine j_lift (fun _ k => g_iload (pc := 139) dX5_join_139 rfl k) ?_
      refine j_lift (fun _ k => g_iload (pc := 141) dX5_join_141 rfl k) ?_
      refine j_ck (fun c2 => ?_)
      refine j_w (fun _ k => g_iastore (pc := 143) (k := 62) (i := 0) (n := 25) (by rw [hb]; decide) (fun _ => rfl) (by decide) c2 dX5_join_143 k) (fun g3 => ?_)
      refine j_lift (fun _ k => g_iinc (pc := 144) (v := v7 + 1) (ls' := [rv Z 5 0, iv a1, iv a2, iv a3, iv a4, iv a5, iv a6, iv (v7 + 1), iv v8]) dX5_join_144 (Nat.le_of_ble_eq_true rfl) rfl (mg_inc _) rfl k) ?_
      refine j_lift (fun _ k => g_aload_n (pc := 147) dX5_join_147 rfl k) ?_
      refine j_lift (fun _ k => fg_X5_join_13 (pc := 148) hb dX5_join_148 k) ?_
      refine j_lift (fun _ k => g_iload (pc := 151) dX5_join_151 rfl k) ?_
      refine j_ck (fun c4 => ?_)
      refine j_lift (fun _ k => g_iaload (pc := 153) (k := 36) (i := 0) (n := 24) (by rw [hb]; decide) rfl (by decide) c4 dX5_join_153 k) ?_
      refine j_lift (fun _ k => g_istore (pc := 154) (ls' := [rv Z 5 0, iv a1, iv a2, iv a3, iv a4, iv a5, iv a6, iv (v7 + 1), iv (g3 36 0 v8)]) dX5_join_154 (Nat.le_of_ble_eq_true rfl) (Nat.le_of_ble_eq_true rfl) rfl k) ?_
      refine j_lift (fun _ k => g_goto (pc := 156) 128 dX5_join_156 (by decide) k) ?_
      exact ih (v7 + 1) (g3 36 0 v8) g3
def L_X5_join_162 (a1 a2 a3 a4 a5 a6 a7 : Nat) (k : Nat → mg_F → mo) : Nat → Nat → mg_F → mo
  | 0, _, _ => none
  | n + 1, v8, g => if sv (v8 + 1) < sv a7 then (ck (v8 < 25) <| ck (g 62 0 v8 < 24) <| if sv (g 37 0 (g 62 0 v8)) = 0 then (L_X5_join_162 a1 a2 a3 a4 a5 a6 a7 k n (v8 + 1) g) else (some (4294967291, g))) else (k v8 g)
theorem l_X5_join_162 {K : mg_Kt} {Z : mg_Zt} (hb : Z.2.2.1 = true) {a1 a2 a3 a4 a5 a6 a7 : Nat} (ha1 : a1 < 24) (ha2 : a2 < 24) (ha4 : a4 < 24) {k : Nat → mg_F → mo} (hk : ∀ (v8 : Nat) (g : mg_F), mj K Z mX5_join (k v8 g) 195 [rv Z 5 0, iv a1, iv a2, iv a3, iv a4, iv a5, iv a6, iv a7, iv v8] [] g) : ∀ (n : Nat) (v8 : Nat) (g : mg_F), mj K Z mX5_join (L_X5_join_162 a1 a2 a3 a4 a5 a6 a7 k n v8 g) 162 [rv Z 5 0, iv a1, iv a2, iv a3, iv a4, iv a5, iv a6, iv a7, iv v8] [] g := by
  intro n
  induction n with
  | zero => intro _ _; exact j_none
  | succ n ih =>
    intro v8 g
    unfold L_X5_join_162
    refine j_lift (fun _ k => g_iload (pc := 162) dX5_join_162 rfl k) ?_
    refine j_lift (fun _ k => g_iconst (pc := 164) (v := 1) dX5_join_164 (by decide +kernel) k) ?_
    refine j_lift (fun _ k => g_iadd (pc := 165) (a := v8) (b := 1) dX5_join_165 k) ?_
    refine j_lift (fun _ k => g_iload (pc := 166) dX5_join_166 rfl k) ?_
    refine j_icmp_ge (pc := 168) 195 dX5_join_168 (by decide) (fun h1 => ?_) (fun h1 => ?_)
    · exact hk v8 g
    · refine j_lift (fun _ k => g_aload_n (pc := 171) dX5_join_171 rfl k) ?_
      refine j_lift (fun _ k => fg_X5_join_17 (pc := 172) hb dX5_join_172 k) ?_
      refine j_lift (fun _ k => g_aload_n (pc := 175) dX5_join_175 rfl k) ?_
      refine j_lift (fun _ k => fg_X5_join_83 (pc := 176) hb dX5_join_176 k) ?_
      refine j_lift (fun _ k => g_iload (pc := 179) dX5_join_179 rfl k) ?_
      refine j_ck (fun c2 => ?_)
      refine j_lift (fun _ k => g_iaload (pc := 181) (k := 62) (i := 0) (n := 25) (by rw [hb]; decide) rfl (by decide) c2 dX5_join_181 k) ?_
      refine j_ck (fun c3 => ?_)
      refine j_lift (fun _ k => g_baload (pc := 182) (k := 37) (i := 0) (n := 24) (by rw [hb]; decide) rfl (by decide) c3 dX5_join_182 k) ?_
      refine j_if_eq (pc := 183) 189 dX5_join_183 (by decide) (fun h4 => ?_) (fun h4 => ?_)
      · refine j_lift (fun _ k => g_iinc (pc := 189) (v := v8 + 1) (ls' := [rv Z 5 0, iv a1, iv a2, iv a3, iv a4, iv a5, iv a6, iv a7, iv (v8 + 1)]) dX5_join_189 (Nat.le_of_ble_eq_true rfl) rfl (mg_inc _) rfl k) ?_
        refine j_lift (fun _ k => g_goto (pc := 192) 162 dX5_join_192 (by decide) k) ?_
        exact ih (v8 + 1) g
      · refine j_lift (fun _ k => g_bipush (pc := 186) (v := 4294967291) dX5_join_186 (by decide +kernel) k) ?_
        exact j_iret (pc := 188) dX5_join_188 ⟨mg_narI _, Or.inl rfl⟩ rfl
def L_X5_join_201 (a1 a2 a3 a4 a5 a6 a7 : Nat) (k : Nat → mg_F → mo) : Nat → Nat → mg_F → mo
  | 0, _, _ => none
  | n + 1, v8, g => if 0 < sv v8 then (ck (v8 < 25) <| ck (sb v8 1 < 25) <| ck (g 62 0 v8 < 24) <| wr (mg_up g 36 0 (g 62 0 v8) (g 62 0 (sb v8 1))) fun g5 => L_X5_join_201 a1 a2 a3 a4 a5 a6 a7 k n (sb v8 1) g5) else (k v8 g)
theorem l_X5_join_201 {K : mg_Kt} {Z : mg_Zt} (hb : Z.2.2.1 = true) {a1 a2 a3 a4 a5 a6 a7 : Nat} (ha1 : a1 < 24) (ha2 : a2 < 24) (ha4 : a4 < 24) {k : Nat → mg_F → mo} (hk : ∀ (v8 : Nat) (g : mg_F), mj K Z mX5_join (k v8 g) 233 [rv Z 5 0, iv a1, iv a2, iv a3, iv a4, iv a5, iv a6, iv a7, iv v8] [] g) : ∀ (n : Nat) (v8 : Nat) (g : mg_F), mj K Z mX5_join (L_X5_join_201 a1 a2 a3 a4 a5 a6 a7 k n v8 g) 201 [rv Z 5 0, iv a1, iv a2, iv a3, iv a4, iv a5, iv a6, iv a7, iv v8] [] g := by
  intro n
  induction n with
  | zero => intro _ _; exact j_none
  | succ n ih =>
    intro v8 g
    unfold L_X5_join_201
    refine j_lift (fun _ k => g_iload (pc := 201) dX5_join_201 rfl k) ?_
    refine j_if_le (pc := 203) 233 dX5_join_203 (by decide) (fun h1 => ?_) (fun h1 => ?_)
    · exact hk v8 g
    · refine j_lift (fun _ k => g_aload_n (pc := 206) dX5_join_206 rfl k) ?_
      refine j_lift (fun _ k => fg_X5_join_13 (pc := 207) hb dX5_join_207 k) ?_
      refine j_lift (fun _ k => g_aload_n (pc := 210) dX5_join_210 rfl k) ?_
      refine j_lift (fun _ k => fg_X5_join_83 (pc := 211) hb dX5_join_211 k) ?_
      refine j_lift (fun _ k => g_iload (pc := 214) dX5_join_214 rfl k) ?_
      refine j_ck (fun c2 => ?_)
      refine j_lift (fun _ k => g_iaload (pc := 216) (k := 62) (i := 0) (n := 25) (by rw [hb]; decide) rfl (by decide) c2 dX5_join_216 k) ?_
      refine j_lift (fun _ k => g_aload_n (pc := 217) dX5_join_217 rfl k) ?_
      refine j_lift (fun _ k => fg_X5_join_83 (pc := 218) hb dX5_join_218 k) ?_
      refine j_lift (fun _ k => g_iload (pc := 221) dX5_join_221 rfl k) ?_
      refine j_lift (fun _ k => g_iconst (pc := 223) (v := 1) dX5_join_223 (by decide +kernel) k) ?_
      refine j_lift (fun _ k => g_sb (pc := 224) (a := v8) (b := 1) dX5_join_224 k) ?_
      refine j_ck (fun c3 => ?_)
      refine j_lift (fun _ k => g_iaload (pc := 225) (k := 62) (i := 0) (n := 25) (by rw [hb]; decide) rfl (by decide) c3 dX5_join_225 k) ?_
      refine j_ck (fun c4 => ?_)
      refine j_w (fun _ k => g_iastore (pc := 226) (k := 36) (i := 0) (n := 24) (by rw [hb]; decide) (fun _ => rfl) (by decide) c4 dX5_join_226 k) (fun g5 => ?_)
      refine j_lift (fun _ k => g_iinc (pc := 227) (v := sb v8 1) (ls' := [rv Z 5 0, iv a1, iv a2, iv a3, iv a4, iv a5, iv a6, iv a7, iv (sb v8 1)]) dX5_join_227 (Nat.le_of_ble_eq_true rfl) rfl (nI_dec _) rfl k) ?_
      refine j_lift (fun _ k => g_goto (pc := 230) 201 dX5_join_230 (by decide) k) ?_
      exact ih (sb v8 1) g5
def P_X5_join (a b : Nat) (g : mg_F) : mo := bd (P_X5_part g) fun r1 g2 => if sv (g2 5 0 1) = 0 then (some (4294967295, g2)) else (bd (P_X5_isStation a g2) fun r4 g5 => if sv r4 = 0 then (some (4294967295, g5)) else (bd (P_X5_isStation b g5) fun r7 g8 => if sv r7 = 0 then (some (4294967295, g8)) else (ck (a < 24) <| ck (b < 24) <| if sv (g8 61 0 a) = sv (g8 61 0 b) then (some (4294967295, g8)) else (bd (P_X5_rightAt g8) fun r13 g14 => ck (r13 < 24) <| if sv (g14 61 0 r13) = sv (g14 61 0 a) then (jn (α := Nat) (fun x20 g21 => jn (α := Nat) (fun x25 g26 => L_X5_join_128 a b r1 r13 x20 x25 (fun w27 w28 g29 => L_X5_join_162 a b r1 r13 x20 x25 w27 (fun w30 g31 => L_X5_join_201 a b r1 r13 x20 x25 w27 (fun w32 g33 => ck (x20 < 24) <| wr (mg_up g33 36 0 x20 x25) fun g35 => bd (P_X5_join2 a b 1 g35) fun _ g37 => ck ((24 * a) + b < 576) <| wr (mg_up g37 49 0 ((24 * a) + b) 0) fun g39 => ck ((24 * b) + a < 576) <| wr (mg_up g39 49 0 ((24 * b) + a) 0) fun g41 => ck ((24 * a) + b < 576) <| wr (mg_up g41 50 0 ((24 * a) + b) 0) fun g43 => ck ((24 * b) + a < 576) <| wr (mg_up g43 50 0 ((24 * b) + a) 0) fun g45 => some (0, g45)) 4000 (sb w27 1) g31) 4000 0 g29) 4000 0 x20 g26) fun kj23 => if sv x20 = sv a then (kj23 b g21) else (kj23 a g21)) fun kj18 => if sv (g14 61 0 r13) = sv (g14 61 0 a) then (kj18 b g14) else (kj18 a g14)) else (if sv (g14 61 0 r13) = sv (g14 61 0 b) then (jn (α := Nat) (fun x50 g51 => jn (α := Nat) (fun x55 g56 => L_X5_join_128 a b r1 r13 x50 x55 (fun w57 w58 g59 => L_X5_join_162 a b r1 r13 x50 x55 w57 (fun w60 g61 => L_X5_join_201 a b r1 r13 x50 x55 w57 (fun w62 g63 => ck (x50 < 24) <| wr (mg_up g63 36 0 x50 x55) fun g65 => bd (P_X5_join2 a b 1 g65) fun _ g67 => ck ((24 * a) + b < 576) <| wr (mg_up g67 49 0 ((24 * a) + b) 0) fun g69 => ck ((24 * b) + a < 576) <| wr (mg_up g69 49 0 ((24 * b) + a) 0) fun g71 => ck ((24 * a) + b < 576) <| wr (mg_up g71 50 0 ((24 * a) + b) 0) fun g73 => ck ((24 * b) + a < 576) <| wr (mg_up g73 50 0 ((24 * b) + a) 0) fun g75 => some (0, g75)) 4000 (sb w57 1) g61) 4000 0 g59) 4000 0 x50 g56) fun kj53 => if sv x50 = sv a then (kj53 b g51) else (kj53 a g51)) fun kj48 => if sv (g14 61 0 r13) = sv (g14 61 0 a) then (kj48 b g14) else (kj48 a g14)) else (some (4294967295, g14)))))))
theorem p_X5_join {l : Launch} {Z : mg_Zt} {a b : Nat} {g : mg_F} (hb : Z.2.2.1 = true) : ∀ (r : Nat) (g' : mg_F), P_X5_join a b g = some (r, g') → mg_C l Z mX5_join [rv Z 5 0, iv a, iv b] g (mp mX5_join r g') := by
  refine mC_of (by decide) rfl (Nat.le_of_ble_eq_true rfl) (List.forall_mem_cons.mpr ⟨rfl, (List.forall_mem_cons.mpr ⟨rfl, (List.forall_mem_cons.mpr ⟨rfl, (fun _ h => nomatch h)⟩)⟩)⟩) (fun K => ?_)
  unfold P_X5_join
  refine j_lift (fun _ k => g_aload_n (pc := 0) dX5_join_0 rfl k) ?_
  refine j_callVi (pc := 1) (Y' := mX5_part) (As := []) (st := []) (k := 5) (i := 0) (p_X5_part hb) gX5_join_X5_part rfl (by rw [hb]; decide) rfl rfl (na := 0) rfl (by decide +kernel) (by decide) (by decide) (Nat.le_of_ble_eq_true rfl) dX5_join_1 (fun r1 g2 => ?_)
  refine j_lift (fun _ k => g_istore_n (pc := 4) (ls' := [rv Z 5 0, iv a, iv b, iv r1]) dX5_join_4 (Nat.le_of_ble_eq_true rfl) (Nat.le_of_ble_eq_true rfl) rfl k) ?_
  refine j_lift (fun _ k => g_aload_n (pc := 5) dX5_join_5 rfl k) ?_
  refine j_lift (fun _ k => fg_X5_join_105 (pc := 6) hb dX5_join_6 k) ?_
  refine j_if_eq (pc := 9) 43 dX5_join_9 (by decide) (fun h3 => ?_) (fun h3 => ?_)
  · refine j_lift (fun _ k => g_iconst (pc := 43) (v := 4294967295) dX5_join_43 (by decide +kernel) k) ?_
    exact j_iret (pc := 44) dX5_join_44 ⟨mg_narI _, Or.inl rfl⟩ rfl
  · refine j_lift (fun _ k => g_aload_n (pc := 12) dX5_join_12 rfl k) ?_
    refine j_lift (fun _ k => g_iload_n (pc := 13) dX5_join_13 rfl k) ?_
    refine j_callVi (pc := 14) (Y' := mX5_isStation) (As := [iv a]) (st := []) (k := 5) (i := 0) (p_X5_isStation hb) gX5_join_X5_isStation rfl (by rw [hb]; decide) rfl rfl (na := 1) rfl (by decide +kernel) (by decide) (by decide) (Nat.le_of_ble_eq_true rfl) dX5_join_14 (fun r4 g5 => ?_)
    refine j_if_eq (pc := 17) 43 dX5_join_17 (by decide) (fun h6 => ?_) (fun h6 => ?_)
    · refine j_lift (fun _ k => g_iconst (pc := 43) (v := 4294967295) dX5_join_43 (by decide +kernel) k) ?_
      exact j_iret (pc := 44) dX5_join_44 ⟨mg_narI _, Or.inl rfl⟩ rfl
    · refine j_lift (fun _ k => g_aload_n (pc := 20) dX5_join_20 rfl k) ?_
      refine j_lift (fun _ k => g_iload_n (pc := 21) dX5_join_21 rfl k) ?_
      refine j_callVi (pc := 22) (Y' := mX5_isStation) (As := [iv b]) (st := []) (k := 5) (i := 0) (p_X5_isStation hb) gX5_join_X5_isStation rfl (by rw [hb]; decide) rfl rfl (na := 1) rfl (by decide +kernel) (by decide) (by decide) (Nat.le_of_ble_eq_true rfl) dX5_join_22 (fun r7 g8 => ?_)
      refine j_if_eq (pc := 25) 43 dX5_join_25 (by decide) (fun h9 => ?_) (fun h9 => ?_)
      · refine j_lift (fun _ k => g_iconst (pc := 43) (v := 4294967295) dX5_join_43 (by decide +kernel) k) ?_
        exact j_iret (pc := 44) dX5_join_44 ⟨mg_narI _, Or.inl rfl⟩ rfl
      · refine j_lift (fun _ k => g_aload_n (pc := 28) dX5_join_28 rfl k) ?_
        refine j_lift (fun _ k => fg_X5_join_80 (pc := 29) hb dX5_join_29 k) ?_
        refine j_lift (fun _ k => g_iload_n (pc := 32) dX5_join_32 rfl k) ?_
        refine j_ck (fun c10 => ?_)
        refine j_lift (fun _ k => g_iaload (pc := 33) (k := 61) (i := 0) (n := 24) (by rw [hb]; decide) rfl (by decide) c10 dX5_join_33 k) ?_
        refine j_lift (fun _ k => g_aload_n (pc := 34) dX5_join_34 rfl k) ?_
        refine j_lift (fun _ k => fg_X5_join_80 (pc := 35) hb dX5_join_35 k) ?_
        refine j_lift (fun _ k => g_iload_n (pc := 38) dX5_join_38 rfl k) ?_
        refine j_ck (fun c11 => ?_)
        refine j_lift (fun _ k => g_iaload (pc := 39) (k := 61) (i := 0) (n := 24) (by rw [hb]; decide) rfl (by decide) c11 dX5_join_39 k) ?_
        refine j_icmp_ne (pc := 40) 45 dX5_join_40 (by decide) (fun h12 => ?_) (fun h12 => ?_)
        · refine j_lift (fun _ k => g_aload_n (pc := 45) dX5_join_45 rfl k) ?_
          refine j_callVi (pc := 46) (Y' := mX5_rightAt) (As := []) (st := []) (k := 5) (i := 0) (p_X5_rightAt hb) gX5_join_X5_rightAt rfl (by rw [hb]; decide) rfl rfl (na := 0) rfl (by decide +kernel) (by decide) (by decide) (Nat.le_of_ble_eq_true rfl) dX5_join_46 (fun r13 g14 => ?_)
          refine j_lift (fun _ k => g_istore (pc := 49) (ls' := [rv Z 5 0, iv a, iv b, iv r1, iv r13]) dX5_join_49 (Nat.le_of_ble_eq_true rfl) (Nat.le_of_ble_eq_true rfl) rfl k) ?_
          refine j_lift (fun _ k => g_aload_n (pc := 51) dX5_join_51 rfl k) ?_
          refine j_lift (fun _ k => fg_X5_join_80 (pc := 52) hb dX5_join_52 k) ?_
          refine j_lift (fun _ k => g_iload (pc := 55) dX5_join_55 rfl k) ?_
          refine j_ck (fun c15 => ?_)
          refine j_lift (fun _ k => g_iaload (pc := 57) (k := 61) (i := 0) (n := 24) (by rw [hb]; decide) rfl (by decide) c15 dX5_join_57 k) ?_
          refine j_lift (fun _ k => g_aload_n (pc := 58) dX5_join_58 rfl k) ?_
          refine j_lift (fun _ k => fg_X5_join_80 (pc := 59) hb dX5_join_59 k) ?_
          refine j_lift (fun _ k => g_iload_n (pc := 62) dX5_join_62 rfl k) ?_
          refine j_lift (fun _ k => g_iaload (pc := 63) (k := 61) (i := 0) (n := 24) (by rw [hb]; decide) rfl (by decide) c10 dX5_join_63 k) ?_
          refine j_icmp_eq (pc := 64) 85 dX5_join_64 (by decide) (fun h16 => ?_) (fun h16 => ?_)
          · refine j_lift (fun _ k => g_aload_n (pc := 85) dX5_join_85 rfl k) ?_
            refine j_lift (fun _ k => fg_X5_join_80 (pc := 86) hb dX5_join_86 k) ?_
            refine j_lift (fun _ k => g_iload (pc := 89) dX5_join_89 rfl k) ?_
            refine j_lift (fun _ k => g_iaload (pc := 91) (k := 61) (i := 0) (n := 24) (by rw [hb]; decide) rfl (by decide) c15 dX5_join_91 k) ?_
            refine j_lift (fun _ k => g_aload_n (pc := 92) dX5_join_92 rfl k) ?_
            refine j_lift (fun _ k => fg_X5_join_80 (pc := 93) hb dX5_join_93 k) ?_
            refine j_lift (fun _ k => g_iload_n (pc := 96) dX5_join_96 rfl k) ?_
            refine j_lift (fun _ k => g_iaload (pc := 97) (k := 61) (i := 0) (n := 24) (by rw [hb]; decide) rfl (by decide) c10 dX5_join_97 k) ?_
            refine j_jn (α := Nat) 106 (fun x20 => [rv Z 5 0, iv a, iv b, iv r1, iv r13]) (fun x20 => [iv x20]) (fun x20 g21 => ?_) (fun kj18 hk19 => ?_)
            · refine j_lift (fun _ k => g_istore (pc := 106) (ls' := [rv Z 5 0, iv a, iv b, iv r1, iv r13, iv x20]) dX5_join_106 (Nat.le_of_ble_eq_true rfl) (Nat.le_of_ble_eq_true rfl) rfl k) ?_
              refine j_lift (fun _ k => g_iload (pc := 108) dX5_join_108 rfl k) ?_
              refine j_lift (fun _ k => g_iload_n (pc := 110) dX5_join_110 rfl k) ?_
              refine j_jn (α := Nat) 119 (fun x25 => [rv Z 5 0, iv a, iv b, iv r1, iv r13, iv x20]) (fun x25 => [iv x25]) (fun x25 g26 => ?_) (fun kj23 hk24 => ?_)
              · refine j_lift (fun _ k => g_istore (pc := 119) (ls' := [rv Z 5 0, iv a, iv b, iv r1, iv r13, iv x20, iv x25]) dX5_join_119 (Nat.le_of_ble_eq_true rfl) (Nat.le_of_ble_eq_true rfl) rfl k) ?_
                refine j_lift (fun _ k => g_iconst (pc := 121) (v := 0) dX5_join_121 (by decide +kernel) k) ?_
                refine j_lift (fun _ k => g_istore (pc := 122) (ls' := [rv Z 5 0, iv a, iv b, iv r1, iv r13, iv x20, iv x25, iv 0]) dX5_join_122 (Nat.le_of_ble_eq_true rfl) (Nat.le_of_ble_eq_true rfl) rfl k) ?_
                refine j_lift (fun _ k => g_iload (pc := 124) dX5_join_124 rfl k) ?_
                refine j_lift (fun _ k => g_istore (pc := 126) (ls' := [rv Z 5 0, iv a, iv b, iv r1, iv r13, iv x20, iv x25, iv 0, iv x20]) dX5_join_126 (Nat.le_of_ble_eq_true rfl) (Nat.le_of_ble_eq_true rfl) rfl k) ?_
                refine l_X5_join_128 hb c10 c11 c15 (fun w27 w28 g29 => ?_) 4000 0 x20 g26
                refine j_lift (fun _ k => g_iconst (pc := 159) (v := 0) dX5_join_159 (by decide +kernel) k) ?_
                refine j_lift (fun _ k => g_istore (pc := 160) (ls' := [rv Z 5 0, iv a, iv b, iv r1, iv r13, iv x20, iv x25, iv w27, iv 0]) dX5_join_160 (Nat.le_of_ble_eq_true rfl) (Nat.le_of_ble_eq_true rfl) rfl k) ?_
                refine l_X5_join_162 hb c10 c11 c15 (fun w30 g31 => ?_) 4000 0 g29
                refine j_lift (fun _ k => g_iload (pc := 195) dX5_join_195 rfl k) ?_
                refine j_lift (fun _ k => g_iconst (pc := 197) (v := 1) dX5_join_197 (by decide +kernel) k) ?_
                refine j_lift (fun _ k => g_sb (pc := 198) (a := w27) (b := 1) dX5_join_198 k) ?_
                refine j_lift (fun _ k => g_istore (pc := 199) (ls' := [rv Z 5 0, iv a, iv b, iv r1, iv r13, iv x20, iv x25, iv w27, iv (sb w27 1)]) dX5_join_199 (Nat.le_of_ble_eq_true rfl) (Nat.le_of_ble_eq_true rfl) rfl k) ?_
                refine l_X5_join_201 hb c10 c11 c15 (fun w32 g33 => ?_) 4000 (sb w27 1) g31
                refine j_lift (fun _ k => g_aload_n (pc := 233) dX5_join_233 rfl k) ?_
                refine j_lift (fun _ k => fg_X5_join_13 (pc := 234) hb dX5_join_234 k) ?_
                refine j_lift (fun _ k => g_iload (pc := 237) dX5_join_237 rfl k) ?_
                refine j_lift (fun _ k => g_iload (pc := 239) dX5_join_239 rfl k) ?_
                refine j_ck (fun c34 => ?_)
                refine j_w (fun _ k => g_iastore (pc := 241) (k := 36) (i := 0) (n := 24) (by rw [hb]; decide) (fun _ => rfl) (by decide) c34 dX5_join_241 k) (fun g35 => ?_)
                refine j_lift (fun _ k => g_aload_n (pc := 242) dX5_join_242 rfl k) ?_
                refine j_lift (fun _ k => g_iload_n (pc := 243) dX5_join_243 rfl k) ?_
                refine j_lift (fun _ k => g_iload_n (pc := 244) dX5_join_244 rfl k) ?_
                refine j_lift (fun _ k => g_iconst (pc := 245) (v := 1) dX5_join_245 (by decide +kernel) k) ?_
                refine j_callVv (pc := 246) (Y' := mX5_join2) (As := [iv a, iv b, iv 1]) (st := []) (k := 5) (i := 0) (p_X5_join2 hb) gX5_join_X5_join2 rfl (by rw [hb]; decide) rfl rfl (na := 3) rfl (by decide +kernel) (by decide) (by decide) (Nat.le_of_ble_eq_true rfl) dX5_join_246 (fun _ g37 => ?_)
                refine j_lift (fun _ k => g_aload_n (pc := 249) dX5_join_249 rfl k) ?_
                refine j_lift (fun _ k => fg_X5_join_50 (pc := 250) hb dX5_join_250 k) ?_
                refine j_lift (fun _ k => g_bipush (pc := 253) (v := 24) dX5_join_253 (by decide +kernel) k) ?_
                refine j_lift (fun _ k => g_iload_n (pc := 255) dX5_join_255 rfl k) ?_
                refine j_lift (fun _ k => g_imul (pc := 256) (a := 24) (b := a) dX5_join_256 k) ?_
                refine j_lift (fun _ k => g_iload_n (pc := 257) dX5_join_257 rfl k) ?_
                refine j_lift (fun _ k => g_iadd (pc := 258) (a := 24 * a) (b := b) dX5_join_258 k) ?_
                refine j_lift (fun _ k => g_iconst (pc := 259) (v := 0) dX5_join_259 (by decide +kernel) k) ?_
                refine j_ck (fun c38 => ?_)
                refine j_w (fun _ k => g_iastore (pc := 260) (k := 49) (i := 0) (n := 576) (by rw [hb]; decide) (fun _ => rfl) (by decide) c38 dX5_join_260 k) (fun g39 => ?_)
                refine j_lift (fun _ k => g_aload_n (pc := 261) dX5_join_261 rfl k) ?_
                refine j_lift (fun _ k => fg_X5_join_50 (pc := 262) hb dX5_join_262 k) ?_
                refine j_lift (fun _ k => g_bipush (pc := 265) (v := 24) dX5_join_265 (by decide +kernel) k) ?_
                refine j_lift (fun _ k => g_iload_n (pc := 267) dX5_join_267 rfl k) ?_
                refine j_lift (fun _ k => g_imul (pc := 268) (a := 24) (b := b) dX5_join_268 k) ?_
                refine j_lift (fun _ k => g_iload_n (pc := 269) dX5_join_269 rfl k) ?_
                refine j_lift (fun _ k => g_iadd (pc := 270) (a := 24 * b) (b := a) dX5_join_270 k) ?_
                refine j_lift (fun _ k => g_iconst (pc := 271) (v := 0) dX5_join_271 (by decide +kernel) k) ?_
                refine j_ck (fun c40 => ?_)
                refine j_w (fun _ k => g_iastore (pc := 272) (k := 49) (i := 0) (n := 576) (by rw [hb]; decide) (fun _ => rfl) (by decide) c40 dX5_join_272 k) (fun g41 => ?_)
                refine j_lift (fun _ k => g_aload_n (pc := 273) dX5_join_273 rfl k) ?_
                refine j_lift (fun _ k => fg_X5_join_53 (pc := 274) hb dX5_join_274 k) ?_
                refine j_lift (fun _ k => g_bipush (pc := 277) (v := 24) dX5_join_277 (by decide +kernel) k) ?_
                refine j_lift (fun _ k => g_iload_n (pc := 279) dX5_join_279 rfl k) ?_
                refine j_lift (fun _ k => g_imul (pc := 280) (a := 24) (b := a) dX5_join_280 k) ?_
                refine j_lift (fun _ k => g_iload_n (pc := 281) dX5_join_281 rfl k) ?_
                refine j_lift (fun _ k => g_iadd (pc := 282) (a := 24 * a) (b := b) dX5_join_282 k) ?_
                refine j_lift (fun _ k => g_iconst (pc := 283) (v := 0) dX5_join_283 (by decide +kernel) k) ?_
                refine j_ck (fun c42 => ?_)
                refine j_w (fun _ k => g_iastore (pc := 284) (k := 50) (i := 0) (n := 576) (by rw [hb]; decide) (fun _ => rfl) (by decide) c42 dX5_join_284 k) (fun g43 => ?_)
                refine j_lift (fun _ k => g_aload_n (pc := 285) dX5_join_285 rfl k) ?_
                refine j_lift (fun _ k => fg_X5_join_53 (pc := 286) hb dX5_join_286 k) ?_
                refine j_lift (fun _ k => g_bipush (pc := 289) (v := 24) dX5_join_289 (by decide +kernel) k) ?_
                refine j_lift (fun _ k => g_iload_n (pc := 291) dX5_join_291 rfl k) ?_
                refine j_lift (fun _ k => g_imul (pc := 292) (a := 24) (b := b) dX5_join_292 k) ?_
                refine j_lift (fun _ k => g_iload_n (pc := 293) dX5_join_293 rfl k) ?_
                refine j_lift (fun _ k => g_iadd (pc := 294) (a := 24 * b) (b := a) dX5_join_294 k) ?_
                refine j_lift (fun _ k => g_iconst (pc := 295) (v := 0) dX5_join_295 (by decide +kernel) k) ?_
                refine j_ck (fun c44 => ?_)
                refine j_w (fun _ k => g_iastore (pc := 296) (k := 50) (i := 0) (n := 576) (by rw [hb]; decide) (fun _ => rfl) (by decide) c44 dX5_join_296 k) (fun g45 => ?_)
                refine j_lift (fun _ k => g_iconst (pc := 297) (v := 0) dX5_join_297 (by decide +kernel) k) ?_
                exact j_iret (pc := 298) dX5_join_298 ⟨mg_narI _, Or.inl rfl⟩ rfl
              · refine j_icmp_ne (pc := 111) 118 dX5_join_111 (by decide) (fun h22 => ?_) (fun h22 => ?_)
                · refine j_lift (fun _ k => g_iload_n (pc := 118) dX5_join_118 rfl k) ?_
                  exact hk24 a g21
                · refine j_lift (fun _ k => g_iload_n (pc := 114) dX5_join_114 rfl k) ?_
                  refine j_lift (fun _ k => g_goto (pc := 115) 119 dX5_join_115 (by decide) k) ?_
                  exact hk24 b g21
            · refine j_icmp_ne (pc := 98) 105 dX5_join_98 (by decide) (fun h17 => ?_) (fun h17 => ?_)
              · refine j_lift (fun _ k => g_iload_n (pc := 105) dX5_join_105 rfl k) ?_
                exact hk19 a g14
              · refine j_lift (fun _ k => g_iload_n (pc := 101) dX5_join_101 rfl k) ?_
                refine j_lift (fun _ k => g_goto (pc := 102) 106 dX5_join_102 (by decide) k) ?_
                exact hk19 b g14
          · refine j_lift (fun _ k => g_aload_n (pc := 67) dX5_join_67 rfl k) ?_
            refine j_lift (fun _ k => fg_X5_join_80 (pc := 68) hb dX5_join_68 k) ?_
            refine j_lift (fun _ k => g_iload (pc := 71) dX5_join_71 rfl k) ?_
            refine j_lift (fun _ k => g_iaload (pc := 73) (k := 61) (i := 0) (n := 24) (by rw [hb]; decide) rfl (by decide) c15 dX5_join_73 k) ?_
            refine j_lift (fun _ k => g_aload_n (pc := 74) dX5_join_74 rfl k) ?_
            refine j_lift (fun _ k => fg_X5_join_80 (pc := 75) hb dX5_join_75 k) ?_
            refine j_lift (fun _ k => g_iload_n (pc := 78) dX5_join_78 rfl k) ?_
            refine j_lift (fun _ k => g_iaload (pc := 79) (k := 61) (i := 0) (n := 24) (by rw [hb]; decide) rfl (by decide) c11 dX5_join_79 k) ?_
            refine j_icmp_eq (pc := 80) 85 dX5_join_80 (by decide) (fun h46 => ?_) (fun h46 => ?_)
            · refine j_lift (fun _ k => g_aload_n (pc := 85) dX5_join_85 rfl k) ?_
              refine j_lift (fun _ k => fg_X5_join_80 (pc := 86) hb dX5_join_86 k) ?_
              refine j_lift (fun _ k => g_iload (pc := 89) dX5_join_89 rfl k) ?_
              refine j_lift (fun _ k => g_iaload (pc := 91) (k := 61) (i := 0) (n := 24) (by rw [hb]; decide) rfl (by decide) c15 dX5_join_91 k) ?_
              refine j_lift (fun _ k => g_aload_n (pc := 92) dX5_join_92 rfl k) ?_
              refine j_lift (fun _ k => fg_X5_join_80 (pc := 93) hb dX5_join_93 k) ?_
              refine j_lift (fun _ k => g_iload_n (pc := 96) dX5_join_96 rfl k) ?_
              refine j_lift (fun _ k => g_iaload (pc := 97) (k := 61) (i := 0) (n := 24) (by rw [hb]; decide) rfl (by decide) c10 dX5_join_97 k) ?_
              refine j_jn (α := Nat) 106 (fun x50 => [rv Z 5 0, iv a, iv b, iv r1, iv r13]) (fun x50 => [iv x50]) (fun x50 g51 => ?_) (fun kj48 hk49 => ?_)
              · refine j_lift (fun _ k => g_istore (pc := 106) (ls' := [rv Z 5 0, iv a, iv b, iv r1, iv r13, iv x50]) dX5_join_106 (Nat.le_of_ble_eq_true rfl) (Nat.le_of_ble_eq_true rfl) rfl k) ?_
                refine j_lift (fun _ k => g_iload (pc := 108) dX5_join_108 rfl k) ?_
                refine j_lift (fun _ k => g_iload_n (pc := 110) dX5_join_110 rfl k) ?_
                refine j_jn (α := Nat) 119 (fun x55 => [rv Z 5 0, iv a, iv b, iv r1, iv r13, iv x50]) (fun x55 => [iv x55]) (fun x55 g56 => ?_) (fun kj53 hk54 => ?_)
                · refine j_lift (fun _ k => g_istore (pc := 119) (ls' := [rv Z 5 0, iv a, iv b, iv r1, iv r13, iv x50, iv x55]) dX5_join_119 (Nat.le_of_ble_eq_true rfl) (Nat.le_of_ble_eq_true rfl) rfl k) ?_
                  refine j_lift (fun _ k => g_iconst (pc := 121) (v := 0) dX5_join_121 (by decide +kernel) k) ?_
                  refine j_lift (fun _ k => g_istore (pc := 122) (ls' := [rv Z 5 0, iv a, iv b, iv r1, iv r13, iv x50, iv x55, iv 0]) dX5_join_122 (Nat.le_of_ble_eq_true rfl) (Nat.le_of_ble_eq_true rfl) rfl k) ?_
                  refine j_lift (fun _ k => g_iload (pc := 124) dX5_join_124 rfl k) ?_
                  refine j_lift (fun _ k => g_istore (pc := 126) (ls' := [rv Z 5 0, iv a, iv b, iv r1, iv r13, iv x50, iv x55, iv 0, iv x50]) dX5_join_126 (Nat.le_of_ble_eq_true rfl) (Nat.le_of_ble_eq_true rfl) rfl k) ?_
                  refine l_X5_join_128 hb c10 c11 c15 (fun w57 w58 g59 => ?_) 4000 0 x50 g56
                  refine j_lift (fun _ k => g_iconst (pc := 159) (v := 0) dX5_join_159 (by decide +kernel) k) ?_
                  refine j_lift (fun _ k => g_istore (pc := 160) (ls' := [rv Z 5 0, iv a, iv b, iv r1, iv r13, iv x50, iv x55, iv w57, iv 0]) dX5_join_160 (Nat.le_of_ble_eq_true rfl) (Nat.le_of_ble_eq_true rfl) rfl k) ?_
                  refine l_X5_join_162 hb c10 c11 c15 (fun w60 g61 => ?_) 4000 0 g59
                  refine j_lift (fun _ k => g_iload (pc := 195) dX5_join_195 rfl k) ?_
                  refine j_lift (fun _ k => g_iconst (pc := 197) (v := 1) dX5_join_197 (by decide +kernel) k) ?_
                  refine j_lift (fun _ k => g_sb (pc := 198) (a := w57) (b := 1) dX5_join_198 k) ?_
                  refine j_lift (fun _ k => g_istore (pc := 199) (ls' := [rv Z 5 0, iv a, iv b, iv r1, iv r13, iv x50, iv x55, iv w57, iv (sb w57 1)]) dX5_join_199 (Nat.le_of_ble_eq_true rfl) (Nat.le_of_ble_eq_true rfl) rfl k) ?_
                  refine l_X5_join_201 hb c10 c11 c15 (fun w62 g63 => ?_) 4000 (sb w57 1) g61
                  refine j_lift (fun _ k => g_aload_n (pc := 233) dX5_join_233 rfl k) ?_
                  refine j_lift (fun _ k => fg_X5_join_13 (pc := 234) hb dX5_join_234 k) ?_
                  refine j_lift (fun _ k => g_iload (pc := 237) dX5_join_237 rfl k) ?_
                  refine j_lift (fun _ k => g_iload (pc := 239) dX5_join_239 rfl k) ?_
                  refine j_ck (fun c64 => ?_)
                  refine j_w (fun _ k => g_iastore (pc := 241) (k := 36) (i := 0) (n := 24) (by rw [hb]; decide) (fun _ => rfl) (by decide) c64 dX5_join_241 k) (fun g65 => ?_)
                  refine j_lift (fun _ k => g_aload_n (pc := 242) dX5_join_242 rfl k) ?_
                  refine j_lift (fun _ k => g_iload_n (pc := 243) dX5_join_243 rfl k) ?_
                  refine j_lift (fun _ k => g_iload_n (pc := 244) dX5_join_244 rfl k) ?_
                  refine j_lift (fun _ k => g_iconst (pc := 245) (v := 1) dX5_join_245 (by decide +kernel) k) ?_
                  refine j_callVv (pc := 246) (Y' := mX5_join2) (As := [iv a, iv b, iv 1]) (st := []) (k := 5) (i := 0) (p_X5_join2 hb) gX5_join_X5_join2 rfl (by rw [hb]; decide) rfl rfl (na := 3) rfl (by decide +kernel) (by decide) (by decide) (Nat.le_of_ble_eq_true rfl) dX5_join_246 (fun _ g67 => ?_)
                  refine j_lift (fun _ k => g_aload_n (pc := 249) dX5_join_249 rfl k) ?_
                  refine j_lift (fun _ k => fg_X5_join_50 (pc := 250) hb dX5_join_250 k) ?_
                  refine j_lift (fun _ k => g_bipush (pc := 253) (v := 24) dX5_join_253 (by decide +kernel) k) ?_
                  refine j_lift (fun _ k => g_iload_n (pc := 255) dX5_join_255 rfl k) ?_
                  refine j_lift (fun _ k => g_imul (pc := 256) (a := 24) (b := a) dX5_join_256 k) ?_
                  refine j_lift (fun _ k => g_iload_n (pc := 257) dX5_join_257 rfl k) ?_
                  refine j_lift (fun _ k => g_iadd (pc := 258) (a := 24 * a) (b := b) dX5_join_258 k) ?_
                  refine j_lift (fun _ k => g_iconst (pc := 259) (v := 0) dX5_join_259 (by decide +kernel) k) ?_
                  refine j_ck (fun c68 => ?_)
                  refine j_w (fun _ k => g_iastore (pc := 260) (k := 49) (i := 0) (n := 576) (by rw [hb]; decide) (fun _ => rfl) (by decide) c68 dX5_join_260 k) (fun g69 => ?_)
                  refine j_lift (fun _ k => g_aload_n (pc := 261) dX5_join_261 rfl k) ?_
                  refine j_lift (fun _ k => fg_X5_join_50 (pc := 262) hb dX5_join_262 k) ?_
                  refine j_lift (fun _ k => g_bipush (pc := 265) (v := 24) dX5_join_265 (by decide +kernel) k) ?_
                  refine j_lift (fun _ k => g_iload_n (pc := 267) dX5_join_267 rfl k) ?_
                  refine j_lift (fun _ k => g_imul (pc := 268) (a := 24) (b := b) dX5_join_268 k) ?_
                  refine j_lift (fun _ k => g_iload_n (pc := 269) dX5_join_269 rfl k) ?_
                  refine j_lift (fun _ k => g_iadd (pc := 270) (a := 24 * b) (b := a) dX5_join_270 k) ?_
                  refine j_lift (fun _ k => g_iconst (pc := 271) (v := 0) dX5_join_271 (by decide +kernel) k) ?_
                  refine j_ck (fun c70 => ?_)
                  refine j_w (fun _ k => g_iastore (pc := 272) (k := 49) (i := 0) (n := 576) (by rw [hb]; decide) (fun _ => rfl) (by decide) c70 dX5_join_272 k) (fun g71 => ?_)
                  refine j_lift (fun _ k => g_aload_n (pc := 273) dX5_join_273 rfl k) ?_
                  refine j_lift (fun _ k => fg_X5_join_53 (pc := 274) hb dX5_join_274 k) ?_
                  refine j_lift (fun _ k => g_bipush (pc := 277) (v := 24) dX5_join_277 (by decide +kernel) k) ?_
                  refine j_lift (fun _ k => g_iload_n (pc := 279) dX5_join_279 rfl k) ?_
                  refine j_lift (fun _ k => g_imul (pc := 280) (a := 24) (b := a) dX5_join_280 k) ?_
                  refine j_lift (fun _ k => g_iload_n (pc := 281) dX5_join_281 rfl k) ?_
                  refine j_lift (fun _ k => g_iadd (pc := 282) (a := 24 * a) (b := b) dX5_join_282 k) ?_
                  refine j_lift (fun _ k => g_iconst (pc := 283) (v := 0) dX5_join_283 (by decide +kernel) k) ?_
                  refine j_ck (fun c72 => ?_)
                  refine j_w (fun _ k => g_iastore (pc := 284) (k := 50) (i := 0) (n := 576) (by rw [hb]; decide) (fun _ => rfl) (by decide) c72 dX5_join_284 k) (fun g73 => ?_)
                  refine j_lift (fun _ k => g_aload_n (pc := 285) dX5_join_285 rfl k) ?_
                  refine j_lift (fun _ k => fg_X5_join_53 (pc := 286) hb dX5_join_286 k) ?_
                  refine j_lift (fun _ k => g_bipush (pc := 289) (v := 24) dX5_join_289 (by decide +kernel) k) ?_
                  refine j_lift (fun _ k => g_iload_n (pc := 291) dX5_join_291 rfl k) ?_
                  refine j_lift (fun _ k => g_imul (pc := 292) (a := 24) (b := b) dX5_join_292 k) ?_
                  refine j_lift (fun _ k => g_iload_n (pc := 293) dX5_join_293 rfl k) ?_
                  refine j_lift (fun _ k => g_iadd (pc := 294) (a := 24 * b) (b := a) dX5_join_294 k) ?_
                  refine j_lift (fun _ k => g_iconst (pc := 295) (v := 0) dX5_join_295 (by decide +kernel) k) ?_
                  refine j_ck (fun c74 => ?_)
                  refine j_w (fun _ k => g_iastore (pc := 296) (k := 50) (i := 0) (n := 576) (by rw [hb]; decide) (fun _ => rfl) (by decide) c74 dX5_join_296 k) (fun g75 => ?_)
                  refine j_lift (fun _ k => g_iconst (pc := 297) (v := 0) dX5_join_297 (by decide +kernel) k) ?_
                  exact j_iret (pc := 298) dX5_join_298 ⟨mg_narI _, Or.inl rfl⟩ rfl
                · refine j_icmp_ne (pc := 111) 118 dX5_join_111 (by decide) (fun h52 => ?_) (fun h52 => ?_)
                  · refine j_lift (fun _ k => g_iload_n (pc := 118) dX5_join_118 rfl k) ?_
                    exact hk54 a g51
                  · refine j_lift (fun _ k => g_iload_n (pc := 114) dX5_join_114 rfl k) ?_
                    refine j_lift (fun _ k => g_goto (pc := 115) 119 dX5_join_115 (by decide) k) ?_
                    exact hk54 b g51
              · refine j_icmp_ne (pc := 98) 105 dX5_join_98 (by decide) (fun h47 => ?_) (fun h47 => ?_)
                · refine j_lift (fun _ k => g_iload_n (pc := 105) dX5_join_105 rfl k) ?_
                  exact hk49 a g14
                · refine j_lift (fun _ k => g_iload_n (pc := 101) dX5_join_101 rfl k) ?_
                  refine j_lift (fun _ k => g_goto (pc := 102) 106 dX5_join_102 (by decide) k) ?_
                  exact hk49 b g14
            · refine j_lift (fun _ k => g_iconst (pc := 83) (v := 4294967295) dX5_join_83 (by decide +kernel) k) ?_
              exact j_iret (pc := 84) dX5_join_84 ⟨mg_narI _, Or.inl rfl⟩ rfl
        · refine j_lift (fun _ k => g_iconst (pc := 43) (v := 4294967295) dX5_join_43 (by decide +kernel) k) ?_
          exact j_iret (pc := 44) dX5_join_44 ⟨mg_narI _, Or.inl rfl⟩ rfl

/-- X5_holder -/
def L_X5_holder_14 (k : Nat → Nat → mg_F → mo) : Nat → Nat → Nat → mg_F → mo
  | 0, _, _, _ => none
  | n + 1, v1, v2, g => if sv v2 < sv (g 5 0 0) then (ck (v2 < 24) <| jn (α := Nat) (fun x6 g7 => L_X5_holder_14  k n x6 (v2 + 1) g7) fun kj4 => if sv (g 36 0 v2) = sv v2 then (kj4 v2 g) else (kj4 v1 g)) else (k v1 v2 g)
theorem l_X5_holder_14 {K : mg_Kt} {Z : mg_Zt} (hb : Z.2.2.1 = true)  {k : Nat → Nat → mg_F → mo} (hk : ∀ (v1 v2 : Nat) (g : mg_F), mj K Z mX5_holder (k v1 v2 g) 44 [rv Z 5 0, iv v1, iv v2] [] g) : ∀ (n : Nat) (v1 v2 : Nat) (g : mg_F), mj K Z mX5_holder (L_X5_holder_14  k n v1 v2 g) 14 [rv Z 5 0, iv v1, iv v2] [] g := by
  intro n
  induction n with
  | zero => intro _ _ _; exact j_none
  | succ n ih =>
    intro v1 v2 g
    unfold L_X5_holder_14
    refine j_lift (fun _ k => g_iload_n (pc := 14) dX5_holder_14 rfl k) ?_
    refine j_lift (fun _ k => g_aload_n (pc := 15) dX5_holder_15 rfl k) ?_
    refine j_lift (fun _ k => fg_X5_holder_101 (pc := 16) hb dX5_holder_16 k) ?_
    refine j_icmp_ge (pc := 19) 44 dX5_holder_19 (by decide) (fun h1 => ?_) (fun h1 => ?_)
    · exact hk v1 v2 g
    · refine j_lift (fun _ k => g_aload_n (pc := 22) dX5_holder_22 rfl k) ?_
      refine j_lift (fun _ k => fg_X5_holder_13 (pc := 23) hb dX5_holder_23 k) ?_
      refine j_lift (fun _ k => g_iload_n (pc := 26) dX5_holder_26 rfl k) ?_
      refine j_ck (fun c2 => ?_)
      refine j_lift (fun _ k => g_iaload (pc := 27) (k := 36) (i := 0) (n := 24) (by rw [hb]; decide) rfl (by decide) c2 dX5_holder_27 k) ?_
      refine j_lift (fun _ k => g_iload_n (pc := 28) dX5_holder_28 rfl k) ?_
      refine j_jn (α := Nat) 37 (fun x6 => [rv Z 5 0, iv v1, iv v2]) (fun x6 => [iv x6]) (fun x6 g7 => ?_) (fun kj4 hk5 => ?_)
      · refine j_lift (fun _ k => g_istore_n (pc := 37) (ls' := [rv Z 5 0, iv x6, iv v2]) dX5_holder_37 (Nat.le_of_ble_eq_true rfl) (Nat.le_of_ble_eq_true rfl) rfl k) ?_
        refine j_lift (fun _ k => g_iinc (pc := 38) (v := v2 + 1) (ls' := [rv Z 5 0, iv x6, iv (v2 + 1)]) dX5_holder_38 (Nat.le_of_ble_eq_true rfl) rfl (mg_inc _) rfl k) ?_
        refine j_lift (fun _ k => g_goto (pc := 41) 14 dX5_holder_41 (by decide) k) ?_
        exact ih x6 (v2 + 1) g7
      · refine j_icmp_ne (pc := 29) 36 dX5_holder_29 (by decide) (fun h3 => ?_) (fun h3 => ?_)
        · refine j_lift (fun _ k => g_iload_n (pc := 36) dX5_holder_36 rfl k) ?_
          exact hk5 v1 g
        · refine j_lift (fun _ k => g_iload_n (pc := 32) dX5_holder_32 rfl k) ?_
          refine j_lift (fun _ k => g_goto (pc := 33) 37 dX5_holder_33 (by decide) k) ?_
          exact hk5 v2 g
def P_X5_holder (g : mg_F) : mo := if sv (g 5 0 1) = 0 then (some (4294967295, g)) else (L_X5_holder_14  (fun w8 w9 g10 => some (w8, g10)) 4000 4294967294 0 g)
theorem p_X5_holder {l : Launch} {Z : mg_Zt} {g : mg_F} (hb : Z.2.2.1 = true) : ∀ (r : Nat) (g' : mg_F), P_X5_holder g = some (r, g') → mg_C l Z mX5_holder [rv Z 5 0] g (mp mX5_holder r g') := by
  refine mC_of (by decide) rfl (Nat.le_of_ble_eq_true rfl) (List.forall_mem_cons.mpr ⟨rfl, (fun _ h => nomatch h)⟩) (fun K => ?_)
  unfold P_X5_holder
  refine j_lift (fun _ k => g_aload_n (pc := 0) dX5_holder_0 rfl k) ?_
  refine j_lift (fun _ k => fg_X5_holder_105 (pc := 1) hb dX5_holder_1 k) ?_
  refine j_if_ne (pc := 4) 9 dX5_holder_4 (by decide) (fun h1 => ?_) (fun h1 => ?_)
  · refine j_lift (fun _ k => g_bipush (pc := 9) (v := 4294967294) dX5_holder_9 (by decide +kernel) k) ?_
    refine j_lift (fun _ k => g_istore_n (pc := 11) (ls' := [rv Z 5 0, iv 4294967294]) dX5_holder_11 (Nat.le_of_ble_eq_true rfl) (Nat.le_of_ble_eq_true rfl) rfl k) ?_
    refine j_lift (fun _ k => g_iconst (pc := 12) (v := 0) dX5_holder_12 (by decide +kernel) k) ?_
    refine j_lift (fun _ k => g_istore_n (pc := 13) (ls' := [rv Z 5 0, iv 4294967294, iv 0]) dX5_holder_13 (Nat.le_of_ble_eq_true rfl) (Nat.le_of_ble_eq_true rfl) rfl k) ?_
    refine l_X5_holder_14 hb  (fun w8 w9 g10 => ?_) 4000 4294967294 0 g
    refine j_lift (fun _ k => g_iload_n (pc := 44) dX5_holder_44 rfl k) ?_
    exact j_iret (pc := 45) dX5_holder_45 ⟨mg_narI _, Or.inl rfl⟩ rfl
  · refine j_lift (fun _ k => g_iconst (pc := 7) (v := 4294967295) dX5_holder_7 (by decide +kernel) k) ?_
    exact j_iret (pc := 8) dX5_holder_8 ⟨mg_narI _, Or.inl rfl⟩ rfl

/-- X5_pointer -/
def P_X5_pointer (a : Nat) (g : mg_F) : mo := if sv (g 5 0 1) = 0 then (some (4294967295, g)) else (bd (P_X5_isStation a g) fun r2 g3 => if sv r2 = 0 then (some (4294967295, g3)) else (ck (a < 24) <| some (g3 36 0 a, g3)))
theorem p_X5_pointer {l : Launch} {Z : mg_Zt} {a : Nat} {g : mg_F} (hb : Z.2.2.1 = true) : ∀ (r : Nat) (g' : mg_F), P_X5_pointer a g = some (r, g') → mg_C l Z mX5_pointer [rv Z 5 0, iv a] g (mp mX5_pointer r g') := by
  refine mC_of (by decide) rfl (Nat.le_of_ble_eq_true rfl) (List.forall_mem_cons.mpr ⟨rfl, (List.forall_mem_cons.mpr ⟨rfl, (fun _ h => nomatch h)⟩)⟩) (fun K => ?_)
  unfold P_X5_pointer
  refine j_lift (fun _ k => g_aload_n (pc := 0) dX5_pointer_0 rfl k) ?_
  refine j_lift (fun _ k => fg_X5_pointer_105 (pc := 1) hb dX5_pointer_1 k) ?_
  refine j_if_eq (pc := 4) 24 dX5_pointer_4 (by decide) (fun h1 => ?_) (fun h1 => ?_)
  · refine j_lift (fun _ k => g_iconst (pc := 24) (v := 4294967295) dX5_pointer_24 (by decide +kernel) k) ?_
    exact j_iret (pc := 25) dX5_pointer_25 ⟨mg_narI _, Or.inl rfl⟩ rfl
  · refine j_lift (fun _ k => g_aload_n (pc := 7) dX5_pointer_7 rfl k) ?_
    refine j_lift (fun _ k => g_iload_n (pc := 8) dX5_pointer_8 rfl k) ?_
    refine j_callVi (pc := 9) (Y' := mX5_isStation) (As := [iv a]) (st := []) (k := 5) (i := 0) (p_X5_isStation hb) gX5_pointer_X5_isStation rfl (by rw [hb]; decide) rfl rfl (na := 1) rfl (by decide +kernel) (by decide) (by decide) (Nat.le_of_ble_eq_true rfl) dX5_pointer_9 (fun r2 g3 => ?_)
    refine j_if_eq (pc := 12) 24 dX5_pointer_12 (by decide) (fun h4 => ?_) (fun h4 => ?_)
    · refine j_lift (fun _ k => g_iconst (pc := 24) (v := 4294967295) dX5_pointer_24 (by decide +kernel) k) ?_
      exact j_iret (pc := 25) dX5_pointer_25 ⟨mg_narI _, Or.inl rfl⟩ rfl
    · refine j_lift (fun _ k => g_aload_n (pc := 15) dX5_pointer_15 rfl k) ?_
      refine j_lift (fun _ k => fg_X5_pointer_13 (pc := 16) hb dX5_pointer_16 k) ?_
      refine j_lift (fun _ k => g_iload_n (pc := 19) dX5_pointer_19 rfl k) ?_
      refine j_ck (fun c5 => ?_)
      refine j_lift (fun _ k => g_iaload (pc := 20) (k := 36) (i := 0) (n := 24) (by rw [hb]; decide) rfl (by decide) c5 dX5_pointer_20 k) ?_
      refine j_lift (fun _ k => g_goto (pc := 21) 25 dX5_pointer_21 (by decide) k) ?_
      exact j_iret (pc := 25) dX5_pointer_25 ⟨mg_narI _, Or.inl rfl⟩ rfl

/-- X5_queue -/
def P_X5_queue (a b c : Nat) (g : mg_F) : mo := if sv (g 5 0 1) = 0 then (some (4294967295, g)) else (bd (P_X5_isStation a g) fun r2 g3 => if sv r2 = 0 then (some (4294967295, g3)) else (if sv b < 0 then (some (4294967295, g3)) else (ck (a < 24) <| if sv b < sv (g3 46 0 a) then (if sv c = 0 then (bd (P_X5_entry a b g3) fun r9 g10 => ck (r9 < 576) <| some (g10 47 0 r9, g10)) else (bd (P_X5_entry a b g3) fun r12 g13 => ck (r12 < 576) <| some (g13 48 0 r12, g13))) else (some (4294967295, g3)))))
theorem p_X5_queue {l : Launch} {Z : mg_Zt} {a b c : Nat} {g : mg_F} (hb : Z.2.2.1 = true) : ∀ (r : Nat) (g' : mg_F), P_X5_queue a b c g = some (r, g') → mg_C l Z mX5_queue [rv Z 5 0, iv a, iv b, iv c] g (mp mX5_queue r g') := by
  refine mC_of (by decide) rfl (Nat.le_of_ble_eq_true rfl) (List.forall_mem_cons.mpr ⟨rfl, (List.forall_mem_cons.mpr ⟨rfl, (List.forall_mem_cons.mpr ⟨rfl, (List.forall_mem_cons.mpr ⟨rfl, (fun _ h => nomatch h)⟩)⟩)⟩)⟩) (fun K => ?_)
  unfold P_X5_queue
  refine j_lift (fun _ k => g_aload_n (pc := 0) dX5_queue_0 rfl k) ?_
  refine j_lift (fun _ k => fg_X5_queue_105 (pc := 1) hb dX5_queue_1 k) ?_
  refine j_if_eq (pc := 4) 29 dX5_queue_4 (by decide) (fun h1 => ?_) (fun h1 => ?_)
  · refine j_lift (fun _ k => g_iconst (pc := 29) (v := 4294967295) dX5_queue_29 (by decide +kernel) k) ?_
    exact j_iret (pc := 30) dX5_queue_30 ⟨mg_narI _, Or.inl rfl⟩ rfl
  · refine j_lift (fun _ k => g_aload_n (pc := 7) dX5_queue_7 rfl k) ?_
    refine j_lift (fun _ k => g_iload_n (pc := 8) dX5_queue_8 rfl k) ?_
    refine j_callVi (pc := 9) (Y' := mX5_isStation) (As := [iv a]) (st := []) (k := 5) (i := 0) (p_X5_isStation hb) gX5_queue_X5_isStation rfl (by rw [hb]; decide) rfl rfl (na := 1) rfl (by decide +kernel) (by decide) (by decide) (Nat.le_of_ble_eq_true rfl) dX5_queue_9 (fun r2 g3 => ?_)
    refine j_if_eq (pc := 12) 29 dX5_queue_12 (by decide) (fun h4 => ?_) (fun h4 => ?_)
    · refine j_lift (fun _ k => g_iconst (pc := 29) (v := 4294967295) dX5_queue_29 (by decide +kernel) k) ?_
      exact j_iret (pc := 30) dX5_queue_30 ⟨mg_narI _, Or.inl rfl⟩ rfl
    · refine j_lift (fun _ k => g_iload_n (pc := 15) dX5_queue_15 rfl k) ?_
      refine j_if_lt (pc := 16) 29 dX5_queue_16 (by decide) (fun h5 => ?_) (fun h5 => ?_)
      · refine j_lift (fun _ k => g_iconst (pc := 29) (v := 4294967295) dX5_queue_29 (by decide +kernel) k) ?_
        exact j_iret (pc := 30) dX5_queue_30 ⟨mg_narI _, Or.inl rfl⟩ rfl
      · refine j_lift (fun _ k => g_iload_n (pc := 19) dX5_queue_19 rfl k) ?_
        refine j_lift (fun _ k => g_aload_n (pc := 20) dX5_queue_20 rfl k) ?_
        refine j_lift (fun _ k => fg_X5_queue_41 (pc := 21) hb dX5_queue_21 k) ?_
        refine j_lift (fun _ k => g_iload_n (pc := 24) dX5_queue_24 rfl k) ?_
        refine j_ck (fun c6 => ?_)
        refine j_lift (fun _ k => g_iaload (pc := 25) (k := 46) (i := 0) (n := 24) (by rw [hb]; decide) rfl (by decide) c6 dX5_queue_25 k) ?_
        refine j_icmp_lt (pc := 26) 31 dX5_queue_26 (by decide) (fun h7 => ?_) (fun h7 => ?_)
        · refine j_lift (fun _ k => g_iload_n (pc := 31) dX5_queue_31 rfl k) ?_
          refine j_if_eq (pc := 32) 49 dX5_queue_32 (by decide) (fun h8 => ?_) (fun h8 => ?_)
          · refine j_lift (fun _ k => g_aload_n (pc := 49) dX5_queue_49 rfl k) ?_
            refine j_lift (fun _ k => fg_X5_queue_44 (pc := 50) hb dX5_queue_50 k) ?_
            refine j_lift (fun _ k => g_aload_n (pc := 53) dX5_queue_53 rfl k) ?_
            refine j_lift (fun _ k => g_iload_n (pc := 54) dX5_queue_54 rfl k) ?_
            refine j_lift (fun _ k => g_iload_n (pc := 55) dX5_queue_55 rfl k) ?_
            refine j_callVi (pc := 56) (Y' := mX5_entry) (As := [iv a, iv b]) (st := [rv Z 47 0]) (k := 5) (i := 0) (p_X5_entry hb) gX5_queue_X5_entry rfl (by rw [hb]; decide) rfl rfl (na := 2) rfl (by decide +kernel) (by decide) (by decide) (Nat.le_of_ble_eq_true rfl) dX5_queue_56 (fun r9 g10 => ?_)
            refine j_ck (fun c11 => ?_)
            refine j_lift (fun _ k => g_iaload (pc := 59) (k := 47) (i := 0) (n := 576) (by rw [hb]; decide) rfl (by decide) c11 dX5_queue_59 k) ?_
            exact j_iret (pc := 60) dX5_queue_60 ⟨mg_narI _, Or.inl rfl⟩ rfl
          · refine j_lift (fun _ k => g_aload_n (pc := 35) dX5_queue_35 rfl k) ?_
            refine j_lift (fun _ k => fg_X5_queue_47 (pc := 36) hb dX5_queue_36 k) ?_
            refine j_lift (fun _ k => g_aload_n (pc := 39) dX5_queue_39 rfl k) ?_
            refine j_lift (fun _ k => g_iload_n (pc := 40) dX5_queue_40 rfl k) ?_
            refine j_lift (fun _ k => g_iload_n (pc := 41) dX5_queue_41 rfl k) ?_
            refine j_callVi (pc := 42) (Y' := mX5_entry) (As := [iv a, iv b]) (st := [rv Z 48 0]) (k := 5) (i := 0) (p_X5_entry hb) gX5_queue_X5_entry rfl (by rw [hb]; decide) rfl rfl (na := 2) rfl (by decide +kernel) (by decide) (by decide) (Nat.le_of_ble_eq_true rfl) dX5_queue_42 (fun r12 g13 => ?_)
            refine j_ck (fun c14 => ?_)
            refine j_lift (fun _ k => g_iaload (pc := 45) (k := 48) (i := 0) (n := 576) (by rw [hb]; decide) rfl (by decide) c14 dX5_queue_45 k) ?_
            refine j_lift (fun _ k => g_goto (pc := 46) 60 dX5_queue_46 (by decide) k) ?_
            exact j_iret (pc := 60) dX5_queue_60 ⟨mg_narI _, Or.inl rfl⟩ rfl
        · refine j_lift (fun _ k => g_iconst (pc := 29) (v := 4294967295) dX5_queue_29 (by decide +kernel) k) ?_
          exact j_iret (pc := 30) dX5_queue_30 ⟨mg_narI _, Or.inl rfl⟩ rfl

/-- X5_letter -/
def P_X5_letter (a b : Nat) (g : mg_F) : mo := if sv (g 5 0 1) = 0 then (some (4294967295, g)) else (if sv a < 0 then (some (4294967295, g)) else (if sv a < sv (g 5 0 26) then (if sv b = sv 0 then (ck (a < 60) <| some (g 58 0 a, g)) else (if sv b = sv 1 then (ck (a < 60) <| ck (g 57 0 a < 2147483648) <| some ((g 57 0 a) / 24, g)) else (if sv b = sv 2 then (ck (a < 60) <| ck (g 57 0 a < 2147483648) <| some ((g 57 0 a) % 24, g)) else (if sv b = sv 3 then (ck (a < 60) <| some (g 60 0 a, g)) else (if sv b = sv 4 then (ck (a < 60) <| some (g 59 0 a, g)) else (some (4294967295, g))))))) else (some (4294967295, g))))
theorem p_X5_letter {l : Launch} {Z : mg_Zt} {a b : Nat} {g : mg_F} (hb : Z.2.2.1 = true) : ∀ (r : Nat) (g' : mg_F), P_X5_letter a b g = some (r, g') → mg_C l Z mX5_letter [rv Z 5 0, iv a, iv b] g (mp mX5_letter r g') := by
  refine mC_of (by decide) rfl (Nat.le_of_ble_eq_true rfl) (List.forall_mem_cons.mpr ⟨rfl, (List.forall_mem_cons.mpr ⟨rfl, (List.forall_mem_cons.mpr ⟨rfl, (fun _ h => nomatch h)⟩)⟩)⟩) (fun K => ?_)
  unfold P_X5_letter
  refine j_lift (fun _ k => g_aload_n (pc := 0) dX5_letter_0 rfl k) ?_
  refine j_lift (fun _ k => fg_X5_letter_105 (pc := 1) hb dX5_letter_1 k) ?_
  refine j_if_eq (pc := 4) 19 dX5_letter_4 (by decide) (fun h1 => ?_) (fun h1 => ?_)
  · refine j_lift (fun _ k => g_iconst (pc := 19) (v := 4294967295) dX5_letter_19 (by decide +kernel) k) ?_
    exact j_iret (pc := 20) dX5_letter_20 ⟨mg_narI _, Or.inl rfl⟩ rfl
  · refine j_lift (fun _ k => g_iload_n (pc := 7) dX5_letter_7 rfl k) ?_
    refine j_if_lt (pc := 8) 19 dX5_letter_8 (by decide) (fun h2 => ?_) (fun h2 => ?_)
    · refine j_lift (fun _ k => g_iconst (pc := 19) (v := 4294967295) dX5_letter_19 (by decide +kernel) k) ?_
      exact j_iret (pc := 20) dX5_letter_20 ⟨mg_narI _, Or.inl rfl⟩ rfl
    · refine j_lift (fun _ k => g_iload_n (pc := 11) dX5_letter_11 rfl k) ?_
      refine j_lift (fun _ k => g_aload_n (pc := 12) dX5_letter_12 rfl k) ?_
      refine j_lift (fun _ k => fg_X5_letter_136 (pc := 13) hb dX5_letter_13 k) ?_
      refine j_icmp_lt (pc := 16) 21 dX5_letter_16 (by decide) (fun h3 => ?_) (fun h3 => ?_)
      · refine j_lift (fun _ k => g_iload_n (pc := 21) dX5_letter_21 rfl k) ?_
        refine j_ite (fun h4 => ?_) (fun h4 => ?_)
        · refine j_lift (fun _ k => g_swIn (pc := 22) (c := 0) 56 h4 dX5_letter_22 (by decide) (by decide) (by decide) rfl (by decide) k) ?_
          refine j_lift (fun _ k => g_aload_n (pc := 56) dX5_letter_56 rfl k) ?_
          refine j_lift (fun _ k => fg_X5_letter_71 (pc := 57) hb dX5_letter_57 k) ?_
          refine j_lift (fun _ k => g_iload_n (pc := 60) dX5_letter_60 rfl k) ?_
          refine j_ck (fun c5 => ?_)
          refine j_lift (fun _ k => g_iaload (pc := 61) (k := 58) (i := 0) (n := 60) (by rw [hb]; decide) rfl (by decide) c5 dX5_letter_61 k) ?_
          exact j_iret (pc := 62) dX5_letter_62 ⟨mg_narI _, Or.inl rfl⟩ rfl
        refine j_ite (fun h6 => ?_) (fun h6 => ?_)
        · refine j_lift (fun _ k => g_swIn (pc := 22) (c := 1) 63 h6 dX5_letter_22 (by decide) (by decide) (by decide) rfl (by decide) k) ?_
          refine j_lift (fun _ k => g_aload_n (pc := 63) dX5_letter_63 rfl k) ?_
          refine j_lift (fun _ k => fg_X5_letter_68 (pc := 64) hb dX5_letter_64 k) ?_
          refine j_lift (fun _ k => g_iload_n (pc := 67) dX5_letter_67 rfl k) ?_
          refine j_ck (fun c7 => ?_)
          refine j_lift (fun _ k => g_iaload (pc := 68) (k := 57) (i := 0) (n := 60) (by rw [hb]; decide) rfl (by decide) c7 dX5_letter_68 k) ?_
          refine j_lift (fun _ k => g_bipush (pc := 69) (v := 24) dX5_letter_69 (by decide +kernel) k) ?_
          refine j_ck (fun c8 => ?_)
          refine j_lift (fun _ k => g_idiv (pc := 71) c8 (by decide) (by decide) dX5_letter_71 k) ?_
          exact j_iret (pc := 72) dX5_letter_72 ⟨mg_narI _, Or.inl rfl⟩ rfl
        refine j_ite (fun h9 => ?_) (fun h9 => ?_)
        · refine j_lift (fun _ k => g_swIn (pc := 22) (c := 2) 73 h9 dX5_letter_22 (by decide) (by decide) (by decide) rfl (by decide) k) ?_
          refine j_lift (fun _ k => g_aload_n (pc := 73) dX5_letter_73 rfl k) ?_
          refine j_lift (fun _ k => fg_X5_letter_68 (pc := 74) hb dX5_letter_74 k) ?_
          refine j_lift (fun _ k => g_iload_n (pc := 77) dX5_letter_77 rfl k) ?_
          refine j_ck (fun c10 => ?_)
          refine j_lift (fun _ k => g_iaload (pc := 78) (k := 57) (i := 0) (n := 60) (by rw [hb]; decide) rfl (by decide) c10 dX5_letter_78 k) ?_
          refine j_lift (fun _ k => g_bipush (pc := 79) (v := 24) dX5_letter_79 (by decide +kernel) k) ?_
          refine j_ck (fun c11 => ?_)
          refine j_lift (fun _ k => g_irem (pc := 81) c11 (by decide) (by decide) dX5_letter_81 k) ?_
          exact j_iret (pc := 82) dX5_letter_82 ⟨mg_narI _, Or.inl rfl⟩ rfl
        refine j_ite (fun h12 => ?_) (fun h12 => ?_)
        · refine j_lift (fun _ k => g_swIn (pc := 22) (c := 3) 83 h12 dX5_letter_22 (by decide) (by decide) (by decide) rfl (by decide) k) ?_
          refine j_lift (fun _ k => g_aload_n (pc := 83) dX5_letter_83 rfl k) ?_
          refine j_lift (fun _ k => fg_X5_letter_77 (pc := 84) hb dX5_letter_84 k) ?_
          refine j_lift (fun _ k => g_iload_n (pc := 87) dX5_letter_87 rfl k) ?_
          refine j_ck (fun c13 => ?_)
          refine j_lift (fun _ k => g_iaload (pc := 88) (k := 60) (i := 0) (n := 60) (by rw [hb]; decide) rfl (by decide) c13 dX5_letter_88 k) ?_
          exact j_iret (pc := 89) dX5_letter_89 ⟨mg_narI _, Or.inl rfl⟩ rfl
        refine j_ite (fun h14 => ?_) (fun h14 => ?_)
        · refine j_lift (fun _ k => g_swIn (pc := 22) (c := 4) 90 h14 dX5_letter_22 (by decide) (by decide) (by decide) rfl (by decide) k) ?_
          refine j_lift (fun _ k => g_aload_n (pc := 90) dX5_letter_90 rfl k) ?_
          refine j_lift (fun _ k => fg_X5_letter_74 (pc := 91) hb dX5_letter_91 k) ?_
          refine j_lift (fun _ k => g_iload_n (pc := 94) dX5_letter_94 rfl k) ?_
          refine j_ck (fun c15 => ?_)
          refine j_lift (fun _ k => g_iaload (pc := 95) (k := 59) (i := 0) (n := 60) (by rw [hb]; decide) rfl (by decide) c15 dX5_letter_95 k) ?_
          exact j_iret (pc := 96) dX5_letter_96 ⟨mg_narI _, Or.inl rfl⟩ rfl
        refine j_lift (fun _ k => g_swOut (pc := 22) 97 dX5_letter_22 (by rw [sv_l0] at h4; rw [sv_l1] at h6; rw [sv_l2] at h9; rw [sv_l3] at h12; rw [sv_l4] at h14; omega) (by decide) k) ?_
        refine j_lift (fun _ k => g_iconst (pc := 97) (v := 4294967295) dX5_letter_97 (by decide +kernel) k) ?_
        exact j_iret (pc := 98) dX5_letter_98 ⟨mg_narI _, Or.inl rfl⟩ rfl
      · refine j_lift (fun _ k => g_iconst (pc := 19) (v := 4294967295) dX5_letter_19 (by decide +kernel) k) ?_
        exact j_iret (pc := 20) dX5_letter_20 ⟨mg_narI _, Or.inl rfl⟩ rfl

