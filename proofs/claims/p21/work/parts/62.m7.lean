/-! ===== the programs of the methods, 7 ===== -/
/-- X5_told -/
def L_X5_told_159 (a1 a2 : Nat) (k : Nat → Nat → mg_F → mo) : Nat → Nat → Nat → mg_F → mo
  | 0, _, _, _ => none
  | n + 1, v3, v4, g => if sv v4 < sv (g 5 0 21) then (ck (v4 < 3000) <| ck (g 52 0 v4 < 2147483648) <| jn (α := Nat) (fun x7 g8 => L_X5_told_159 a1 a2 k n (v3 + x7) (v4 + 1) g8) fun kj5 => if sv ((g 52 0 v4) / 24) = sv a1 then (kj5 1 g) else (kj5 0 g)) else (k v3 v4 g)
theorem l_X5_told_159 {K : mg_Kt} {Z : mg_Zt} (hb : Z.2.2.1 = true) {a1 a2 : Nat}  {k : Nat → Nat → mg_F → mo} (hk : ∀ (v3 v4 : Nat) (g : mg_F), mj K Z mX5_told (k v3 v4 g) 196 [rv Z 5 0, iv a1, iv a2, iv v3, iv v4] [] g) : ∀ (n : Nat) (v3 v4 : Nat) (g : mg_F), mj K Z mX5_told (L_X5_told_159 a1 a2 k n v3 v4 g) 159 [rv Z 5 0, iv a1, iv a2, iv v3, iv v4] [] g := by
  intro n
  induction n with
  | zero => intro _ _ _; exact j_none
  | succ n ih =>
    intro v3 v4 g
    unfold L_X5_told_159
    refine j_lift (fun _ k => g_iload (pc := 159) dX5_told_159 rfl k) ?_
    refine j_lift (fun _ k => g_aload_n (pc := 161) dX5_told_161 rfl k) ?_
    refine j_lift (fun _ k => fg_X5_told_133 (pc := 162) hb dX5_told_162 k) ?_
    refine j_icmp_ge (pc := 165) 196 dX5_told_165 (by decide) (fun h1 => ?_) (fun h1 => ?_)
    · exact hk v3 v4 g
    · refine j_lift (fun _ k => g_iload_n (pc := 168) dX5_told_168 rfl k) ?_
      refine j_lift (fun _ k => g_aload_n (pc := 169) dX5_told_169 rfl k) ?_
      refine j_lift (fun _ k => fg_X5_told_56 (pc := 170) hb dX5_told_170 k) ?_
      refine j_lift (fun _ k => g_iload (pc := 173) dX5_told_173 rfl k) ?_
      refine j_ck (fun c2 => ?_)
      refine j_lift (fun _ k => g_iaload (pc := 175) (k := 52) (i := 0) (n := 3000) (by rw [hb]; decide) rfl (by decide) c2 dX5_told_175 k) ?_
      refine j_lift (fun _ k => g_bipush (pc := 176) (v := 24) dX5_told_176 (by decide +kernel) k) ?_
      refine j_ck (fun c3 => ?_)
      refine j_lift (fun _ k => g_idiv (pc := 178) c3 (by decide) (by decide) dX5_told_178 k) ?_
      refine j_lift (fun _ k => g_iload_n (pc := 179) dX5_told_179 rfl k) ?_
      refine j_jn (α := Nat) 188 (fun x7 => [rv Z 5 0, iv a1, iv a2, iv v3, iv v4]) (fun x7 => [iv x7, iv v3]) (fun x7 g8 => ?_) (fun kj5 hk6 => ?_)
      · refine j_lift (fun _ k => g_iadd (pc := 188) (a := v3) (b := x7) dX5_told_188 k) ?_
        refine j_lift (fun _ k => g_istore_n (pc := 189) (ls' := [rv Z 5 0, iv a1, iv a2, iv (v3 + x7), iv v4]) dX5_told_189 (Nat.le_of_ble_eq_true rfl) (Nat.le_of_ble_eq_true rfl) rfl k) ?_
        refine j_lift (fun _ k => g_iinc (pc := 190) (v := v4 + 1) (ls' := [rv Z 5 0, iv a1, iv a2, iv (v3 + x7), iv (v4 + 1)]) dX5_told_190 (Nat.le_of_ble_eq_true rfl) rfl (mg_inc _) rfl k) ?_
        refine j_lift (fun _ k => g_goto (pc := 193) 159 dX5_told_193 (by decide) k) ?_
        exact ih (v3 + x7) (v4 + 1) g8
      · refine j_icmp_ne (pc := 180) 187 dX5_told_180 (by decide) (fun h4 => ?_) (fun h4 => ?_)
        · refine j_lift (fun _ k => g_iconst (pc := 187) (v := 0) dX5_told_187 (by decide +kernel) k) ?_
          exact hk6 0 g
        · refine j_lift (fun _ k => g_iconst (pc := 183) (v := 1) dX5_told_183 (by decide +kernel) k) ?_
          refine j_lift (fun _ k => g_goto (pc := 184) 188 dX5_told_184 (by decide) k) ?_
          exact hk6 1 g
def L_X5_told_201 (a1 a2 : Nat) (k : Nat → Nat → mg_F → mo) : Nat → Nat → Nat → mg_F → mo
  | 0, _, _, _ => none
  | n + 1, v3, v4, g => if sv v4 < sv (g 5 0 0) then (ck ((24 * a1) + v4 < 576) <| jn (α := Nat) (fun x6 g7 => L_X5_told_201 a1 a2 k n (v3 + x6) (v4 + 1) g7) fun kj4 => if sv (g 35 0 ((24 * a1) + v4)) = 0 then (kj4 0 g) else (kj4 1 g)) else (k v3 v4 g)
theorem l_X5_told_201 {K : mg_Kt} {Z : mg_Zt} (hb : Z.2.2.1 = true) {a1 a2 : Nat}  {k : Nat → Nat → mg_F → mo} (hk : ∀ (v3 v4 : Nat) (g : mg_F), mj K Z mX5_told (k v3 v4 g) 239 [rv Z 5 0, iv a1, iv a2, iv v3, iv v4] [] g) : ∀ (n : Nat) (v3 v4 : Nat) (g : mg_F), mj K Z mX5_told (L_X5_told_201 a1 a2 k n v3 v4 g) 201 [rv Z 5 0, iv a1, iv a2, iv v3, iv v4] [] g := by
  intro n
  induction n with
  | zero => intro _ _ _; exact j_none
  | succ n ih =>
    intro v3 v4 g
    unfold L_X5_told_201
    refine j_lift (fun _ k => g_iload (pc := 201) dX5_told_201 rfl k) ?_
    refine j_lift (fun _ k => g_aload_n (pc := 203) dX5_told_203 rfl k) ?_
    refine j_lift (fun _ k => fg_X5_told_101 (pc := 204) hb dX5_told_204 k) ?_
    refine j_icmp_ge (pc := 207) 239 dX5_told_207 (by decide) (fun h1 => ?_) (fun h1 => ?_)
    · exact hk v3 v4 g
    · refine j_lift (fun _ k => g_iload_n (pc := 210) dX5_told_210 rfl k) ?_
      refine j_lift (fun _ k => g_aload_n (pc := 211) dX5_told_211 rfl k) ?_
      refine j_lift (fun _ k => fg_X5_told_7 (pc := 212) hb dX5_told_212 k) ?_
      refine j_lift (fun _ k => g_bipush (pc := 215) (v := 24) dX5_told_215 (by decide +kernel) k) ?_
      refine j_lift (fun _ k => g_iload_n (pc := 217) dX5_told_217 rfl k) ?_
      refine j_lift (fun _ k => g_imul (pc := 218) (a := 24) (b := a1) dX5_told_218 k) ?_
      refine j_lift (fun _ k => g_iload (pc := 219) dX5_told_219 rfl k) ?_
      refine j_lift (fun _ k => g_iadd (pc := 221) (a := 24 * a1) (b := v4) dX5_told_221 k) ?_
      refine j_ck (fun c2 => ?_)
      refine j_lift (fun _ k => g_baload (pc := 222) (k := 35) (i := 0) (n := 576) (by rw [hb]; decide) rfl (by decide) c2 dX5_told_222 k) ?_
      refine j_jn (α := Nat) 231 (fun x6 => [rv Z 5 0, iv a1, iv a2, iv v3, iv v4]) (fun x6 => [iv x6, iv v3]) (fun x6 g7 => ?_) (fun kj4 hk5 => ?_)
      · refine j_lift (fun _ k => g_iadd (pc := 231) (a := v3) (b := x6) dX5_told_231 k) ?_
        refine j_lift (fun _ k => g_istore_n (pc := 232) (ls' := [rv Z 5 0, iv a1, iv a2, iv (v3 + x6), iv v4]) dX5_told_232 (Nat.le_of_ble_eq_true rfl) (Nat.le_of_ble_eq_true rfl) rfl k) ?_
        refine j_lift (fun _ k => g_iinc (pc := 233) (v := v4 + 1) (ls' := [rv Z 5 0, iv a1, iv a2, iv (v3 + x6), iv (v4 + 1)]) dX5_told_233 (Nat.le_of_ble_eq_true rfl) rfl (mg_inc _) rfl k) ?_
        refine j_lift (fun _ k => g_goto (pc := 236) 201 dX5_told_236 (by decide) k) ?_
        exact ih (v3 + x6) (v4 + 1) g7
      · refine j_if_eq (pc := 223) 230 dX5_told_223 (by decide) (fun h3 => ?_) (fun h3 => ?_)
        · refine j_lift (fun _ k => g_iconst (pc := 230) (v := 0) dX5_told_230 (by decide +kernel) k) ?_
          exact hk5 0 g
        · refine j_lift (fun _ k => g_iconst (pc := 226) (v := 1) dX5_told_226 (by decide +kernel) k) ?_
          refine j_lift (fun _ k => g_goto (pc := 227) 231 dX5_told_227 (by decide) k) ?_
          exact hk5 1 g
def P_X5_told (a b : Nat) (g : mg_F) : mo := if sv (g 5 0 1) = 0 then (some (4294967295, g)) else (bd (P_X5_isStation a g) fun r2 g3 => if sv r2 = 0 then (some (4294967295, g3)) else (if sv b = sv 0 then (ck (a < 24) <| if sv (g3 37 0 a) = 0 then (some (0, g3)) else (some (1, g3))) else (if sv b = sv 1 then (ck (a < 24) <| if sv (g3 38 0 a) = 0 then (some (0, g3)) else (some (1, g3))) else (if sv b = sv 2 then (ck (a < 24) <| if sv (g3 39 0 a) = 0 then (some (0, g3)) else (some (1, g3))) else (if sv b = sv 3 then (ck (a < 24) <| some (g3 46 0 a, g3)) else (if sv b = sv 4 then (ck (a < 24) <| some (g3 40 0 a, g3)) else (if sv b = sv 5 then (ck (a < 24) <| some (g3 42 0 a, g3)) else (if sv b = sv 6 then (ck (a < 24) <| some (g3 43 0 a, g3)) else (if sv b = sv 7 then (ck (a < 24) <| some (g3 44 0 a, g3)) else (if sv b = sv 8 then (L_X5_told_159 a b (fun w25 w26 g27 => some (w25, g27)) 4000 0 0 g3) else (if sv b = sv 9 then (L_X5_told_201 a b (fun w29 w30 g31 => some (w29, g31)) 4000 0 0 g3) else (some (4294967295, g3)))))))))))))
theorem p_X5_told {l : Launch} {Z : mg_Zt} {a b : Nat} {g : mg_F} (hb : Z.2.2.1 = true) : ∀ (r : Nat) (g' : mg_F), P_X5_told a b g = some (r, g') → mg_C l Z mX5_told [rv Z 5 0, iv a, iv b] g (mp mX5_told r g') := by
  refine mC_of (by decide) rfl (Nat.le_of_ble_eq_true rfl) (List.forall_mem_cons.mpr ⟨rfl, (List.forall_mem_cons.mpr ⟨rfl, (List.forall_mem_cons.mpr ⟨rfl, (fun _ h => nomatch h)⟩)⟩)⟩) (fun K => ?_)
  unfold P_X5_told
  refine j_lift (fun _ k => g_aload_n (pc := 0) dX5_told_0 rfl k) ?_
  refine j_lift (fun _ k => fg_X5_told_105 (pc := 1) hb dX5_told_1 k) ?_
  refine j_if_eq (pc := 4) 15 dX5_told_4 (by decide) (fun h1 => ?_) (fun h1 => ?_)
  · refine j_lift (fun _ k => g_iconst (pc := 15) (v := 4294967295) dX5_told_15 (by decide +kernel) k) ?_
    exact j_iret (pc := 16) dX5_told_16 ⟨mg_narI _, Or.inl rfl⟩ rfl
  · refine j_lift (fun _ k => g_aload_n (pc := 7) dX5_told_7 rfl k) ?_
    refine j_lift (fun _ k => g_iload_n (pc := 8) dX5_told_8 rfl k) ?_
    refine j_callVi (pc := 9) (Y' := mX5_isStation) (As := [iv a]) (st := []) (k := 5) (i := 0) (p_X5_isStation hb) gX5_told_X5_isStation rfl (by rw [hb]; decide) rfl rfl (na := 1) rfl (by decide +kernel) (by decide) (by decide) (Nat.le_of_ble_eq_true rfl) dX5_told_9 (fun r2 g3 => ?_)
    refine j_if_ne (pc := 12) 17 dX5_told_12 (by decide) (fun h4 => ?_) (fun h4 => ?_)
    · refine j_lift (fun _ k => g_iconst (pc := 17) (v := 0) dX5_told_17 (by decide +kernel) k) ?_
      refine j_lift (fun _ k => g_istore_n (pc := 18) (ls' := [rv Z 5 0, iv a, iv b, iv 0]) dX5_told_18 (Nat.le_of_ble_eq_true rfl) (Nat.le_of_ble_eq_true rfl) rfl k) ?_
      refine j_lift (fun _ k => g_iload_n (pc := 19) dX5_told_19 rfl k) ?_
      refine j_ite (fun h5 => ?_) (fun h5 => ?_)
      · refine j_lift (fun _ k => g_swIn (pc := 20) (c := 0) 76 h5 dX5_told_20 (by decide) (by decide) (by decide) rfl (by decide) k) ?_
        refine j_lift (fun _ k => g_aload_n (pc := 76) dX5_told_76 rfl k) ?_
        refine j_lift (fun _ k => fg_X5_told_17 (pc := 77) hb dX5_told_77 k) ?_
        refine j_lift (fun _ k => g_iload_n (pc := 80) dX5_told_80 rfl k) ?_
        refine j_ck (fun c6 => ?_)
        refine j_lift (fun _ k => g_baload (pc := 81) (k := 37) (i := 0) (n := 24) (by rw [hb]; decide) rfl (by decide) c6 dX5_told_81 k) ?_
        refine j_if_eq (pc := 82) 89 dX5_told_82 (by decide) (fun h7 => ?_) (fun h7 => ?_)
        · refine j_lift (fun _ k => g_iconst (pc := 89) (v := 0) dX5_told_89 (by decide +kernel) k) ?_
          exact j_iret (pc := 90) dX5_told_90 ⟨mg_narI _, Or.inl rfl⟩ rfl
        · refine j_lift (fun _ k => g_iconst (pc := 85) (v := 1) dX5_told_85 (by decide +kernel) k) ?_
          refine j_lift (fun _ k => g_goto (pc := 86) 90 dX5_told_86 (by decide) k) ?_
          exact j_iret (pc := 90) dX5_told_90 ⟨mg_narI _, Or.inl rfl⟩ rfl
      refine j_ite (fun h8 => ?_) (fun h8 => ?_)
      · refine j_lift (fun _ k => g_swIn (pc := 20) (c := 1) 91 h8 dX5_told_20 (by decide) (by decide) (by decide) rfl (by decide) k) ?_
        refine j_lift (fun _ k => g_aload_n (pc := 91) dX5_told_91 rfl k) ?_
        refine j_lift (fun _ k => fg_X5_told_20 (pc := 92) hb dX5_told_92 k) ?_
        refine j_lift (fun _ k => g_iload_n (pc := 95) dX5_told_95 rfl k) ?_
        refine j_ck (fun c9 => ?_)
        refine j_lift (fun _ k => g_baload (pc := 96) (k := 38) (i := 0) (n := 24) (by rw [hb]; decide) rfl (by decide) c9 dX5_told_96 k) ?_
        refine j_if_eq (pc := 97) 104 dX5_told_97 (by decide) (fun h10 => ?_) (fun h10 => ?_)
        · refine j_lift (fun _ k => g_iconst (pc := 104) (v := 0) dX5_told_104 (by decide +kernel) k) ?_
          exact j_iret (pc := 105) dX5_told_105 ⟨mg_narI _, Or.inl rfl⟩ rfl
        · refine j_lift (fun _ k => g_iconst (pc := 100) (v := 1) dX5_told_100 (by decide +kernel) k) ?_
          refine j_lift (fun _ k => g_goto (pc := 101) 105 dX5_told_101 (by decide) k) ?_
          exact j_iret (pc := 105) dX5_told_105 ⟨mg_narI _, Or.inl rfl⟩ rfl
      refine j_ite (fun h11 => ?_) (fun h11 => ?_)
      · refine j_lift (fun _ k => g_swIn (pc := 20) (c := 2) 106 h11 dX5_told_20 (by decide) (by decide) (by decide) rfl (by decide) k) ?_
        refine j_lift (fun _ k => g_aload_n (pc := 106) dX5_told_106 rfl k) ?_
        refine j_lift (fun _ k => fg_X5_told_23 (pc := 107) hb dX5_told_107 k) ?_
        refine j_lift (fun _ k => g_iload_n (pc := 110) dX5_told_110 rfl k) ?_
        refine j_ck (fun c12 => ?_)
        refine j_lift (fun _ k => g_baload (pc := 111) (k := 39) (i := 0) (n := 24) (by rw [hb]; decide) rfl (by decide) c12 dX5_told_111 k) ?_
        refine j_if_eq (pc := 112) 119 dX5_told_112 (by decide) (fun h13 => ?_) (fun h13 => ?_)
        · refine j_lift (fun _ k => g_iconst (pc := 119) (v := 0) dX5_told_119 (by decide +kernel) k) ?_
          exact j_iret (pc := 120) dX5_told_120 ⟨mg_narI _, Or.inl rfl⟩ rfl
        · refine j_lift (fun _ k => g_iconst (pc := 115) (v := 1) dX5_told_115 (by decide +kernel) k) ?_
          refine j_lift (fun _ k => g_goto (pc := 116) 120 dX5_told_116 (by decide) k) ?_
          exact j_iret (pc := 120) dX5_told_120 ⟨mg_narI _, Or.inl rfl⟩ rfl
      refine j_ite (fun h14 => ?_) (fun h14 => ?_)
      · refine j_lift (fun _ k => g_swIn (pc := 20) (c := 3) 121 h14 dX5_told_20 (by decide) (by decide) (by decide) rfl (by decide) k) ?_
        refine j_lift (fun _ k => g_aload_n (pc := 121) dX5_told_121 rfl k) ?_
        refine j_lift (fun _ k => fg_X5_told_41 (pc := 122) hb dX5_told_122 k) ?_
        refine j_lift (fun _ k => g_iload_n (pc := 125) dX5_told_125 rfl k) ?_
        refine j_ck (fun c15 => ?_)
        refine j_lift (fun _ k => g_iaload (pc := 126) (k := 46) (i := 0) (n := 24) (by rw [hb]; decide) rfl (by decide) c15 dX5_told_126 k) ?_
        exact j_iret (pc := 127) dX5_told_127 ⟨mg_narI _, Or.inl rfl⟩ rfl
      refine j_ite (fun h16 => ?_) (fun h16 => ?_)
      · refine j_lift (fun _ k => g_swIn (pc := 20) (c := 4) 128 h16 dX5_told_20 (by decide) (by decide) (by decide) rfl (by decide) k) ?_
        refine j_lift (fun _ k => g_aload_n (pc := 128) dX5_told_128 rfl k) ?_
        refine j_lift (fun _ k => fg_X5_told_26 (pc := 129) hb dX5_told_129 k) ?_
        refine j_lift (fun _ k => g_iload_n (pc := 132) dX5_told_132 rfl k) ?_
        refine j_ck (fun c17 => ?_)
        refine j_lift (fun _ k => g_iaload (pc := 133) (k := 40) (i := 0) (n := 24) (by rw [hb]; decide) rfl (by decide) c17 dX5_told_133 k) ?_
        exact j_iret (pc := 134) dX5_told_134 ⟨mg_narI _, Or.inl rfl⟩ rfl
      refine j_ite (fun h18 => ?_) (fun h18 => ?_)
      · refine j_lift (fun _ k => g_swIn (pc := 20) (c := 5) 135 h18 dX5_told_20 (by decide) (by decide) (by decide) rfl (by decide) k) ?_
        refine j_lift (fun _ k => g_aload_n (pc := 135) dX5_told_135 rfl k) ?_
        refine j_lift (fun _ k => fg_X5_told_32 (pc := 136) hb dX5_told_136 k) ?_
        refine j_lift (fun _ k => g_iload_n (pc := 139) dX5_told_139 rfl k) ?_
        refine j_ck (fun c19 => ?_)
        refine j_lift (fun _ k => g_iaload (pc := 140) (k := 42) (i := 0) (n := 24) (by rw [hb]; decide) rfl (by decide) c19 dX5_told_140 k) ?_
        exact j_iret (pc := 141) dX5_told_141 ⟨mg_narI _, Or.inl rfl⟩ rfl
      refine j_ite (fun h20 => ?_) (fun h20 => ?_)
      · refine j_lift (fun _ k => g_swIn (pc := 20) (c := 6) 142 h20 dX5_told_20 (by decide) (by decide) (by decide) rfl (by decide) k) ?_
        refine j_lift (fun _ k => g_aload_n (pc := 142) dX5_told_142 rfl k) ?_
        refine j_lift (fun _ k => fg_X5_told_35 (pc := 143) hb dX5_told_143 k) ?_
        refine j_lift (fun _ k => g_iload_n (pc := 146) dX5_told_146 rfl k) ?_
        refine j_ck (fun c21 => ?_)
        refine j_lift (fun _ k => g_iaload (pc := 147) (k := 43) (i := 0) (n := 24) (by rw [hb]; decide) rfl (by decide) c21 dX5_told_147 k) ?_
        exact j_iret (pc := 148) dX5_told_148 ⟨mg_narI _, Or.inl rfl⟩ rfl
      refine j_ite (fun h22 => ?_) (fun h22 => ?_)
      · refine j_lift (fun _ k => g_swIn (pc := 20) (c := 7) 149 h22 dX5_told_20 (by decide) (by decide) (by decide) rfl (by decide) k) ?_
        refine j_lift (fun _ k => g_aload_n (pc := 149) dX5_told_149 rfl k) ?_
        refine j_lift (fun _ k => fg_X5_told_38 (pc := 150) hb dX5_told_150 k) ?_
        refine j_lift (fun _ k => g_iload_n (pc := 153) dX5_told_153 rfl k) ?_
        refine j_ck (fun c23 => ?_)
        refine j_lift (fun _ k => g_iaload (pc := 154) (k := 44) (i := 0) (n := 24) (by rw [hb]; decide) rfl (by decide) c23 dX5_told_154 k) ?_
        exact j_iret (pc := 155) dX5_told_155 ⟨mg_narI _, Or.inl rfl⟩ rfl
      refine j_ite (fun h24 => ?_) (fun h24 => ?_)
      · refine j_lift (fun _ k => g_swIn (pc := 20) (c := 8) 156 h24 dX5_told_20 (by decide) (by decide) (by decide) rfl (by decide) k) ?_
        refine j_lift (fun _ k => g_iconst (pc := 156) (v := 0) dX5_told_156 (by decide +kernel) k) ?_
        refine j_lift (fun _ k => g_istore (pc := 157) (ls' := [rv Z 5 0, iv a, iv b, iv 0, iv 0]) dX5_told_157 (Nat.le_of_ble_eq_true rfl) (Nat.le_of_ble_eq_true rfl) rfl k) ?_
        refine l_X5_told_159 hb  (fun w25 w26 g27 => ?_) 4000 0 0 g3
        refine j_lift (fun _ k => g_iload_n (pc := 196) dX5_told_196 rfl k) ?_
        exact j_iret (pc := 197) dX5_told_197 ⟨mg_narI _, Or.inl rfl⟩ rfl
      refine j_ite (fun h28 => ?_) (fun h28 => ?_)
      · refine j_lift (fun _ k => g_swIn (pc := 20) (c := 9) 198 h28 dX5_told_20 (by decide) (by decide) (by decide) rfl (by decide) k) ?_
        refine j_lift (fun _ k => g_iconst (pc := 198) (v := 0) dX5_told_198 (by decide +kernel) k) ?_
        refine j_lift (fun _ k => g_istore (pc := 199) (ls' := [rv Z 5 0, iv a, iv b, iv 0, iv 0]) dX5_told_199 (Nat.le_of_ble_eq_true rfl) (Nat.le_of_ble_eq_true rfl) rfl k) ?_
        refine l_X5_told_201 hb  (fun w29 w30 g31 => ?_) 4000 0 0 g3
        refine j_lift (fun _ k => g_iload_n (pc := 239) dX5_told_239 rfl k) ?_
        exact j_iret (pc := 240) dX5_told_240 ⟨mg_narI _, Or.inl rfl⟩ rfl
      refine j_lift (fun _ k => g_swOut (pc := 20) 241 dX5_told_20 (by rw [sv_l0] at h5; rw [sv_l1] at h8; rw [sv_l2] at h11; rw [sv_l3] at h14; rw [sv_l4] at h16; rw [sv_l5] at h18; rw [sv_l6] at h20; rw [sv_l7] at h22; rw [sv_l8] at h24; rw [sv_l9] at h28; omega) (by decide) k) ?_
      refine j_lift (fun _ k => g_iconst (pc := 241) (v := 4294967295) dX5_told_241 (by decide +kernel) k) ?_
      exact j_iret (pc := 242) dX5_told_242 ⟨mg_narI _, Or.inl rfl⟩ rfl
    · refine j_lift (fun _ k => g_iconst (pc := 15) (v := 4294967295) dX5_told_15 (by decide +kernel) k) ?_
      exact j_iret (pc := 16) dX5_told_16 ⟨mg_narI _, Or.inl rfl⟩ rfl

/-- X5_count -/
def L_X5_count_43 (a1 : Nat) (k : Nat → Nat → mg_F → mo) : Nat → Nat → Nat → mg_F → mo
  | 0, _, _, _ => none
  | n + 1, v2, v3, g => if sv v3 < sv (g 5 0 0) then (ck (v3 < 24) <| jn (α := Nat) (fun x6 g7 => L_X5_count_43 a1 k n x6 (v3 + 1) g7) fun kj4 => if sv (g 38 0 v3) = 0 then (kj4 v2 g) else (kj4 v3 g)) else (k v2 v3 g)
theorem l_X5_count_43 {K : mg_Kt} {Z : mg_Zt} (hb : Z.2.2.1 = true) {a1 : Nat}  {k : Nat → Nat → mg_F → mo} (hk : ∀ (v2 v3 : Nat) (g : mg_F), mj K Z mX5_count (k v2 v3 g) 72 [rv Z 5 0, iv a1, iv v2, iv v3] [] g) : ∀ (n : Nat) (v2 v3 : Nat) (g : mg_F), mj K Z mX5_count (L_X5_count_43 a1 k n v2 v3 g) 43 [rv Z 5 0, iv a1, iv v2, iv v3] [] g := by
  intro n
  induction n with
  | zero => intro _ _ _; exact j_none
  | succ n ih =>
    intro v2 v3 g
    unfold L_X5_count_43
    refine j_lift (fun _ k => g_iload_n (pc := 43) dX5_count_43 rfl k) ?_
    refine j_lift (fun _ k => g_aload_n (pc := 44) dX5_count_44 rfl k) ?_
    refine j_lift (fun _ k => fg_X5_count_101 (pc := 45) hb dX5_count_45 k) ?_
    refine j_icmp_ge (pc := 48) 72 dX5_count_48 (by decide) (fun h1 => ?_) (fun h1 => ?_)
    · exact hk v2 v3 g
    · refine j_lift (fun _ k => g_aload_n (pc := 51) dX5_count_51 rfl k) ?_
      refine j_lift (fun _ k => fg_X5_count_20 (pc := 52) hb dX5_count_52 k) ?_
      refine j_lift (fun _ k => g_iload_n (pc := 55) dX5_count_55 rfl k) ?_
      refine j_ck (fun c2 => ?_)
      refine j_lift (fun _ k => g_baload (pc := 56) (k := 38) (i := 0) (n := 24) (by rw [hb]; decide) rfl (by decide) c2 dX5_count_56 k) ?_
      refine j_jn (α := Nat) 65 (fun x6 => [rv Z 5 0, iv a1, iv v2, iv v3]) (fun x6 => [iv x6]) (fun x6 g7 => ?_) (fun kj4 hk5 => ?_)
      · refine j_lift (fun _ k => g_istore_n (pc := 65) (ls' := [rv Z 5 0, iv a1, iv x6, iv v3]) dX5_count_65 (Nat.le_of_ble_eq_true rfl) (Nat.le_of_ble_eq_true rfl) rfl k) ?_
        refine j_lift (fun _ k => g_iinc (pc := 66) (v := v3 + 1) (ls' := [rv Z 5 0, iv a1, iv x6, iv (v3 + 1)]) dX5_count_66 (Nat.le_of_ble_eq_true rfl) rfl (mg_inc _) rfl k) ?_
        refine j_lift (fun _ k => g_goto (pc := 69) 43 dX5_count_69 (by decide) k) ?_
        exact ih x6 (v3 + 1) g7
      · refine j_if_eq (pc := 57) 64 dX5_count_57 (by decide) (fun h3 => ?_) (fun h3 => ?_)
        · refine j_lift (fun _ k => g_iload_n (pc := 64) dX5_count_64 rfl k) ?_
          exact hk5 v2 g
        · refine j_lift (fun _ k => g_iload_n (pc := 60) dX5_count_60 rfl k) ?_
          refine j_lift (fun _ k => g_goto (pc := 61) 65 dX5_count_61 (by decide) k) ?_
          exact hk5 v3 g
def P_X5_count (a : Nat) (g : mg_F) : mo := if sv a = 0 then (some (g 5 0 0, g)) else (if sv a = sv 1 then (some (g 5 0 4, g)) else (if sv a = sv 5 then (bd (P_X5_part g) fun r17 g18 => some (r17, g18)) else (if sv (g 5 0 1) = 0 then (some (4294967295, g)) else (L_X5_count_43 a (fun w8 w9 g10 => if sv a = sv 2 then (some (g10 5 0 26, g10)) else (if sv a = sv 3 then (some (w8, g10)) else (if sv a = sv 4 then (bd (P_X5_rightAt g10) fun r15 g16 => some (r15, g16)) else (if sv a = sv 6 then (some (g10 5 0 15, g10)) else (some (4294967295, g10)))))) 4000 4294967294 0 g))))
theorem p_X5_count {l : Launch} {Z : mg_Zt} {a : Nat} {g : mg_F} (hb : Z.2.2.1 = true) : ∀ (r : Nat) (g' : mg_F), P_X5_count a g = some (r, g') → mg_C l Z mX5_count [rv Z 5 0, iv a] g (mp mX5_count r g') := by
  refine mC_of (by decide) rfl (Nat.le_of_ble_eq_true rfl) (List.forall_mem_cons.mpr ⟨rfl, (List.forall_mem_cons.mpr ⟨rfl, (fun _ h => nomatch h)⟩)⟩) (fun K => ?_)
  unfold P_X5_count
  refine j_lift (fun _ k => g_iload_n (pc := 0) dX5_count_0 rfl k) ?_
  refine j_if_ne (pc := 1) 9 dX5_count_1 (by decide) (fun h1 => ?_) (fun h1 => ?_)
  · refine j_lift (fun _ k => g_iload_n (pc := 9) dX5_count_9 rfl k) ?_
    refine j_lift (fun _ k => g_iconst (pc := 10) (v := 1) dX5_count_10 (by decide +kernel) k) ?_
    refine j_icmp_ne (pc := 11) 19 dX5_count_11 (by decide) (fun h2 => ?_) (fun h2 => ?_)
    · refine j_lift (fun _ k => g_iload_n (pc := 19) dX5_count_19 rfl k) ?_
      refine j_lift (fun _ k => g_iconst (pc := 20) (v := 5) dX5_count_20 (by decide +kernel) k) ?_
      refine j_icmp_ne (pc := 21) 29 dX5_count_21 (by decide) (fun h3 => ?_) (fun h3 => ?_)
      · refine j_lift (fun _ k => g_aload_n (pc := 29) dX5_count_29 rfl k) ?_
        refine j_lift (fun _ k => fg_X5_count_105 (pc := 30) hb dX5_count_30 k) ?_
        refine j_if_ne (pc := 33) 38 dX5_count_33 (by decide) (fun h4 => ?_) (fun h4 => ?_)
        · refine j_lift (fun _ k => g_bipush (pc := 38) (v := 4294967294) dX5_count_38 (by decide +kernel) k) ?_
          refine j_lift (fun _ k => g_istore_n (pc := 40) (ls' := [rv Z 5 0, iv a, iv 4294967294]) dX5_count_40 (Nat.le_of_ble_eq_true rfl) (Nat.le_of_ble_eq_true rfl) rfl k) ?_
          refine j_lift (fun _ k => g_iconst (pc := 41) (v := 0) dX5_count_41 (by decide +kernel) k) ?_
          refine j_lift (fun _ k => g_istore_n (pc := 42) (ls' := [rv Z 5 0, iv a, iv 4294967294, iv 0]) dX5_count_42 (Nat.le_of_ble_eq_true rfl) (Nat.le_of_ble_eq_true rfl) rfl k) ?_
          refine l_X5_count_43 hb  (fun w8 w9 g10 => ?_) 4000 4294967294 0 g
          refine j_lift (fun _ k => g_iload_n (pc := 72) dX5_count_72 rfl k) ?_
          refine j_lift (fun _ k => g_iconst (pc := 73) (v := 2) dX5_count_73 (by decide +kernel) k) ?_
          refine j_icmp_ne (pc := 74) 84 dX5_count_74 (by decide) (fun h11 => ?_) (fun h11 => ?_)
          · refine j_lift (fun _ k => g_iload_n (pc := 84) dX5_count_84 rfl k) ?_
            refine j_lift (fun _ k => g_iconst (pc := 85) (v := 3) dX5_count_85 (by decide +kernel) k) ?_
            refine j_icmp_ne (pc := 86) 93 dX5_count_86 (by decide) (fun h12 => ?_) (fun h12 => ?_)
            · refine j_lift (fun _ k => g_iload_n (pc := 93) dX5_count_93 rfl k) ?_
              refine j_lift (fun _ k => g_iconst (pc := 94) (v := 4) dX5_count_94 (by decide +kernel) k) ?_
              refine j_icmp_ne (pc := 95) 105 dX5_count_95 (by decide) (fun h13 => ?_) (fun h13 => ?_)
              · refine j_lift (fun _ k => g_iload_n (pc := 105) dX5_count_105 rfl k) ?_
                refine j_lift (fun _ k => g_bipush (pc := 106) (v := 6) dX5_count_106 (by decide +kernel) k) ?_
                refine j_icmp_ne (pc := 108) 118 dX5_count_108 (by decide) (fun h14 => ?_) (fun h14 => ?_)
                · refine j_lift (fun _ k => g_iconst (pc := 118) (v := 4294967295) dX5_count_118 (by decide +kernel) k) ?_
                  exact j_iret (pc := 119) dX5_count_119 ⟨mg_narI _, Or.inl rfl⟩ rfl
                · refine j_lift (fun _ k => g_aload_n (pc := 111) dX5_count_111 rfl k) ?_
                  refine j_lift (fun _ k => fg_X5_count_130 (pc := 112) hb dX5_count_112 k) ?_
                  refine j_lift (fun _ k => g_goto (pc := 115) 119 dX5_count_115 (by decide) k) ?_
                  exact j_iret (pc := 119) dX5_count_119 ⟨mg_narI _, Or.inl rfl⟩ rfl
              · refine j_lift (fun _ k => g_aload_n (pc := 98) dX5_count_98 rfl k) ?_
                refine j_callVi (pc := 99) (Y' := mX5_rightAt) (As := []) (st := []) (k := 5) (i := 0) (p_X5_rightAt hb) gX5_count_X5_rightAt rfl (by rw [hb]; decide) rfl rfl (na := 0) rfl (by decide +kernel) (by decide) (by decide) (Nat.le_of_ble_eq_true rfl) dX5_count_99 (fun r15 g16 => ?_)
                refine j_lift (fun _ k => g_goto (pc := 102) 119 dX5_count_102 (by decide) k) ?_
                exact j_iret (pc := 119) dX5_count_119 ⟨mg_narI _, Or.inl rfl⟩ rfl
            · refine j_lift (fun _ k => g_iload_n (pc := 89) dX5_count_89 rfl k) ?_
              refine j_lift (fun _ k => g_goto (pc := 90) 119 dX5_count_90 (by decide) k) ?_
              exact j_iret (pc := 119) dX5_count_119 ⟨mg_narI _, Or.inl rfl⟩ rfl
          · refine j_lift (fun _ k => g_aload_n (pc := 77) dX5_count_77 rfl k) ?_
            refine j_lift (fun _ k => fg_X5_count_136 (pc := 78) hb dX5_count_78 k) ?_
            refine j_lift (fun _ k => g_goto (pc := 81) 119 dX5_count_81 (by decide) k) ?_
            exact j_iret (pc := 119) dX5_count_119 ⟨mg_narI _, Or.inl rfl⟩ rfl
        · refine j_lift (fun _ k => g_iconst (pc := 36) (v := 4294967295) dX5_count_36 (by decide +kernel) k) ?_
          exact j_iret (pc := 37) dX5_count_37 ⟨mg_narI _, Or.inl rfl⟩ rfl
      · refine j_lift (fun _ k => g_aload_n (pc := 24) dX5_count_24 rfl k) ?_
        refine j_callVi (pc := 25) (Y' := mX5_part) (As := []) (st := []) (k := 5) (i := 0) (p_X5_part hb) gX5_count_X5_part rfl (by rw [hb]; decide) rfl rfl (na := 0) rfl (by decide +kernel) (by decide) (by decide) (Nat.le_of_ble_eq_true rfl) dX5_count_25 (fun r17 g18 => ?_)
        exact j_iret (pc := 28) dX5_count_28 ⟨mg_narI _, Or.inl rfl⟩ rfl
    · refine j_lift (fun _ k => g_aload_n (pc := 14) dX5_count_14 rfl k) ?_
      refine j_lift (fun _ k => fg_X5_count_113 (pc := 15) hb dX5_count_15 k) ?_
      exact j_iret (pc := 18) dX5_count_18 ⟨mg_narI _, Or.inl rfl⟩ rfl
  · refine j_lift (fun _ k => g_aload_n (pc := 4) dX5_count_4 rfl k) ?_
    refine j_lift (fun _ k => fg_X5_count_101 (pc := 5) hb dX5_count_5 k) ?_
    exact j_iret (pc := 8) dX5_count_8 ⟨mg_narI _, Or.inl rfl⟩ rfl

