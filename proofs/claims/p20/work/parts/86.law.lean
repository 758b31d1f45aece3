/-! ===== the law, its cases, its loop ===== -/
abbrev mL_law : mg_Yt := (cL_law, yL_law, 4, some .boolean, lw_tbl, 7)
section LAWC
variable {K : mg_Kt} {D : va_G} {E : mg_E} {B b L : Nat} {xs : Nat → Int32}
theorem g_slen {Z : mg_Zt} {Y : mg_Yt} {post : Option Nat → mg_F → Prop} {pc : Nat} {ls st : List Value} {g : mg_F} (hX : va_X b L xs K.2.2.2.2.1 K.2.2.2.2.1.heap) (hbl : b < K.2.2.2.2.1.heap.size) (hbA : ¬ Z.2.2.2 ≤ b) (hd : decode Y.1 pc = .ok (.arraylength, 1)) (kk : mg_G K Z Y post (pc + 1) ls (iv L :: st) g) : mg_G K Z Y post pc ls (.ref b :: st) g := by
  intro hF H locs la hP hS hL
  exact va_slen hF.1 hF.2.1 hX hbl hbA hS hd (kk hF H locs la hP hS hL)
theorem g_sld {Z : mg_Zt} {Y : mg_Yt} {post : Option Nat → mg_F → Prop} {pc j x : Nat} {ls st : List Value} {g : mg_F} (hX : va_X b L xs K.2.2.2.2.1 K.2.2.2.2.1.heap) (hbl : b < K.2.2.2.2.1.heap.size) (hbA : ¬ Z.2.2.2 ≤ b) (hj : j < L) (hL0 : L < 2147483648) (hx : xs j = nI x) (hd : decode Y.1 pc = .ok (.iaload, 1)) (kk : mg_G K Z Y post (pc + 1) ls (iv x :: st) g) : mg_G K Z Y post pc ls (iv j :: .ref b :: st) g := by
  intro hF H locs la hP hS hL
  refine va_sld hF.1 hF.2.1 hX hbl hbA hS (vp_in_nI hj hL0) hd ?_
  rw [nI_clamp (show j < 2 ^ 31 by omega), hx]
  exact kk hF H locs la hP hS hL
theorem g_svgt {Z : mg_Zt} {Y : mg_Yt} {post : Option Nat → mg_F → Prop} {pc : Nat} {ls st : List Value} {g : mg_F} {a c : Nat} {off : Int} (tgt : Nat) (hd : decode Y.1 pc = .ok (.if_icmp .gt off, 3)) (ht : (pc : Int) + off = (tgt : Int)) (kt : sv c < sv a → mg_G K Z Y post tgt ls st g) (kf : ¬ sv c < sv a → mg_G K Z Y post (pc + 3) ls st g) : mg_G K Z Y post pc ls (iv c :: iv a :: st) g := by
  intro hF H locs la hP hS hL
  exact lv_icmp_gt hF.1 hF.2.1 hd ht (fun q => kt (sv_lt.mpr q) hF H locs la hP hS hL) (fun q => kf (fun r => q (sv_lt.mp r)) hF H locs la hP hS hL)
theorem g_sveq {Z : mg_Zt} {Y : mg_Yt} {post : Option Nat → mg_F → Prop} {pc : Nat} {ls st : List Value} {g : mg_F} {a c : Nat} {off : Int} (tgt : Nat) (hd : decode Y.1 pc = .ok (.if_icmp .eq off, 3)) (ht : (pc : Int) + off = (tgt : Int)) (h : sv a = sv c) (kt : mg_G K Z Y post tgt ls st g) : mg_G K Z Y post pc ls (iv c :: iv a :: st) g := by
  intro hF H locs la hP hS hL
  exact lv_icmp_eq hF.1 hF.2.1 hd ht (fun _ => kt hF H locs la hP hS hL) (fun q => absurd (sv_eq.mp h) q)
theorem lc_canal {i N : Nat} {g : mg_F} {v1 : Nat} (u_v1 : v1 < 4294967296) (e_v1 : xs (i + 1) = nI v1) (hi : i + 4 ≤ L) (hL : L ≤ 2048) (hX : va_X b L xs K.2.2.2.2.1 K.2.2.2.2.1.heap) (hbl : b < K.2.2.2.2.1.heap.size) (hbA : ¬ B ≤ b) (h : TT (g, g) N g g) (hN : N ≤ 1022) (kk : ∀ g', TT (g', g') (N + 2) g' g' → mg_G K (D, E, true, B) mL_law (fun v _ => v = some 1) 721 [.ref b, rv (D, E, true, B) 4 0, rv (D, E, true, B) 5 0, iv i] [] g') : mg_G K (D, E, true, B) mL_law (fun v _ => v = some 1) 132 [.ref b, rv (D, E, true, B) 4 0, rv (D, E, true, B) 5 0, iv i] [] g := by
  obtain ⟨r1, g1, r2, g2, e1, e2, hr, hT⟩ := JSM (P4 := P_X4_canal v1) (P5 := P_X5_canal v1) (fun B gc gm hh => s_canal hh u_v1) h
  refine g_aload_n (pc := 132) dL_law_132 rfl ?_
  refine g_aload_n (pc := 133) dL_law_133 rfl ?_
  refine g_iload_n (pc := 134) dL_law_134 rfl ?_
  refine g_iconst (pc := 135) (v := 1) dL_law_135 (by decide +kernel) ?_
  refine g_iadd (pc := 136) dL_law_136 ?_
  refine g_sld (pc := 137) (x := v1) hX hbl hbA (by omega) (by omega) e_v1 dL_law_137 ?_
  refine g_callVi (pc := 138) (Y' := mX4_canal) (As := [iv v1]) (st := []) (k := 4) (i := 0) (p_X4_canal r1 g1 e1) gL_law_X4_canal rfl (show 0 < 1 by omega) rfl rfl (na := 1) rfl (by decide +kernel) (by decide) (by decide) (Nat.le_of_ble_eq_true rfl) dL_law_138 (fun y4 z4 hp4 => ?_)
  obtain ⟨h4, rfl⟩ := hp4
  have t4 : some y4 = some r1 := h4
  cases t4
  refine g_pop (pc := 141) dL_law_141 rfl ?_
  refine g_aload_n (pc := 142) dL_law_142 rfl ?_
  refine g_aload_n (pc := 143) dL_law_143 rfl ?_
  refine g_iload_n (pc := 144) dL_law_144 rfl ?_
  refine g_iconst (pc := 145) (v := 1) dL_law_145 (by decide +kernel) ?_
  refine g_iadd (pc := 146) dL_law_146 ?_
  refine g_sld (pc := 147) (x := v1) hX hbl hbA (by omega) (by omega) e_v1 dL_law_147 ?_
  refine g_callVi (pc := 148) (Y' := mX5_canal) (As := [iv v1]) (st := []) (k := 5) (i := 0) (p_X5_canal rfl r2 g2 e2) gL_law_X5_canal rfl (show 0 < 1 by omega) rfl rfl (na := 1) rfl (by decide +kernel) (by decide) (by decide) (Nat.le_of_ble_eq_true rfl) dL_law_148 (fun y5 z5 hp5 => ?_)
  obtain ⟨h5, rfl⟩ := hp5
  have t5 : some y5 = some r2 := h5
  cases t5
  refine g_pop (pc := 151) dL_law_151 rfl ?_
  refine g_goto (pc := 152) 721 dL_law_152 (by decide) ?_
  exact kk _ hT
theorem lc_link {i N : Nat} {g : mg_F} {v1 : Nat} (u_v1 : v1 < 4294967296) (e_v1 : xs (i + 1) = nI v1) {v2 : Nat} (u_v2 : v2 < 4294967296) (e_v2 : xs (i + 2) = nI v2) (hi : i + 4 ≤ L) (hL : L ≤ 2048) (hX : va_X b L xs K.2.2.2.2.1 K.2.2.2.2.1.heap) (hbl : b < K.2.2.2.2.1.heap.size) (hbA : ¬ B ≤ b) (h : TT (g, g) N g g) (hN : N ≤ 1022) (kk : ∀ g', TT (g', g') (N + 2) g' g' → mg_G K (D, E, true, B) mL_law (fun v _ => v = some 1) 721 [.ref b, rv (D, E, true, B) 4 0, rv (D, E, true, B) 5 0, iv i] [] g') : mg_G K (D, E, true, B) mL_law (fun v _ => v = some 1) 155 [.ref b, rv (D, E, true, B) 4 0, rv (D, E, true, B) 5 0, iv i] [] g := by
  obtain ⟨r1, g1, r2, g2, e1, e2, hr, hT⟩ := JSM (P4 := P_X4_link v1 v2) (P5 := P_X5_link v1 v2) (fun B gc gm hh => s_link hh u_v1 u_v2) h
  refine g_aload_n (pc := 155) dL_law_155 rfl ?_
  refine g_aload_n (pc := 156) dL_law_156 rfl ?_
  refine g_iload_n (pc := 157) dL_law_157 rfl ?_
  refine g_iconst (pc := 158) (v := 1) dL_law_158 (by decide +kernel) ?_
  refine g_iadd (pc := 159) dL_law_159 ?_
  refine g_sld (pc := 160) (x := v1) hX hbl hbA (by omega) (by omega) e_v1 dL_law_160 ?_
  refine g_aload_n (pc := 161) dL_law_161 rfl ?_
  refine g_iload_n (pc := 162) dL_law_162 rfl ?_
  refine g_iconst (pc := 163) (v := 2) dL_law_163 (by decide +kernel) ?_
  refine g_iadd (pc := 164) dL_law_164 ?_
  refine g_sld (pc := 165) (x := v2) hX hbl hbA (by omega) (by omega) e_v2 dL_law_165 ?_
  refine g_callVi (pc := 166) (Y' := mX4_link) (As := [iv v1, iv v2]) (st := []) (k := 4) (i := 0) (p_X4_link r1 g1 e1) gL_law_X4_link rfl (show 0 < 1 by omega) rfl rfl (na := 2) rfl (by decide +kernel) (by decide) (by decide) (Nat.le_of_ble_eq_true rfl) dL_law_166 (fun y4 z4 hp4 => ?_)
  obtain ⟨h4, rfl⟩ := hp4
  have t4 : some y4 = some r1 := h4
  cases t4
  refine g_pop (pc := 169) dL_law_169 rfl ?_
  refine g_aload_n (pc := 170) dL_law_170 rfl ?_
  refine g_aload_n (pc := 171) dL_law_171 rfl ?_
  refine g_iload_n (pc := 172) dL_law_172 rfl ?_
  refine g_iconst (pc := 173) (v := 1) dL_law_173 (by decide +kernel) ?_
  refine g_iadd (pc := 174) dL_law_174 ?_
  refine g_sld (pc := 175) (x := v1) hX hbl hbA (by omega) (by omega) e_v1 dL_law_175 ?_
  refine g_aload_n (pc := 176) dL_law_176 rfl ?_
  refine g_iload_n (pc := 177) dL_law_177 rfl ?_
  refine g_iconst (pc := 178) (v := 2) dL_law_178 (by decide +kernel) ?_
  refine g_iadd (pc := 179) dL_law_179 ?_
  refine g_sld (pc := 180) (x := v2) hX hbl hbA (by omega) (by omega) e_v2 dL_law_180 ?_
  refine g_callVi (pc := 181) (Y' := mX5_link) (As := [iv v1, iv v2]) (st := []) (k := 5) (i := 0) (p_X5_link rfl r2 g2 e2) gL_law_X5_link rfl (show 0 < 1 by omega) rfl rfl (na := 2) rfl (by decide +kernel) (by decide) (by decide) (Nat.le_of_ble_eq_true rfl) dL_law_181 (fun y5 z5 hp5 => ?_)
  obtain ⟨h5, rfl⟩ := hp5
  have t5 : some y5 = some r2 := h5
  cases t5
  refine g_pop (pc := 184) dL_law_184 rfl ?_
  refine g_goto (pc := 185) 721 dL_law_185 (by decide) ?_
  exact kk _ hT
theorem lc_open {i N : Nat} {g : mg_F} {v1 : Nat} (u_v1 : v1 < 4294967296) (e_v1 : xs (i + 1) = nI v1) {v2 : Nat} (u_v2 : v2 < 4294967296) (e_v2 : xs (i + 2) = nI v2) {v3 : Nat} (u_v3 : v3 < 4294967296) (e_v3 : xs (i + 3) = nI v3) (hi : i + 4 ≤ L) (hL : L ≤ 2048) (hX : va_X b L xs K.2.2.2.2.1 K.2.2.2.2.1.heap) (hbl : b < K.2.2.2.2.1.heap.size) (hbA : ¬ B ≤ b) (h : TT (g, g) N g g) (hN : N ≤ 1022) (kk : ∀ g', TT (g', g') (N + 2) g' g' → mg_G K (D, E, true, B) mL_law (fun v _ => v = some 1) 721 [.ref b, rv (D, E, true, B) 4 0, rv (D, E, true, B) 5 0, iv i] [] g') : mg_G K (D, E, true, B) mL_law (fun v _ => v = some 1) 188 [.ref b, rv (D, E, true, B) 4 0, rv (D, E, true, B) 5 0, iv i] [] g := by
  obtain ⟨r1, g1, r2, g2, e1, e2, hr, hT⟩ := JSM (P4 := P_X4_open v1 v2 v3) (P5 := P_X5_open v1 v2 v3) (fun B gc gm hh => s_open hh u_v1 u_v2 u_v3) h
  refine g_aload_n (pc := 188) dL_law_188 rfl ?_
  refine g_aload_n (pc := 189) dL_law_189 rfl ?_
  refine g_iload_n (pc := 190) dL_law_190 rfl ?_
  refine g_iconst (pc := 191) (v := 1) dL_law_191 (by decide +kernel) ?_
  refine g_iadd (pc := 192) dL_law_192 ?_
  refine g_sld (pc := 193) (x := v1) hX hbl hbA (by omega) (by omega) e_v1 dL_law_193 ?_
  refine g_aload_n (pc := 194) dL_law_194 rfl ?_
  refine g_iload_n (pc := 195) dL_law_195 rfl ?_
  refine g_iconst (pc := 196) (v := 2) dL_law_196 (by decide +kernel) ?_
  refine g_iadd (pc := 197) dL_law_197 ?_
  refine g_sld (pc := 198) (x := v2) hX hbl hbA (by omega) (by omega) e_v2 dL_law_198 ?_
  refine g_aload_n (pc := 199) dL_law_199 rfl ?_
  refine g_iload_n (pc := 200) dL_law_200 rfl ?_
  refine g_iconst (pc := 201) (v := 3) dL_law_201 (by decide +kernel) ?_
  refine g_iadd (pc := 202) dL_law_202 ?_
  refine g_sld (pc := 203) (x := v3) hX hbl hbA (by omega) (by omega) e_v3 dL_law_203 ?_
  refine g_callVi (pc := 204) (Y' := mX4_open) (As := [iv v1, iv v2, iv v3]) (st := []) (k := 4) (i := 0) (p_X4_open r1 g1 e1) gL_law_X4_open rfl (show 0 < 1 by omega) rfl rfl (na := 3) rfl (by decide +kernel) (by decide) (by decide) (Nat.le_of_ble_eq_true rfl) dL_law_204 (fun y4 z4 hp4 => ?_)
  obtain ⟨h4, rfl⟩ := hp4
  have t4 : some y4 = some r1 := h4
  cases t4
  refine g_pop (pc := 207) dL_law_207 rfl ?_
  refine g_aload_n (pc := 208) dL_law_208 rfl ?_
  refine g_aload_n (pc := 209) dL_law_209 rfl ?_
  refine g_iload_n (pc := 210) dL_law_210 rfl ?_
  refine g_iconst (pc := 211) (v := 1) dL_law_211 (by decide +kernel) ?_
  refine g_iadd (pc := 212) dL_law_212 ?_
  refine g_sld (pc := 213) (x := v1) hX hbl hbA (by omega) (by omega) e_v1 dL_law_213 ?_
  refine g_aload_n (pc := 214) dL_law_214 rfl ?_
  refine g_iload_n (pc := 215) dL_law_215 rfl ?_
  refine g_iconst (pc := 216) (v := 2) dL_law_216 (by decide +kernel) ?_
  refine g_iadd (pc := 217) dL_law_217 ?_
  refine g_sld (pc := 218) (x := v2) hX hbl hbA (by omega) (by omega) e_v2 dL_law_218 ?_
  refine g_aload_n (pc := 219) dL_law_219 rfl ?_
  refine g_iload_n (pc := 220) dL_law_220 rfl ?_
  refine g_iconst (pc := 221) (v := 3) dL_law_221 (by decide +kernel) ?_
  refine g_iadd (pc := 222) dL_law_222 ?_
  refine g_sld (pc := 223) (x := v3) hX hbl hbA (by omega) (by omega) e_v3 dL_law_223 ?_
  refine g_callVi (pc := 224) (Y' := mX5_open) (As := [iv v1, iv v2, iv v3]) (st := []) (k := 5) (i := 0) (p_X5_open rfl r2 g2 e2) gL_law_X5_open rfl (show 0 < 1 by omega) rfl rfl (na := 3) rfl (by decide +kernel) (by decide) (by decide) (Nat.le_of_ble_eq_true rfl) dL_law_224 (fun y5 z5 hp5 => ?_)
  obtain ⟨h5, rfl⟩ := hp5
  have t5 : some y5 = some r2 := h5
  cases t5
  refine g_pop (pc := 227) dL_law_227 rfl ?_
  refine g_goto (pc := 228) 721 dL_law_228 (by decide) ?_
  exact kk _ hT
theorem lc_want {i N : Nat} {g : mg_F} {v1 : Nat} (u_v1 : v1 < 4294967296) (e_v1 : xs (i + 1) = nI v1) {v2 : Nat} (u_v2 : v2 < 4294967296) (e_v2 : xs (i + 2) = nI v2) (hi : i + 4 ≤ L) (hL : L ≤ 2048) (hX : va_X b L xs K.2.2.2.2.1 K.2.2.2.2.1.heap) (hbl : b < K.2.2.2.2.1.heap.size) (hbA : ¬ B ≤ b) (h : TT (g, g) N g g) (hN : N ≤ 1022) (kk : ∀ g', TT (g', g') (N + 2) g' g' → mg_G K (D, E, true, B) mL_law (fun v _ => v = some 1) 721 [.ref b, rv (D, E, true, B) 4 0, rv (D, E, true, B) 5 0, iv i] [] g') : mg_G K (D, E, true, B) mL_law (fun v _ => v = some 1) 231 [.ref b, rv (D, E, true, B) 4 0, rv (D, E, true, B) 5 0, iv i] [] g := by
  obtain ⟨r1, g1, r2, g2, e1, e2, hr, hT⟩ := JSM (P4 := P_X4_want v1 v2) (P5 := P_X5_want v1 v2) (fun B gc gm hh => s_want hh u_v1 u_v2) h
  refine g_aload_n (pc := 231) dL_law_231 rfl ?_
  refine g_aload_n (pc := 232) dL_law_232 rfl ?_
  refine g_iload_n (pc := 233) dL_law_233 rfl ?_
  refine g_iconst (pc := 234) (v := 1) dL_law_234 (by decide +kernel) ?_
  refine g_iadd (pc := 235) dL_law_235 ?_
  refine g_sld (pc := 236) (x := v1) hX hbl hbA (by omega) (by omega) e_v1 dL_law_236 ?_
  refine g_aload_n (pc := 237) dL_law_237 rfl ?_
  refine g_iload_n (pc := 238) dL_law_238 rfl ?_
  refine g_iconst (pc := 239) (v := 2) dL_law_239 (by decide +kernel) ?_
  refine g_iadd (pc := 240) dL_law_240 ?_
  refine g_sld (pc := 241) (x := v2) hX hbl hbA (by omega) (by omega) e_v2 dL_law_241 ?_
  refine g_callVi (pc := 242) (Y' := mX4_want) (As := [iv v1, iv v2]) (st := []) (k := 4) (i := 0) (p_X4_want r1 g1 e1) gL_law_X4_want rfl (show 0 < 1 by omega) rfl rfl (na := 2) rfl (by decide +kernel) (by decide) (by decide) (Nat.le_of_ble_eq_true rfl) dL_law_242 (fun y4 z4 hp4 => ?_)
  obtain ⟨h4, rfl⟩ := hp4
  have t4 : some y4 = some r1 := h4
  cases t4
  refine g_pop (pc := 245) dL_law_245 rfl ?_
  refine g_aload_n (pc := 246) dL_law_246 rfl ?_
  refine g_aload_n (pc := 247) dL_law_247 rfl ?_
  refine g_iload_n (pc := 248) dL_law_248 rfl ?_
  refine g_iconst (pc := 249) (v := 1) dL_law_249 (by decide +kernel) ?_
  refine g_iadd (pc := 250) dL_law_250 ?_
  refine g_sld (pc := 251) (x := v1) hX hbl hbA (by omega) (by omega) e_v1 dL_law_251 ?_
  refine g_aload_n (pc := 252) dL_law_252 rfl ?_
  refine g_iload_n (pc := 253) dL_law_253 rfl ?_
  refine g_iconst (pc := 254) (v := 2) dL_law_254 (by decide +kernel) ?_
  refine g_iadd (pc := 255) dL_law_255 ?_
  refine g_sld (pc := 256) (x := v2) hX hbl hbA (by omega) (by omega) e_v2 dL_law_256 ?_
  refine g_callVi (pc := 257) (Y' := mX5_want) (As := [iv v1, iv v2]) (st := []) (k := 5) (i := 0) (p_X5_want rfl r2 g2 e2) gL_law_X5_want rfl (show 0 < 1 by omega) rfl rfl (na := 2) rfl (by decide +kernel) (by decide) (by decide) (Nat.le_of_ble_eq_true rfl) dL_law_257 (fun y5 z5 hp5 => ?_)
  obtain ⟨h5, rfl⟩ := hp5
  have t5 : some y5 = some r2 := h5
  cases t5
  refine g_pop (pc := 260) dL_law_260 rfl ?_
  refine g_goto (pc := 261) 721 dL_law_261 (by decide) ?_
  exact kk _ hT
theorem lc_begin {i N : Nat} {g : mg_F} {v1 : Nat} (u_v1 : v1 < 4294967296) (e_v1 : xs (i + 1) = nI v1) (hi : i + 4 ≤ L) (hL : L ≤ 2048) (hX : va_X b L xs K.2.2.2.2.1 K.2.2.2.2.1.heap) (hbl : b < K.2.2.2.2.1.heap.size) (hbA : ¬ B ≤ b) (h : TT (g, g) N g g) (hN : N ≤ 1022) (kk : ∀ g', TT (g', g') (N + 2) g' g' → mg_G K (D, E, true, B) mL_law (fun v _ => v = some 1) 721 [.ref b, rv (D, E, true, B) 4 0, rv (D, E, true, B) 5 0, iv i] [] g') : mg_G K (D, E, true, B) mL_law (fun v _ => v = some 1) 264 [.ref b, rv (D, E, true, B) 4 0, rv (D, E, true, B) 5 0, iv i] [] g := by
  obtain ⟨r1, g1, r2, g2, e1, e2, hr, hT⟩ := JSM (P4 := P_X4_begin v1) (P5 := P_X5_begin v1) (fun B gc gm hh => s_begin hh u_v1 (by omega)) h
  refine g_aload_n (pc := 264) dL_law_264 rfl ?_
  refine g_aload_n (pc := 265) dL_law_265 rfl ?_
  refine g_iload_n (pc := 266) dL_law_266 rfl ?_
  refine g_iconst (pc := 267) (v := 1) dL_law_267 (by decide +kernel) ?_
  refine g_iadd (pc := 268) dL_law_268 ?_
  refine g_sld (pc := 269) (x := v1) hX hbl hbA (by omega) (by omega) e_v1 dL_law_269 ?_
  refine g_callVi (pc := 270) (Y' := mX4_begin) (As := [iv v1]) (st := []) (k := 4) (i := 0) (p_X4_begin r1 g1 e1) gL_law_X4_begin rfl (show 0 < 1 by omega) rfl rfl (na := 1) rfl (by decide +kernel) (by decide) (by decide) (Nat.le_of_ble_eq_true rfl) dL_law_270 (fun y4 z4 hp4 => ?_)
  obtain ⟨h4, rfl⟩ := hp4
  have t4 : some y4 = some r1 := h4
  cases t4
  refine g_pop (pc := 273) dL_law_273 rfl ?_
  refine g_aload_n (pc := 274) dL_law_274 rfl ?_
  refine g_aload_n (pc := 275) dL_law_275 rfl ?_
  refine g_iload_n (pc := 276) dL_law_276 rfl ?_
  refine g_iconst (pc := 277) (v := 1) dL_law_277 (by decide +kernel) ?_
  refine g_iadd (pc := 278) dL_law_278 ?_
  refine g_sld (pc := 279) (x := v1) hX hbl hbA (by omega) (by omega) e_v1 dL_law_279 ?_
  refine g_callVi (pc := 280) (Y' := mX5_begin) (As := [iv v1]) (st := []) (k := 5) (i := 0) (p_X5_begin rfl r2 g2 e2) gL_law_X5_begin rfl (show 0 < 1 by omega) rfl rfl (na := 1) rfl (by decide +kernel) (by decide) (by decide) (Nat.le_of_ble_eq_true rfl) dL_law_280 (fun y5 z5 hp5 => ?_)
  obtain ⟨h5, rfl⟩ := hp5
  have t5 : some y5 = some r2 := h5
  cases t5
  refine g_pop (pc := 283) dL_law_283 rfl ?_
  refine g_goto (pc := 284) 721 dL_law_284 (by decide) ?_
  exact kk _ hT
theorem lc_end {i N : Nat} {g : mg_F} {v1 : Nat} (u_v1 : v1 < 4294967296) (e_v1 : xs (i + 1) = nI v1) (hi : i + 4 ≤ L) (hL : L ≤ 2048) (hX : va_X b L xs K.2.2.2.2.1 K.2.2.2.2.1.heap) (hbl : b < K.2.2.2.2.1.heap.size) (hbA : ¬ B ≤ b) (h : TT (g, g) N g g) (hN : N ≤ 1022) (kk : ∀ g', TT (g', g') (N + 2) g' g' → mg_G K (D, E, true, B) mL_law (fun v _ => v = some 1) 721 [.ref b, rv (D, E, true, B) 4 0, rv (D, E, true, B) 5 0, iv i] [] g') : mg_G K (D, E, true, B) mL_law (fun v _ => v = some 1) 287 [.ref b, rv (D, E, true, B) 4 0, rv (D, E, true, B) 5 0, iv i] [] g := by
  obtain ⟨r1, g1, r2, g2, e1, e2, hr, hT⟩ := JSM (P4 := P_X4_end v1) (P5 := P_X5_end v1) (fun B gc gm hh => s_end hh u_v1) h
  refine g_aload_n (pc := 287) dL_law_287 rfl ?_
  refine g_aload_n (pc := 288) dL_law_288 rfl ?_
  refine g_iload_n (pc := 289) dL_law_289 rfl ?_
  refine g_iconst (pc := 290) (v := 1) dL_law_290 (by decide +kernel) ?_
  refine g_iadd (pc := 291) dL_law_291 ?_
  refine g_sld (pc := 292) (x := v1) hX hbl hbA (by omega) (by omega) e_v1 dL_law_292 ?_
  refine g_callVi (pc := 293) (Y' := mX4_end) (As := [iv v1]) (st := []) (k := 4) (i := 0) (p_X4_end r1 g1 e1) gL_law_X4_end rfl (show 0 < 1 by omega) rfl rfl (na := 1) rfl (by decide +kernel) (by decide) (by decide) (Nat.le_of_ble_eq_true rfl) dL_law_293 (fun y4 z4 hp4 => ?_)
  obtain ⟨h4, rfl⟩ := hp4
  have t4 : some y4 = some r1 := h4
  cases t4
  refine g_pop (pc := 296) dL_law_296 rfl ?_
  refine g_aload_n (pc := 297) dL_law_297 rfl ?_
  refine g_aload_n (pc := 298) dL_law_298 rfl ?_
  refine g_iload_n (pc := 299) dL_law_299 rfl ?_
  refine g_iconst (pc := 300) (v := 1) dL_law_300 (by decide +kernel) ?_
  refine g_iadd (pc := 301) dL_law_301 ?_
  refine g_sld (pc := 302) (x := v1) hX hbl hbA (by omega) (by omega) e_v1 dL_law_302 ?_
  refine g_callVi (pc := 303) (Y' := mX5_end) (As := [iv v1]) (st := []) (k := 5) (i := 0) (p_X5_end rfl r2 g2 e2) gL_law_X5_end rfl (show 0 < 1 by omega) rfl rfl (na := 1) rfl (by decide +kernel) (by decide) (by decide) (Nat.le_of_ble_eq_true rfl) dL_law_303 (fun y5 z5 hp5 => ?_)
  obtain ⟨h5, rfl⟩ := hp5
  have t5 : some y5 = some r2 := h5
  cases t5
  refine g_pop (pc := 306) dL_law_306 rfl ?_
  refine g_goto (pc := 307) 721 dL_law_307 (by decide) ?_
  exact kk _ hT
theorem lc_step {i N : Nat} {g : mg_F} {v1 : Nat} (u_v1 : v1 < 4294967296) (e_v1 : xs (i + 1) = nI v1) (hi : i + 4 ≤ L) (hL : L ≤ 2048) (hX : va_X b L xs K.2.2.2.2.1 K.2.2.2.2.1.heap) (hbl : b < K.2.2.2.2.1.heap.size) (hbA : ¬ B ≤ b) (h : TT (g, g) N g g) (hN : N ≤ 1022) (kk : ∀ g', TT (g', g') (N + 2) g' g' → mg_G K (D, E, true, B) mL_law (fun v _ => v = some 1) 721 [.ref b, rv (D, E, true, B) 4 0, rv (D, E, true, B) 5 0, iv i] [] g') : mg_G K (D, E, true, B) mL_law (fun v _ => v = some 1) 310 [.ref b, rv (D, E, true, B) 4 0, rv (D, E, true, B) 5 0, iv i] [] g := by
  obtain ⟨r1, g1, r2, g2, e1, e2, hr, hT⟩ := JSM (P4 := P_X4_step v1) (P5 := P_X5_step v1) (fun B gc gm hh => s_step hh u_v1 hN) h
  refine g_aload_n (pc := 310) dL_law_310 rfl ?_
  refine g_aload_n (pc := 311) dL_law_311 rfl ?_
  refine g_iload_n (pc := 312) dL_law_312 rfl ?_
  refine g_iconst (pc := 313) (v := 1) dL_law_313 (by decide +kernel) ?_
  refine g_iadd (pc := 314) dL_law_314 ?_
  refine g_sld (pc := 315) (x := v1) hX hbl hbA (by omega) (by omega) e_v1 dL_law_315 ?_
  refine g_callVi (pc := 316) (Y' := mX4_step) (As := [iv v1]) (st := []) (k := 4) (i := 0) (p_X4_step r1 g1 e1) gL_law_X4_step rfl (show 0 < 1 by omega) rfl rfl (na := 1) rfl (by decide +kernel) (by decide) (by decide) (Nat.le_of_ble_eq_true rfl) dL_law_316 (fun y4 z4 hp4 => ?_)
  obtain ⟨h4, rfl⟩ := hp4
  have t4 : some y4 = some r1 := h4
  cases t4
  refine g_pop (pc := 319) dL_law_319 rfl ?_
  refine g_aload_n (pc := 320) dL_law_320 rfl ?_
  refine g_aload_n (pc := 321) dL_law_321 rfl ?_
  refine g_iload_n (pc := 322) dL_law_322 rfl ?_
  refine g_iconst (pc := 323) (v := 1) dL_law_323 (by decide +kernel) ?_
  refine g_iadd (pc := 324) dL_law_324 ?_
  refine g_sld (pc := 325) (x := v1) hX hbl hbA (by omega) (by omega) e_v1 dL_law_325 ?_
  refine g_callVi (pc := 326) (Y' := mX5_step) (As := [iv v1]) (st := []) (k := 5) (i := 0) (p_X5_step rfl r2 g2 e2) gL_law_X5_step rfl (show 0 < 1 by omega) rfl rfl (na := 1) rfl (by decide +kernel) (by decide) (by decide) (Nat.le_of_ble_eq_true rfl) dL_law_326 (fun y5 z5 hp5 => ?_)
  obtain ⟨h5, rfl⟩ := hp5
  have t5 : some y5 = some r2 := h5
  cases t5
  refine g_pop (pc := 329) dL_law_329 rfl ?_
  refine g_goto (pc := 330) 721 dL_law_330 (by decide) ?_
  exact kk _ hT
theorem lc_deliver {i N : Nat} {g : mg_F} {v1 : Nat} (u_v1 : v1 < 4294967296) (e_v1 : xs (i + 1) = nI v1) (hi : i + 4 ≤ L) (hL : L ≤ 2048) (hX : va_X b L xs K.2.2.2.2.1 K.2.2.2.2.1.heap) (hbl : b < K.2.2.2.2.1.heap.size) (hbA : ¬ B ≤ b) (h : TT (g, g) N g g) (hN : N ≤ 1022) (kk : ∀ g', TT (g', g') (N + 2) g' g' → mg_G K (D, E, true, B) mL_law (fun v _ => v = some 1) 721 [.ref b, rv (D, E, true, B) 4 0, rv (D, E, true, B) 5 0, iv i] [] g') : mg_G K (D, E, true, B) mL_law (fun v _ => v = some 1) 333 [.ref b, rv (D, E, true, B) 4 0, rv (D, E, true, B) 5 0, iv i] [] g := by
  obtain ⟨r1, g1, r2, g2, e1, e2, hr, hT⟩ := JSM (P4 := P_X4_deliver v1) (P5 := P_X5_deliver v1) (fun B gc gm hh => s_deliver hh u_v1 (by omega)) h
  refine g_aload_n (pc := 333) dL_law_333 rfl ?_
  refine g_aload_n (pc := 334) dL_law_334 rfl ?_
  refine g_iload_n (pc := 335) dL_law_335 rfl ?_
  refine g_iconst (pc := 336) (v := 1) dL_law_336 (by decide +kernel) ?_
  refine g_iadd (pc := 337) dL_law_337 ?_
  refine g_sld (pc := 338) (x := v1) hX hbl hbA (by omega) (by omega) e_v1 dL_law_338 ?_
  refine g_callVi (pc := 339) (Y' := mX4_deliver) (As := [iv v1]) (st := []) (k := 4) (i := 0) (p_X4_deliver r1 g1 e1) gL_law_X4_deliver rfl (show 0 < 1 by omega) rfl rfl (na := 1) rfl (by decide +kernel) (by decide) (by decide) (Nat.le_of_ble_eq_true rfl) dL_law_339 (fun y4 z4 hp4 => ?_)
  obtain ⟨h4, rfl⟩ := hp4
  have t4 : some y4 = some r1 := h4
  cases t4
  refine g_pop (pc := 342) dL_law_342 rfl ?_
  refine g_aload_n (pc := 343) dL_law_343 rfl ?_
  refine g_aload_n (pc := 344) dL_law_344 rfl ?_
  refine g_iload_n (pc := 345) dL_law_345 rfl ?_
  refine g_iconst (pc := 346) (v := 1) dL_law_346 (by decide +kernel) ?_
  refine g_iadd (pc := 347) dL_law_347 ?_
  refine g_sld (pc := 348) (x := v1) hX hbl hbA (by omega) (by omega) e_v1 dL_law_348 ?_
  refine g_callVi (pc := 349) (Y' := mX5_deliver) (As := [iv v1]) (st := []) (k := 5) (i := 0) (p_X5_deliver rfl r2 g2 e2) gL_law_X5_deliver rfl (show 0 < 1 by omega) rfl rfl (na := 1) rfl (by decide +kernel) (by decide) (by decide) (Nat.le_of_ble_eq_true rfl) dL_law_349 (fun y5 z5 hp5 => ?_)
  obtain ⟨h5, rfl⟩ := hp5
  have t5 : some y5 = some r2 := h5
  cases t5
  refine g_pop (pc := 352) dL_law_352 rfl ?_
  refine g_goto (pc := 353) 721 dL_law_353 (by decide) ?_
  exact kk _ hT
theorem lc_lose {i N : Nat} {g : mg_F} {v1 : Nat} (u_v1 : v1 < 4294967296) (e_v1 : xs (i + 1) = nI v1) (hi : i + 4 ≤ L) (hL : L ≤ 2048) (hX : va_X b L xs K.2.2.2.2.1 K.2.2.2.2.1.heap) (hbl : b < K.2.2.2.2.1.heap.size) (hbA : ¬ B ≤ b) (h : TT (g, g) N g g) (hN : N ≤ 1022) (kk : ∀ g', TT (g', g') (N + 2) g' g' → mg_G K (D, E, true, B) mL_law (fun v _ => v = some 1) 721 [.ref b, rv (D, E, true, B) 4 0, rv (D, E, true, B) 5 0, iv i] [] g') : mg_G K (D, E, true, B) mL_law (fun v _ => v = some 1) 356 [.ref b, rv (D, E, true, B) 4 0, rv (D, E, true, B) 5 0, iv i] [] g := by
  obtain ⟨r1, g1, r2, g2, e1, e2, hr, hT⟩ := JSM (P4 := P_X4_lose v1) (P5 := P_X5_lose v1) (fun B gc gm hh => s_lose hh u_v1) h
  refine g_aload_n (pc := 356) dL_law_356 rfl ?_
  refine g_aload_n (pc := 357) dL_law_357 rfl ?_
  refine g_iload_n (pc := 358) dL_law_358 rfl ?_
  refine g_iconst (pc := 359) (v := 1) dL_law_359 (by decide +kernel) ?_
  refine g_iadd (pc := 360) dL_law_360 ?_
  refine g_sld (pc := 361) (x := v1) hX hbl hbA (by omega) (by omega) e_v1 dL_law_361 ?_
  refine g_callVi (pc := 362) (Y' := mX4_lose) (As := [iv v1]) (st := []) (k := 4) (i := 0) (p_X4_lose r1 g1 e1) gL_law_X4_lose rfl (show 0 < 1 by omega) rfl rfl (na := 1) rfl (by decide +kernel) (by decide) (by decide) (Nat.le_of_ble_eq_true rfl) dL_law_362 (fun y4 z4 hp4 => ?_)
  obtain ⟨h4, rfl⟩ := hp4
  have t4 : some y4 = some r1 := h4
  cases t4
  refine g_pop (pc := 365) dL_law_365 rfl ?_
  refine g_aload_n (pc := 366) dL_law_366 rfl ?_
  refine g_aload_n (pc := 367) dL_law_367 rfl ?_
  refine g_iload_n (pc := 368) dL_law_368 rfl ?_
  refine g_iconst (pc := 369) (v := 1) dL_law_369 (by decide +kernel) ?_
  refine g_iadd (pc := 370) dL_law_370 ?_
  refine g_sld (pc := 371) (x := v1) hX hbl hbA (by omega) (by omega) e_v1 dL_law_371 ?_
  refine g_callVi (pc := 372) (Y' := mX5_lose) (As := [iv v1]) (st := []) (k := 5) (i := 0) (p_X5_lose rfl r2 g2 e2) gL_law_X5_lose rfl (show 0 < 1 by omega) rfl rfl (na := 1) rfl (by decide +kernel) (by decide) (by decide) (Nat.le_of_ble_eq_true rfl) dL_law_372 (fun y5 z5 hp5 => ?_)
  obtain ⟨h5, rfl⟩ := hp5
  have t5 : some y5 = some r2 := h5
  cases t5
  refine g_pop (pc := 375) dL_law_375 rfl ?_
  refine g_goto (pc := 376) 721 dL_law_376 (by decide) ?_
  exact kk _ hT
theorem lc_twin {i N : Nat} {g : mg_F} {v1 : Nat} (u_v1 : v1 < 4294967296) (e_v1 : xs (i + 1) = nI v1) (hi : i + 4 ≤ L) (hL : L ≤ 2048) (hX : va_X b L xs K.2.2.2.2.1 K.2.2.2.2.1.heap) (hbl : b < K.2.2.2.2.1.heap.size) (hbA : ¬ B ≤ b) (h : TT (g, g) N g g) (hN : N ≤ 1022) (kk : ∀ g', TT (g', g') (N + 2) g' g' → mg_G K (D, E, true, B) mL_law (fun v _ => v = some 1) 721 [.ref b, rv (D, E, true, B) 4 0, rv (D, E, true, B) 5 0, iv i] [] g') : mg_G K (D, E, true, B) mL_law (fun v _ => v = some 1) 379 [.ref b, rv (D, E, true, B) 4 0, rv (D, E, true, B) 5 0, iv i] [] g := by
  obtain ⟨r1, g1, r2, g2, e1, e2, hr, hT⟩ := JSM (P4 := P_X4_twin v1) (P5 := P_X5_twin v1) (fun B gc gm hh => s_twin hh u_v1) h
  refine g_aload_n (pc := 379) dL_law_379 rfl ?_
  refine g_aload_n (pc := 380) dL_law_380 rfl ?_
  refine g_iload_n (pc := 381) dL_law_381 rfl ?_
  refine g_iconst (pc := 382) (v := 1) dL_law_382 (by decide +kernel) ?_
  refine g_iadd (pc := 383) dL_law_383 ?_
  refine g_sld (pc := 384) (x := v1) hX hbl hbA (by omega) (by omega) e_v1 dL_law_384 ?_
  refine g_callVi (pc := 385) (Y' := mX4_twin) (As := [iv v1]) (st := []) (k := 4) (i := 0) (p_X4_twin r1 g1 e1) gL_law_X4_twin rfl (show 0 < 1 by omega) rfl rfl (na := 1) rfl (by decide +kernel) (by decide) (by decide) (Nat.le_of_ble_eq_true rfl) dL_law_385 (fun y4 z4 hp4 => ?_)
  obtain ⟨h4, rfl⟩ := hp4
  have t4 : some y4 = some r1 := h4
  cases t4
  refine g_pop (pc := 388) dL_law_388 rfl ?_
  refine g_aload_n (pc := 389) dL_law_389 rfl ?_
  refine g_aload_n (pc := 390) dL_law_390 rfl ?_
  refine g_iload_n (pc := 391) dL_law_391 rfl ?_
  refine g_iconst (pc := 392) (v := 1) dL_law_392 (by decide +kernel) ?_
  refine g_iadd (pc := 393) dL_law_393 ?_
  refine g_sld (pc := 394) (x := v1) hX hbl hbA (by omega) (by omega) e_v1 dL_law_394 ?_
  refine g_callVi (pc := 395) (Y' := mX5_twin) (As := [iv v1]) (st := []) (k := 5) (i := 0) (p_X5_twin rfl r2 g2 e2) gL_law_X5_twin rfl (show 0 < 1 by omega) rfl rfl (na := 1) rfl (by decide +kernel) (by decide) (by decide) (Nat.le_of_ble_eq_true rfl) dL_law_395 (fun y5 z5 hp5 => ?_)
  obtain ⟨h5, rfl⟩ := hp5
  have t5 : some y5 = some r2 := h5
  cases t5
  refine g_pop (pc := 398) dL_law_398 rfl ?_
  refine g_goto (pc := 399) 721 dL_law_399 (by decide) ?_
  exact kk _ hT
theorem lc_resend {i N : Nat} {g : mg_F} {v1 : Nat} (u_v1 : v1 < 4294967296) (e_v1 : xs (i + 1) = nI v1) (hi : i + 4 ≤ L) (hL : L ≤ 2048) (hX : va_X b L xs K.2.2.2.2.1 K.2.2.2.2.1.heap) (hbl : b < K.2.2.2.2.1.heap.size) (hbA : ¬ B ≤ b) (h : TT (g, g) N g g) (hN : N ≤ 1022) (kk : ∀ g', TT (g', g') (N + 2) g' g' → mg_G K (D, E, true, B) mL_law (fun v _ => v = some 1) 721 [.ref b, rv (D, E, true, B) 4 0, rv (D, E, true, B) 5 0, iv i] [] g') : mg_G K (D, E, true, B) mL_law (fun v _ => v = some 1) 402 [.ref b, rv (D, E, true, B) 4 0, rv (D, E, true, B) 5 0, iv i] [] g := by
  obtain ⟨r1, g1, r2, g2, e1, e2, hr, hT⟩ := JSM (P4 := P_X4_resend v1) (P5 := P_X5_resend v1) (fun B gc gm hh => s_resend hh u_v1) h
  refine g_aload_n (pc := 402) dL_law_402 rfl ?_
  refine g_aload_n (pc := 403) dL_law_403 rfl ?_
  refine g_iload_n (pc := 404) dL_law_404 rfl ?_
  refine g_iconst (pc := 405) (v := 1) dL_law_405 (by decide +kernel) ?_
  refine g_iadd (pc := 406) dL_law_406 ?_
  refine g_sld (pc := 407) (x := v1) hX hbl hbA (by omega) (by omega) e_v1 dL_law_407 ?_
  refine g_callVi (pc := 408) (Y' := mX4_resend) (As := [iv v1]) (st := []) (k := 4) (i := 0) (p_X4_resend r1 g1 e1) gL_law_X4_resend rfl (show 0 < 1 by omega) rfl rfl (na := 1) rfl (by decide +kernel) (by decide) (by decide) (Nat.le_of_ble_eq_true rfl) dL_law_408 (fun y4 z4 hp4 => ?_)
  obtain ⟨h4, rfl⟩ := hp4
  have t4 : some y4 = some r1 := h4
  cases t4
  refine g_pop (pc := 411) dL_law_411 rfl ?_
  refine g_aload_n (pc := 412) dL_law_412 rfl ?_
  refine g_aload_n (pc := 413) dL_law_413 rfl ?_
  refine g_iload_n (pc := 414) dL_law_414 rfl ?_
  refine g_iconst (pc := 415) (v := 1) dL_law_415 (by decide +kernel) ?_
  refine g_iadd (pc := 416) dL_law_416 ?_
  refine g_sld (pc := 417) (x := v1) hX hbl hbA (by omega) (by omega) e_v1 dL_law_417 ?_
  refine g_callVi (pc := 418) (Y' := mX5_resend) (As := [iv v1]) (st := []) (k := 5) (i := 0) (p_X5_resend rfl r2 g2 e2) gL_law_X5_resend rfl (show 0 < 1 by omega) rfl rfl (na := 1) rfl (by decide +kernel) (by decide) (by decide) (Nat.le_of_ble_eq_true rfl) dL_law_418 (fun y5 z5 hp5 => ?_)
  obtain ⟨h5, rfl⟩ := hp5
  have t5 : some y5 = some r2 := h5
  cases t5
  refine g_pop (pc := 421) dL_law_421 rfl ?_
  refine g_goto (pc := 422) 721 dL_law_422 (by decide) ?_
  exact kk _ hT
theorem lc_crash {i N : Nat} {g : mg_F} {v1 : Nat} (u_v1 : v1 < 4294967296) (e_v1 : xs (i + 1) = nI v1) (hi : i + 4 ≤ L) (hL : L ≤ 2048) (hX : va_X b L xs K.2.2.2.2.1 K.2.2.2.2.1.heap) (hbl : b < K.2.2.2.2.1.heap.size) (hbA : ¬ B ≤ b) (h : TT (g, g) N g g) (hN : N ≤ 1022) (kk : ∀ g', TT (g', g') (N + 2) g' g' → mg_G K (D, E, true, B) mL_law (fun v _ => v = some 1) 721 [.ref b, rv (D, E, true, B) 4 0, rv (D, E, true, B) 5 0, iv i] [] g') : mg_G K (D, E, true, B) mL_law (fun v _ => v = some 1) 425 [.ref b, rv (D, E, true, B) 4 0, rv (D, E, true, B) 5 0, iv i] [] g := by
  obtain ⟨r1, g1, r2, g2, e1, e2, hr, hT⟩ := JSM (P4 := P_X4_crash v1) (P5 := P_X5_crash v1) (fun B gc gm hh => s_crash hh u_v1) h
  refine g_aload_n (pc := 425) dL_law_425 rfl ?_
  refine g_aload_n (pc := 426) dL_law_426 rfl ?_
  refine g_iload_n (pc := 427) dL_law_427 rfl ?_
  refine g_iconst (pc := 428) (v := 1) dL_law_428 (by decide +kernel) ?_
  refine g_iadd (pc := 429) dL_law_429 ?_
  refine g_sld (pc := 430) (x := v1) hX hbl hbA (by omega) (by omega) e_v1 dL_law_430 ?_
  refine g_callVi (pc := 431) (Y' := mX4_crash) (As := [iv v1]) (st := []) (k := 4) (i := 0) (p_X4_crash r1 g1 e1) gL_law_X4_crash rfl (show 0 < 1 by omega) rfl rfl (na := 1) rfl (by decide +kernel) (by decide) (by decide) (Nat.le_of_ble_eq_true rfl) dL_law_431 (fun y4 z4 hp4 => ?_)
  obtain ⟨h4, rfl⟩ := hp4
  have t4 : some y4 = some r1 := h4
  cases t4
  refine g_pop (pc := 434) dL_law_434 rfl ?_
  refine g_aload_n (pc := 435) dL_law_435 rfl ?_
  refine g_aload_n (pc := 436) dL_law_436 rfl ?_
  refine g_iload_n (pc := 437) dL_law_437 rfl ?_
  refine g_iconst (pc := 438) (v := 1) dL_law_438 (by decide +kernel) ?_
  refine g_iadd (pc := 439) dL_law_439 ?_
  refine g_sld (pc := 440) (x := v1) hX hbl hbA (by omega) (by omega) e_v1 dL_law_440 ?_
  refine g_callVi (pc := 441) (Y' := mX5_crash) (As := [iv v1]) (st := []) (k := 5) (i := 0) (p_X5_crash rfl r2 g2 e2) gL_law_X5_crash rfl (show 0 < 1 by omega) rfl rfl (na := 1) rfl (by decide +kernel) (by decide) (by decide) (Nat.le_of_ble_eq_true rfl) dL_law_441 (fun y5 z5 hp5 => ?_)
  obtain ⟨h5, rfl⟩ := hp5
  have t5 : some y5 = some r2 := h5
  cases t5
  refine g_pop (pc := 444) dL_law_444 rfl ?_
  refine g_goto (pc := 445) 721 dL_law_445 (by decide) ?_
  exact kk _ hT
theorem lc_restart {i N : Nat} {g : mg_F} {v1 : Nat} (u_v1 : v1 < 4294967296) (e_v1 : xs (i + 1) = nI v1) (hi : i + 4 ≤ L) (hL : L ≤ 2048) (hX : va_X b L xs K.2.2.2.2.1 K.2.2.2.2.1.heap) (hbl : b < K.2.2.2.2.1.heap.size) (hbA : ¬ B ≤ b) (h : TT (g, g) N g g) (hN : N ≤ 1022) (kk : ∀ g', TT (g', g') (N + 2) g' g' → mg_G K (D, E, true, B) mL_law (fun v _ => v = some 1) 721 [.ref b, rv (D, E, true, B) 4 0, rv (D, E, true, B) 5 0, iv i] [] g') : mg_G K (D, E, true, B) mL_law (fun v _ => v = some 1) 448 [.ref b, rv (D, E, true, B) 4 0, rv (D, E, true, B) 5 0, iv i] [] g := by
  obtain ⟨r1, g1, r2, g2, e1, e2, hr, hT⟩ := JSM (P4 := P_X4_restart v1) (P5 := P_X5_restart v1) (fun B gc gm hh => s_restart hh u_v1) h
  refine g_aload_n (pc := 448) dL_law_448 rfl ?_
  refine g_aload_n (pc := 449) dL_law_449 rfl ?_
  refine g_iload_n (pc := 450) dL_law_450 rfl ?_
  refine g_iconst (pc := 451) (v := 1) dL_law_451 (by decide +kernel) ?_
  refine g_iadd (pc := 452) dL_law_452 ?_
  refine g_sld (pc := 453) (x := v1) hX hbl hbA (by omega) (by omega) e_v1 dL_law_453 ?_
  refine g_callVi (pc := 454) (Y' := mX4_restart) (As := [iv v1]) (st := []) (k := 4) (i := 0) (p_X4_restart r1 g1 e1) gL_law_X4_restart rfl (show 0 < 1 by omega) rfl rfl (na := 1) rfl (by decide +kernel) (by decide) (by decide) (Nat.le_of_ble_eq_true rfl) dL_law_454 (fun y4 z4 hp4 => ?_)
  obtain ⟨h4, rfl⟩ := hp4
  have t4 : some y4 = some r1 := h4
  cases t4
  refine g_pop (pc := 457) dL_law_457 rfl ?_
  refine g_aload_n (pc := 458) dL_law_458 rfl ?_
  refine g_aload_n (pc := 459) dL_law_459 rfl ?_
  refine g_iload_n (pc := 460) dL_law_460 rfl ?_
  refine g_iconst (pc := 461) (v := 1) dL_law_461 (by decide +kernel) ?_
  refine g_iadd (pc := 462) dL_law_462 ?_
  refine g_sld (pc := 463) (x := v1) hX hbl hbA (by omega) (by omega) e_v1 dL_law_463 ?_
  refine g_callVi (pc := 464) (Y' := mX5_restart) (As := [iv v1]) (st := []) (k := 5) (i := 0) (p_X5_restart rfl r2 g2 e2) gL_law_X5_restart rfl (show 0 < 1 by omega) rfl rfl (na := 1) rfl (by decide +kernel) (by decide) (by decide) (Nat.le_of_ble_eq_true rfl) dL_law_464 (fun y5 z5 hp5 => ?_)
  obtain ⟨h5, rfl⟩ := hp5
  have t5 : some y5 = some r2 := h5
  cases t5
  refine g_pop (pc := 467) dL_law_467 rfl ?_
  refine g_goto (pc := 468) 721 dL_law_468 (by decide) ?_
  exact kk _ hT
theorem lc_cut {i N : Nat} {g : mg_F} {v1 : Nat} (u_v1 : v1 < 4294967296) (e_v1 : xs (i + 1) = nI v1) {v2 : Nat} (u_v2 : v2 < 4294967296) (e_v2 : xs (i + 2) = nI v2) (hi : i + 4 ≤ L) (hL : L ≤ 2048) (hX : va_X b L xs K.2.2.2.2.1 K.2.2.2.2.1.heap) (hbl : b < K.2.2.2.2.1.heap.size) (hbA : ¬ B ≤ b) (h : TT (g, g) N g g) (hN : N ≤ 1022) (kk : ∀ g', TT (g', g') (N + 2) g' g' → mg_G K (D, E, true, B) mL_law (fun v _ => v = some 1) 721 [.ref b, rv (D, E, true, B) 4 0, rv (D, E, true, B) 5 0, iv i] [] g') : mg_G K (D, E, true, B) mL_law (fun v _ => v = some 1) 471 [.ref b, rv (D, E, true, B) 4 0, rv (D, E, true, B) 5 0, iv i] [] g := by
  obtain ⟨r1, g1, r2, g2, e1, e2, hr, hT⟩ := JSM (P4 := P_X4_cut v1 v2) (P5 := P_X5_cut v1 v2) (fun B gc gm hh => s_cut hh u_v1 u_v2) h
  refine g_aload_n (pc := 471) dL_law_471 rfl ?_
  refine g_aload_n (pc := 472) dL_law_472 rfl ?_
  refine g_iload_n (pc := 473) dL_law_473 rfl ?_
  refine g_iconst (pc := 474) (v := 1) dL_law_474 (by decide +kernel) ?_
  refine g_iadd (pc := 475) dL_law_475 ?_
  refine g_sld (pc := 476) (x := v1) hX hbl hbA (by omega) (by omega) e_v1 dL_law_476 ?_
  refine g_aload_n (pc := 477) dL_law_477 rfl ?_
  refine g_iload_n (pc := 478) dL_law_478 rfl ?_
  refine g_iconst (pc := 479) (v := 2) dL_law_479 (by decide +kernel) ?_
  refine g_iadd (pc := 480) dL_law_480 ?_
  refine g_sld (pc := 481) (x := v2) hX hbl hbA (by omega) (by omega) e_v2 dL_law_481 ?_
  refine g_callVi (pc := 482) (Y' := mX4_cut) (As := [iv v1, iv v2]) (st := []) (k := 4) (i := 0) (p_X4_cut r1 g1 e1) gL_law_X4_cut rfl (show 0 < 1 by omega) rfl rfl (na := 2) rfl (by decide +kernel) (by decide) (by decide) (Nat.le_of_ble_eq_true rfl) dL_law_482 (fun y4 z4 hp4 => ?_)
  obtain ⟨h4, rfl⟩ := hp4
  have t4 : some y4 = some r1 := h4
  cases t4
  refine g_pop (pc := 485) dL_law_485 rfl ?_
  refine g_aload_n (pc := 486) dL_law_486 rfl ?_
  refine g_aload_n (pc := 487) dL_law_487 rfl ?_
  refine g_iload_n (pc := 488) dL_law_488 rfl ?_
  refine g_iconst (pc := 489) (v := 1) dL_law_489 (by decide +kernel) ?_
  refine g_iadd (pc := 490) dL_law_490 ?_
  refine g_sld (pc := 491) (x := v1) hX hbl hbA (by omega) (by omega) e_v1 dL_law_491 ?_
  refine g_aload_n (pc := 492) dL_law_492 rfl ?_
  refine g_iload_n (pc := 493) dL_law_493 rfl ?_
  refine g_iconst (pc := 494) (v := 2) dL_law_494 (by decide +kernel) ?_
  refine g_iadd (pc := 495) dL_law_495 ?_
  refine g_sld (pc := 496) (x := v2) hX hbl hbA (by omega) (by omega) e_v2 dL_law_496 ?_
  refine g_callVi (pc := 497) (Y' := mX5_cut) (As := [iv v1, iv v2]) (st := []) (k := 5) (i := 0) (p_X5_cut rfl r2 g2 e2) gL_law_X5_cut rfl (show 0 < 1 by omega) rfl rfl (na := 2) rfl (by decide +kernel) (by decide) (by decide) (Nat.le_of_ble_eq_true rfl) dL_law_497 (fun y5 z5 hp5 => ?_)
  obtain ⟨h5, rfl⟩ := hp5
  have t5 : some y5 = some r2 := h5
  cases t5
  refine g_pop (pc := 500) dL_law_500 rfl ?_
  refine g_goto (pc := 501) 721 dL_law_501 (by decide) ?_
  exact kk _ hT
theorem lc_join {i N : Nat} {g : mg_F} {v1 : Nat} (u_v1 : v1 < 4294967296) (e_v1 : xs (i + 1) = nI v1) {v2 : Nat} (u_v2 : v2 < 4294967296) (e_v2 : xs (i + 2) = nI v2) (hi : i + 4 ≤ L) (hL : L ≤ 2048) (hX : va_X b L xs K.2.2.2.2.1 K.2.2.2.2.1.heap) (hbl : b < K.2.2.2.2.1.heap.size) (hbA : ¬ B ≤ b) (h : TT (g, g) N g g) (hN : N ≤ 1022) (kk : ∀ g', TT (g', g') (N + 2) g' g' → mg_G K (D, E, true, B) mL_law (fun v _ => v = some 1) 721 [.ref b, rv (D, E, true, B) 4 0, rv (D, E, true, B) 5 0, iv i] [] g') : mg_G K (D, E, true, B) mL_law (fun v _ => v = some 1) 504 [.ref b, rv (D, E, true, B) 4 0, rv (D, E, true, B) 5 0, iv i] [] g := by
  obtain ⟨r1, g1, r2, g2, e1, e2, hr, hT⟩ := JSM (P4 := P_X4_join v1 v2) (P5 := P_X5_join v1 v2) (fun B gc gm hh => s_join (by omega) hh u_v1 u_v2) h
  refine g_aload_n (pc := 504) dL_law_504 rfl ?_
  refine g_aload_n (pc := 505) dL_law_505 rfl ?_
  refine g_iload_n (pc := 506) dL_law_506 rfl ?_
  refine g_iconst (pc := 507) (v := 1) dL_law_507 (by decide +kernel) ?_
  refine g_iadd (pc := 508) dL_law_508 ?_
  refine g_sld (pc := 509) (x := v1) hX hbl hbA (by omega) (by omega) e_v1 dL_law_509 ?_
  refine g_aload_n (pc := 510) dL_law_510 rfl ?_
  refine g_iload_n (pc := 511) dL_law_511 rfl ?_
  refine g_iconst (pc := 512) (v := 2) dL_law_512 (by decide +kernel) ?_
  refine g_iadd (pc := 513) dL_law_513 ?_
  refine g_sld (pc := 514) (x := v2) hX hbl hbA (by omega) (by omega) e_v2 dL_law_514 ?_
  refine g_callVi (pc := 515) (Y' := mX4_join) (As := [iv v1, iv v2]) (st := []) (k := 4) (i := 0) (p_X4_join r1 g1 e1) gL_law_X4_join rfl (show 0 < 1 by omega) rfl rfl (na := 2) rfl (by decide +kernel) (by decide) (by decide) (Nat.le_of_ble_eq_true rfl) dL_law_515 (fun y4 z4 hp4 => ?_)
  obtain ⟨h4, rfl⟩ := hp4
  have t4 : some y4 = some r1 := h4
  cases t4
  refine g_pop (pc := 518) dL_law_518 rfl ?_
  refine g_aload_n (pc := 519) dL_law_519 rfl ?_
  refine g_aload_n (pc := 520) dL_law_520 rfl ?_
  refine g_iload_n (pc := 521) dL_law_521 rfl ?_
  refine g_iconst (pc := 522) (v := 1) dL_law_522 (by decide +kernel) ?_
  refine g_iadd (pc := 523) dL_law_523 ?_
  refine g_sld (pc := 524) (x := v1) hX hbl hbA (by omega) (by omega) e_v1 dL_law_524 ?_
  refine g_aload_n (pc := 525) dL_law_525 rfl ?_
  refine g_iload_n (pc := 526) dL_law_526 rfl ?_
  refine g_iconst (pc := 527) (v := 2) dL_law_527 (by decide +kernel) ?_
  refine g_iadd (pc := 528) dL_law_528 ?_
  refine g_sld (pc := 529) (x := v2) hX hbl hbA (by omega) (by omega) e_v2 dL_law_529 ?_
  refine g_callVi (pc := 530) (Y' := mX5_join) (As := [iv v1, iv v2]) (st := []) (k := 5) (i := 0) (p_X5_join rfl r2 g2 e2) gL_law_X5_join rfl (show 0 < 1 by omega) rfl rfl (na := 2) rfl (by decide +kernel) (by decide) (by decide) (Nat.le_of_ble_eq_true rfl) dL_law_530 (fun y5 z5 hp5 => ?_)
  obtain ⟨h5, rfl⟩ := hp5
  have t5 : some y5 = some r2 := h5
  cases t5
  refine g_pop (pc := 533) dL_law_533 rfl ?_
  refine g_goto (pc := 534) 721 dL_law_534 (by decide) ?_
  exact kk _ hT
theorem lc_holder {i N : Nat} {g : mg_F}  (hi : i + 4 ≤ L) (hL : L ≤ 2048) (hX : va_X b L xs K.2.2.2.2.1 K.2.2.2.2.1.heap) (hbl : b < K.2.2.2.2.1.heap.size) (hbA : ¬ B ≤ b) (h : TT (g, g) N g g) (hN : N ≤ 1022) (kk : ∀ g', TT (g', g') (N + 2) g' g' → mg_G K (D, E, true, B) mL_law (fun v _ => v = some 1) 721 [.ref b, rv (D, E, true, B) 4 0, rv (D, E, true, B) 5 0, iv i] [] g') : mg_G K (D, E, true, B) mL_law (fun v _ => v = some 1) 537 [.ref b, rv (D, E, true, B) 4 0, rv (D, E, true, B) 5 0, iv i] [] g := by
  obtain ⟨r1, g1, r2, g2, e1, e2, hr, hT⟩ := JSM (P4 := P_X4_holder ) (P5 := P_X5_holder ) (fun B gc gm hh => s_holder hh) h
  refine g_aload_n (pc := 537) dL_law_537 rfl ?_
  refine g_callVi (pc := 538) (Y' := mX4_holder) (As := []) (st := []) (k := 4) (i := 0) (p_X4_holder r1 g1 e1) gL_law_X4_holder rfl (show 0 < 1 by omega) rfl rfl (na := 0) rfl (by decide +kernel) (by decide) (by decide) (Nat.le_of_ble_eq_true rfl) dL_law_538 (fun y4 z4 hp4 => ?_)
  obtain ⟨h4, rfl⟩ := hp4
  have t4 : some y4 = some r1 := h4
  cases t4
  refine g_pop (pc := 541) dL_law_541 rfl ?_
  refine g_aload_n (pc := 542) dL_law_542 rfl ?_
  refine g_callVi (pc := 543) (Y' := mX5_holder) (As := []) (st := []) (k := 5) (i := 0) (p_X5_holder rfl r2 g2 e2) gL_law_X5_holder rfl (show 0 < 1 by omega) rfl rfl (na := 0) rfl (by decide +kernel) (by decide) (by decide) (Nat.le_of_ble_eq_true rfl) dL_law_543 (fun y5 z5 hp5 => ?_)
  obtain ⟨h5, rfl⟩ := hp5
  have t5 : some y5 = some r2 := h5
  cases t5
  refine g_pop (pc := 546) dL_law_546 rfl ?_
  refine g_goto (pc := 547) 721 dL_law_547 (by decide) ?_
  exact kk _ hT
theorem lc_pointer {i N : Nat} {g : mg_F} {v1 : Nat} (u_v1 : v1 < 4294967296) (e_v1 : xs (i + 1) = nI v1) (hi : i + 4 ≤ L) (hL : L ≤ 2048) (hX : va_X b L xs K.2.2.2.2.1 K.2.2.2.2.1.heap) (hbl : b < K.2.2.2.2.1.heap.size) (hbA : ¬ B ≤ b) (h : TT (g, g) N g g) (hN : N ≤ 1022) (kk : ∀ g', TT (g', g') (N + 2) g' g' → mg_G K (D, E, true, B) mL_law (fun v _ => v = some 1) 721 [.ref b, rv (D, E, true, B) 4 0, rv (D, E, true, B) 5 0, iv i] [] g') : mg_G K (D, E, true, B) mL_law (fun v _ => v = some 1) 550 [.ref b, rv (D, E, true, B) 4 0, rv (D, E, true, B) 5 0, iv i] [] g := by
  obtain ⟨r1, g1, r2, g2, e1, e2, hr, hT⟩ := JSM (P4 := P_X4_pointer v1) (P5 := P_X5_pointer v1) (fun B gc gm hh => s_pointer hh u_v1) h
  refine g_aload_n (pc := 550) dL_law_550 rfl ?_
  refine g_aload_n (pc := 551) dL_law_551 rfl ?_
  refine g_iload_n (pc := 552) dL_law_552 rfl ?_
  refine g_iconst (pc := 553) (v := 1) dL_law_553 (by decide +kernel) ?_
  refine g_iadd (pc := 554) dL_law_554 ?_
  refine g_sld (pc := 555) (x := v1) hX hbl hbA (by omega) (by omega) e_v1 dL_law_555 ?_
  refine g_callVi (pc := 556) (Y' := mX4_pointer) (As := [iv v1]) (st := []) (k := 4) (i := 0) (p_X4_pointer r1 g1 e1) gL_law_X4_pointer rfl (show 0 < 1 by omega) rfl rfl (na := 1) rfl (by decide +kernel) (by decide) (by decide) (Nat.le_of_ble_eq_true rfl) dL_law_556 (fun y4 z4 hp4 => ?_)
  obtain ⟨h4, rfl⟩ := hp4
  have t4 : some y4 = some r1 := h4
  cases t4
  refine g_pop (pc := 559) dL_law_559 rfl ?_
  refine g_aload_n (pc := 560) dL_law_560 rfl ?_
  refine g_aload_n (pc := 561) dL_law_561 rfl ?_
  refine g_iload_n (pc := 562) dL_law_562 rfl ?_
  refine g_iconst (pc := 563) (v := 1) dL_law_563 (by decide +kernel) ?_
  refine g_iadd (pc := 564) dL_law_564 ?_
  refine g_sld (pc := 565) (x := v1) hX hbl hbA (by omega) (by omega) e_v1 dL_law_565 ?_
  refine g_callVi (pc := 566) (Y' := mX5_pointer) (As := [iv v1]) (st := []) (k := 5) (i := 0) (p_X5_pointer rfl r2 g2 e2) gL_law_X5_pointer rfl (show 0 < 1 by omega) rfl rfl (na := 1) rfl (by decide +kernel) (by decide) (by decide) (Nat.le_of_ble_eq_true rfl) dL_law_566 (fun y5 z5 hp5 => ?_)
  obtain ⟨h5, rfl⟩ := hp5
  have t5 : some y5 = some r2 := h5
  cases t5
  refine g_pop (pc := 569) dL_law_569 rfl ?_
  refine g_goto (pc := 570) 721 dL_law_570 (by decide) ?_
  exact kk _ hT
theorem lc_queue {i N : Nat} {g : mg_F} {v1 : Nat} (u_v1 : v1 < 4294967296) (e_v1 : xs (i + 1) = nI v1) {v2 : Nat} (u_v2 : v2 < 4294967296) (e_v2 : xs (i + 2) = nI v2) {v3 : Nat} (u_v3 : v3 < 4294967296) (e_v3 : xs (i + 3) = nI v3) (hi : i + 4 ≤ L) (hL : L ≤ 2048) (hX : va_X b L xs K.2.2.2.2.1 K.2.2.2.2.1.heap) (hbl : b < K.2.2.2.2.1.heap.size) (hbA : ¬ B ≤ b) (h : TT (g, g) N g g) (hN : N ≤ 1022) (kk : ∀ g', TT (g', g') (N + 2) g' g' → mg_G K (D, E, true, B) mL_law (fun v _ => v = some 1) 721 [.ref b, rv (D, E, true, B) 4 0, rv (D, E, true, B) 5 0, iv i] [] g') : mg_G K (D, E, true, B) mL_law (fun v _ => v = some 1) 573 [.ref b, rv (D, E, true, B) 4 0, rv (D, E, true, B) 5 0, iv i] [] g := by
  by_cases hz : v3 = 0
  · obtain ⟨r1, g1, r2, g2, e1, e2, hr, hT⟩ := JSM (P4 := P_X4_queue v1 v2 0) (P5 := P_X5_queue v1 v2 0) (fun B gc gm hh => s_queue hh u_v1 u_v2) h
    refine g_aload_n (pc := 573) dL_law_573 rfl ?_
    refine g_aload_n (pc := 574) dL_law_574 rfl ?_
    refine g_iload_n (pc := 575) dL_law_575 rfl ?_
    refine g_iconst (pc := 576) (v := 1) dL_law_576 (by decide +kernel) ?_
    refine g_iadd (pc := 577) dL_law_577 ?_
    refine g_sld (pc := 578) (x := v1) hX hbl hbA (by omega) (by omega) e_v1 dL_law_578 ?_
    refine g_aload_n (pc := 579) dL_law_579 rfl ?_
    refine g_iload_n (pc := 580) dL_law_580 rfl ?_
    refine g_iconst (pc := 581) (v := 2) dL_law_581 (by decide +kernel) ?_
    refine g_iadd (pc := 582) dL_law_582 ?_
    refine g_sld (pc := 583) (x := v2) hX hbl hbA (by omega) (by omega) e_v2 dL_law_583 ?_
    refine g_aload_n (pc := 584) dL_law_584 rfl ?_
    refine g_iload_n (pc := 585) dL_law_585 rfl ?_
    refine g_iconst (pc := 586) (v := 3) dL_law_586 (by decide +kernel) ?_
    refine g_iadd (pc := 587) dL_law_587 ?_
    refine g_sld (pc := 588) (x := v3) hX hbl hbA (by omega) (by omega) e_v3 dL_law_588 ?_
    refine g_if_eq (pc := 589) 596 dL_law_589 (by decide) u_v3 (fun _ => ?_) (fun h => absurd hz h)
    refine g_iconst (pc := 596) (v := 0) dL_law_596 (by decide +kernel) ?_
    refine g_callVi (pc := 597) (Y' := mX4_queue) (As := [iv v1, iv v2, iv 0]) (st := []) (k := 4) (i := 0) (p_X4_queue r1 g1 e1) gL_law_X4_queue rfl (show 0 < 1 by omega) rfl rfl (na := 3) rfl (by decide +kernel) (by decide) (by decide) (Nat.le_of_ble_eq_true rfl) dL_law_597 (fun y4 z4 hp4 => ?_)
    obtain ⟨h4, rfl⟩ := hp4
    have t4 : some y4 = some r1 := h4
    cases t4
    refine g_pop (pc := 600) dL_law_600 rfl ?_
    refine g_aload_n (pc := 601) dL_law_601 rfl ?_
    refine g_aload_n (pc := 602) dL_law_602 rfl ?_
    refine g_iload_n (pc := 603) dL_law_603 rfl ?_
    refine g_iconst (pc := 604) (v := 1) dL_law_604 (by decide +kernel) ?_
    refine g_iadd (pc := 605) dL_law_605 ?_
    refine g_sld (pc := 606) (x := v1) hX hbl hbA (by omega) (by omega) e_v1 dL_law_606 ?_
    refine g_aload_n (pc := 607) dL_law_607 rfl ?_
    refine g_iload_n (pc := 608) dL_law_608 rfl ?_
    refine g_iconst (pc := 609) (v := 2) dL_law_609 (by decide +kernel) ?_
    refine g_iadd (pc := 610) dL_law_610 ?_
    refine g_sld (pc := 611) (x := v2) hX hbl hbA (by omega) (by omega) e_v2 dL_law_611 ?_
    refine g_aload_n (pc := 612) dL_law_612 rfl ?_
    refine g_iload_n (pc := 613) dL_law_613 rfl ?_
    refine g_iconst (pc := 614) (v := 3) dL_law_614 (by decide +kernel) ?_
    refine g_iadd (pc := 615) dL_law_615 ?_
    refine g_sld (pc := 616) (x := v3) hX hbl hbA (by omega) (by omega) e_v3 dL_law_616 ?_
    refine g_if_eq (pc := 617) 624 dL_law_617 (by decide) u_v3 (fun _ => ?_) (fun h => absurd hz h)
    refine g_iconst (pc := 624) (v := 0) dL_law_624 (by decide +kernel) ?_
    refine g_callVi (pc := 625) (Y' := mX5_queue) (As := [iv v1, iv v2, iv 0]) (st := []) (k := 5) (i := 0) (p_X5_queue rfl r2 g2 e2) gL_law_X5_queue rfl (show 0 < 1 by omega) rfl rfl (na := 3) rfl (by decide +kernel) (by decide) (by decide) (Nat.le_of_ble_eq_true rfl) dL_law_625 (fun y5 z5 hp5 => ?_)
    obtain ⟨h5, rfl⟩ := hp5
    have t5 : some y5 = some r2 := h5
    cases t5
    refine g_pop (pc := 628) dL_law_628 rfl ?_
    refine g_goto (pc := 629) 721 dL_law_629 (by decide) ?_
    exact kk _ hT
  · obtain ⟨r1, g1, r2, g2, e1, e2, hr, hT⟩ := JSM (P4 := P_X4_queue v1 v2 1) (P5 := P_X5_queue v1 v2 1) (fun B gc gm hh => s_queue hh u_v1 u_v2) h
    refine g_aload_n (pc := 573) dL_law_573 rfl ?_
    refine g_aload_n (pc := 574) dL_law_574 rfl ?_
    refine g_iload_n (pc := 575) dL_law_575 rfl ?_
    refine g_iconst (pc := 576) (v := 1) dL_law_576 (by decide +kernel) ?_
    refine g_iadd (pc := 577) dL_law_577 ?_
    refine g_sld (pc := 578) (x := v1) hX hbl hbA (by omega) (by omega) e_v1 dL_law_578 ?_
    refine g_aload_n (pc := 579) dL_law_579 rfl ?_
    refine g_iload_n (pc := 580) dL_law_580 rfl ?_
    refine g_iconst (pc := 581) (v := 2) dL_law_581 (by decide +kernel) ?_
    refine g_iadd (pc := 582) dL_law_582 ?_
    refine g_sld (pc := 583) (x := v2) hX hbl hbA (by omega) (by omega) e_v2 dL_law_583 ?_
    refine g_aload_n (pc := 584) dL_law_584 rfl ?_
    refine g_iload_n (pc := 585) dL_law_585 rfl ?_
    refine g_iconst (pc := 586) (v := 3) dL_law_586 (by decide +kernel) ?_
    refine g_iadd (pc := 587) dL_law_587 ?_
    refine g_sld (pc := 588) (x := v3) hX hbl hbA (by omega) (by omega) e_v3 dL_law_588 ?_
    refine g_if_eq (pc := 589) 596 dL_law_589 (by decide) u_v3 (fun h => absurd h hz) (fun _ => ?_)
    refine g_iconst (pc := 592) (v := 1) dL_law_592 (by decide +kernel) ?_
    refine g_goto (pc := 593) 597 dL_law_593 (by decide) ?_
    refine g_callVi (pc := 597) (Y' := mX4_queue) (As := [iv v1, iv v2, iv 1]) (st := []) (k := 4) (i := 0) (p_X4_queue r1 g1 e1) gL_law_X4_queue rfl (show 0 < 1 by omega) rfl rfl (na := 3) rfl (by decide +kernel) (by decide) (by decide) (Nat.le_of_ble_eq_true rfl) dL_law_597 (fun y4 z4 hp4 => ?_)
    obtain ⟨h4, rfl⟩ := hp4
    have t4 : some y4 = some r1 := h4
    cases t4
    refine g_pop (pc := 600) dL_law_600 rfl ?_
    refine g_aload_n (pc := 601) dL_law_601 rfl ?_
    refine g_aload_n (pc := 602) dL_law_602 rfl ?_
    refine g_iload_n (pc := 603) dL_law_603 rfl ?_
    refine g_iconst (pc := 604) (v := 1) dL_law_604 (by decide +kernel) ?_
    refine g_iadd (pc := 605) dL_law_605 ?_
    refine g_sld (pc := 606) (x := v1) hX hbl hbA (by omega) (by omega) e_v1 dL_law_606 ?_
    refine g_aload_n (pc := 607) dL_law_607 rfl ?_
    refine g_iload_n (pc := 608) dL_law_608 rfl ?_
    refine g_iconst (pc := 609) (v := 2) dL_law_609 (by decide +kernel) ?_
    refine g_iadd (pc := 610) dL_law_610 ?_
    refine g_sld (pc := 611) (x := v2) hX hbl hbA (by omega) (by omega) e_v2 dL_law_611 ?_
    refine g_aload_n (pc := 612) dL_law_612 rfl ?_
    refine g_iload_n (pc := 613) dL_law_613 rfl ?_
    refine g_iconst (pc := 614) (v := 3) dL_law_614 (by decide +kernel) ?_
    refine g_iadd (pc := 615) dL_law_615 ?_
    refine g_sld (pc := 616) (x := v3) hX hbl hbA (by omega) (by omega) e_v3 dL_law_616 ?_
    refine g_if_eq (pc := 617) 624 dL_law_617 (by decide) u_v3 (fun h => absurd h hz) (fun _ => ?_)
    refine g_iconst (pc := 620) (v := 1) dL_law_620 (by decide +kernel) ?_
    refine g_goto (pc := 621) 625 dL_law_621 (by decide) ?_
    refine g_callVi (pc := 625) (Y' := mX5_queue) (As := [iv v1, iv v2, iv 1]) (st := []) (k := 5) (i := 0) (p_X5_queue rfl r2 g2 e2) gL_law_X5_queue rfl (show 0 < 1 by omega) rfl rfl (na := 3) rfl (by decide +kernel) (by decide) (by decide) (Nat.le_of_ble_eq_true rfl) dL_law_625 (fun y5 z5 hp5 => ?_)
    obtain ⟨h5, rfl⟩ := hp5
    have t5 : some y5 = some r2 := h5
    cases t5
    refine g_pop (pc := 628) dL_law_628 rfl ?_
    refine g_goto (pc := 629) 721 dL_law_629 (by decide) ?_
    exact kk _ hT
theorem lc_letter {i N : Nat} {g : mg_F} {v1 : Nat} (u_v1 : v1 < 4294967296) (e_v1 : xs (i + 1) = nI v1) {v2 : Nat} (u_v2 : v2 < 4294967296) (e_v2 : xs (i + 2) = nI v2) (hi : i + 4 ≤ L) (hL : L ≤ 2048) (hX : va_X b L xs K.2.2.2.2.1 K.2.2.2.2.1.heap) (hbl : b < K.2.2.2.2.1.heap.size) (hbA : ¬ B ≤ b) (h : TT (g, g) N g g) (hN : N ≤ 1022) (kk : ∀ g', TT (g', g') (N + 2) g' g' → mg_G K (D, E, true, B) mL_law (fun v _ => v = some 1) 721 [.ref b, rv (D, E, true, B) 4 0, rv (D, E, true, B) 5 0, iv i] [] g') : mg_G K (D, E, true, B) mL_law (fun v _ => v = some 1) 632 [.ref b, rv (D, E, true, B) 4 0, rv (D, E, true, B) 5 0, iv i] [] g := by
  obtain ⟨r1, g1, r2, g2, e1, e2, hr, hT⟩ := JSM (P4 := P_X4_letter v1 v2) (P5 := P_X5_letter v1 v2) (fun B gc gm hh => s_letter hh u_v1 u_v2) h
  refine g_aload_n (pc := 632) dL_law_632 rfl ?_
  refine g_aload_n (pc := 633) dL_law_633 rfl ?_
  refine g_iload_n (pc := 634) dL_law_634 rfl ?_
  refine g_iconst (pc := 635) (v := 1) dL_law_635 (by decide +kernel) ?_
  refine g_iadd (pc := 636) dL_law_636 ?_
  refine g_sld (pc := 637) (x := v1) hX hbl hbA (by omega) (by omega) e_v1 dL_law_637 ?_
  refine g_aload_n (pc := 638) dL_law_638 rfl ?_
  refine g_iload_n (pc := 639) dL_law_639 rfl ?_
  refine g_iconst (pc := 640) (v := 2) dL_law_640 (by decide +kernel) ?_
  refine g_iadd (pc := 641) dL_law_641 ?_
  refine g_sld (pc := 642) (x := v2) hX hbl hbA (by omega) (by omega) e_v2 dL_law_642 ?_
  refine g_callVi (pc := 643) (Y' := mX4_letter) (As := [iv v1, iv v2]) (st := []) (k := 4) (i := 0) (p_X4_letter r1 g1 e1) gL_law_X4_letter rfl (show 0 < 1 by omega) rfl rfl (na := 2) rfl (by decide +kernel) (by decide) (by decide) (Nat.le_of_ble_eq_true rfl) dL_law_643 (fun y4 z4 hp4 => ?_)
  obtain ⟨h4, rfl⟩ := hp4
  have t4 : some y4 = some r1 := h4
  cases t4
  refine g_aload_n (pc := 646) dL_law_646 rfl ?_
  refine g_aload_n (pc := 647) dL_law_647 rfl ?_
  refine g_iload_n (pc := 648) dL_law_648 rfl ?_
  refine g_iconst (pc := 649) (v := 1) dL_law_649 (by decide +kernel) ?_
  refine g_iadd (pc := 650) dL_law_650 ?_
  refine g_sld (pc := 651) (x := v1) hX hbl hbA (by omega) (by omega) e_v1 dL_law_651 ?_
  refine g_aload_n (pc := 652) dL_law_652 rfl ?_
  refine g_iload_n (pc := 653) dL_law_653 rfl ?_
  refine g_iconst (pc := 654) (v := 2) dL_law_654 (by decide +kernel) ?_
  refine g_iadd (pc := 655) dL_law_655 ?_
  refine g_sld (pc := 656) (x := v2) hX hbl hbA (by omega) (by omega) e_v2 dL_law_656 ?_
  refine g_callVi (pc := 657) (Y' := mX5_letter) (As := [iv v1, iv v2]) (st := [iv r1]) (k := 5) (i := 0) (p_X5_letter rfl r2 g2 e2) gL_law_X5_letter rfl (show 0 < 1 by omega) rfl rfl (na := 2) rfl (by decide +kernel) (by decide) (by decide) (Nat.le_of_ble_eq_true rfl) dL_law_657 (fun y5 z5 hp5 => ?_)
  obtain ⟨h5, rfl⟩ := hp5
  have t5 : some y5 = some r2 := h5
  cases t5
  refine g_sveq (pc := 660) 721 dL_law_660 (by decide) hr ?_
  exact kk _ hT
theorem lc_told {i N : Nat} {g : mg_F} {v1 : Nat} (u_v1 : v1 < 4294967296) (e_v1 : xs (i + 1) = nI v1) {v2 : Nat} (u_v2 : v2 < 4294967296) (e_v2 : xs (i + 2) = nI v2) (hi : i + 4 ≤ L) (hL : L ≤ 2048) (hX : va_X b L xs K.2.2.2.2.1 K.2.2.2.2.1.heap) (hbl : b < K.2.2.2.2.1.heap.size) (hbA : ¬ B ≤ b) (h : TT (g, g) N g g) (hN : N ≤ 1022) (kk : ∀ g', TT (g', g') (N + 2) g' g' → mg_G K (D, E, true, B) mL_law (fun v _ => v = some 1) 721 [.ref b, rv (D, E, true, B) 4 0, rv (D, E, true, B) 5 0, iv i] [] g') : mg_G K (D, E, true, B) mL_law (fun v _ => v = some 1) 665 [.ref b, rv (D, E, true, B) 4 0, rv (D, E, true, B) 5 0, iv i] [] g := by
  obtain ⟨r1, g1, r2, g2, e1, e2, hT⟩ := JSN (P4 := P_X4_told v1 v2) (P5 := P_X5_told v1 v2) (fun B gc gm hh => s_told hh u_v1) h
  refine g_aload_n (pc := 665) dL_law_665 rfl ?_
  refine g_aload_n (pc := 666) dL_law_666 rfl ?_
  refine g_iload_n (pc := 667) dL_law_667 rfl ?_
  refine g_iconst (pc := 668) (v := 1) dL_law_668 (by decide +kernel) ?_
  refine g_iadd (pc := 669) dL_law_669 ?_
  refine g_sld (pc := 670) (x := v1) hX hbl hbA (by omega) (by omega) e_v1 dL_law_670 ?_
  refine g_aload_n (pc := 671) dL_law_671 rfl ?_
  refine g_iload_n (pc := 672) dL_law_672 rfl ?_
  refine g_iconst (pc := 673) (v := 2) dL_law_673 (by decide +kernel) ?_
  refine g_iadd (pc := 674) dL_law_674 ?_
  refine g_sld (pc := 675) (x := v2) hX hbl hbA (by omega) (by omega) e_v2 dL_law_675 ?_
  refine g_callVi (pc := 676) (Y' := mX4_told) (As := [iv v1, iv v2]) (st := []) (k := 4) (i := 0) (p_X4_told r1 g1 e1) gL_law_X4_told rfl (show 0 < 1 by omega) rfl rfl (na := 2) rfl (by decide +kernel) (by decide) (by decide) (Nat.le_of_ble_eq_true rfl) dL_law_676 (fun y4 z4 hp4 => ?_)
  obtain ⟨h4, rfl⟩ := hp4
  have t4 : some y4 = some r1 := h4
  cases t4
  refine g_pop (pc := 679) dL_law_679 rfl ?_
  refine g_aload_n (pc := 680) dL_law_680 rfl ?_
  refine g_aload_n (pc := 681) dL_law_681 rfl ?_
  refine g_iload_n (pc := 682) dL_law_682 rfl ?_
  refine g_iconst (pc := 683) (v := 1) dL_law_683 (by decide +kernel) ?_
  refine g_iadd (pc := 684) dL_law_684 ?_
  refine g_sld (pc := 685) (x := v1) hX hbl hbA (by omega) (by omega) e_v1 dL_law_685 ?_
  refine g_aload_n (pc := 686) dL_law_686 rfl ?_
  refine g_iload_n (pc := 687) dL_law_687 rfl ?_
  refine g_iconst (pc := 688) (v := 2) dL_law_688 (by decide +kernel) ?_
  refine g_iadd (pc := 689) dL_law_689 ?_
  refine g_sld (pc := 690) (x := v2) hX hbl hbA (by omega) (by omega) e_v2 dL_law_690 ?_
  refine g_callVi (pc := 691) (Y' := mX5_told) (As := [iv v1, iv v2]) (st := []) (k := 5) (i := 0) (p_X5_told rfl r2 g2 e2) gL_law_X5_told rfl (show 0 < 1 by omega) rfl rfl (na := 2) rfl (by decide +kernel) (by decide) (by decide) (Nat.le_of_ble_eq_true rfl) dL_law_691 (fun y5 z5 hp5 => ?_)
  obtain ⟨h5, rfl⟩ := hp5
  have t5 : some y5 = some r2 := h5
  cases t5
  refine g_pop (pc := 694) dL_law_694 rfl ?_
  refine g_goto (pc := 695) 721 dL_law_695 (by decide) ?_
  exact kk _ hT
theorem lc_count {i N : Nat} {g : mg_F} {v1 : Nat} (u_v1 : v1 < 4294967296) (e_v1 : xs (i + 1) = nI v1) (hi : i + 4 ≤ L) (hL : L ≤ 2048) (hX : va_X b L xs K.2.2.2.2.1 K.2.2.2.2.1.heap) (hbl : b < K.2.2.2.2.1.heap.size) (hbA : ¬ B ≤ b) (h : TT (g, g) N g g) (hN : N ≤ 1022) (kk : ∀ g', TT (g', g') (N + 2) g' g' → mg_G K (D, E, true, B) mL_law (fun v _ => v = some 1) 721 [.ref b, rv (D, E, true, B) 4 0, rv (D, E, true, B) 5 0, iv i] [] g') : mg_G K (D, E, true, B) mL_law (fun v _ => v = some 1) 698 [.ref b, rv (D, E, true, B) 4 0, rv (D, E, true, B) 5 0, iv i] [] g := by
  obtain ⟨r1, g1, r2, g2, e1, e2, hT⟩ := JSN (P4 := P_X4_count v1) (P5 := P_X5_count v1) (fun B gc gm hh => (s_count hh u_v1 (by omega)).1) h
  refine g_aload_n (pc := 698) dL_law_698 rfl ?_
  refine g_aload_n (pc := 699) dL_law_699 rfl ?_
  refine g_iload_n (pc := 700) dL_law_700 rfl ?_
  refine g_iconst (pc := 701) (v := 1) dL_law_701 (by decide +kernel) ?_
  refine g_iadd (pc := 702) dL_law_702 ?_
  refine g_sld (pc := 703) (x := v1) hX hbl hbA (by omega) (by omega) e_v1 dL_law_703 ?_
  refine g_callVi (pc := 704) (Y' := mX4_count) (As := [iv v1]) (st := []) (k := 4) (i := 0) (p_X4_count r1 g1 e1) gL_law_X4_count rfl (show 0 < 1 by omega) rfl rfl (na := 1) rfl (by decide +kernel) (by decide) (by decide) (Nat.le_of_ble_eq_true rfl) dL_law_704 (fun y4 z4 hp4 => ?_)
  obtain ⟨h4, rfl⟩ := hp4
  have t4 : some y4 = some r1 := h4
  cases t4
  refine g_pop (pc := 707) dL_law_707 rfl ?_
  refine g_aload_n (pc := 708) dL_law_708 rfl ?_
  refine g_aload_n (pc := 709) dL_law_709 rfl ?_
  refine g_iload_n (pc := 710) dL_law_710 rfl ?_
  refine g_iconst (pc := 711) (v := 1) dL_law_711 (by decide +kernel) ?_
  refine g_iadd (pc := 712) dL_law_712 ?_
  refine g_sld (pc := 713) (x := v1) hX hbl hbA (by omega) (by omega) e_v1 dL_law_713 ?_
  refine g_callVi (pc := 714) (Y' := mX5_count) (As := [iv v1]) (st := []) (k := 5) (i := 0) (p_X5_count rfl r2 g2 e2) gL_law_X5_count rfl (show 0 < 1 by omega) rfl rfl (na := 1) rfl (by decide +kernel) (by decide) (by decide) (Nat.le_of_ble_eq_true rfl) dL_law_714 (fun y5 z5 hp5 => ?_)
  obtain ⟨h5, rfl⟩ := hp5
  have t5 : some y5 = some r2 := h5
  cases t5
  refine g_pop (pc := 717) dL_law_717 rfl ?_
  refine g_goto (pc := 718) 721 dL_law_718 (by decide) ?_
  exact kk _ hT
theorem sv_sb4 {L : Nat} (hL : L ≤ 2048) : sv (sb L 4) = (L : Int) - 4 := by
  by_cases c : 4 ≤ L
  · rw [sb_le c, sv_nat (by omega)]; omega
  · unfold sb; rw [if_neg c, sv_big (by omega) (by omega)]; omega
theorem law_loop (hL : L ≤ 2048) (hX : va_X b L xs K.2.2.2.2.1 K.2.2.2.2.1.heap) (hbl : b < K.2.2.2.2.1.heap.size) (hbA : ¬ B ≤ b) : ∀ (r i N : Nat) (g : mg_F), L ≤ i + 4 * r + 3 → i ≤ 2048 → N + 2 * r ≤ 1024 → TT (g, g) N g g → mg_G K (D, E, true, B) mL_law (fun v _ => v = some 1) 18 [.ref b, rv (D, E, true, B) 4 0, rv (D, E, true, B) 5 0, iv i] [] g := by
  intro r
  induction r with
  | zero =>
    intro i N g h1 h2 h3 h
    refine g_iload_n (pc := 18) dL_law_18 rfl ?_
    refine g_aload_n (pc := 19) dL_law_19 rfl ?_
    refine g_slen (pc := 20) hX hbl hbA dL_law_20 ?_
    refine g_iconst (pc := 21) (v := 4) dL_law_21 (by decide +kernel) ?_
    refine g_isubw (pc := 22) (c := sb L 4) (nI_sb L 4) dL_law_22 ?_
    refine g_svgt (pc := 23) 727 dL_law_23 (by decide) (fun _ => ?_) (fun q => absurd (show sv (sb L 4) < sv i by rw [sv_sb4 hL, sv_nat (show i < 2147483648 by omega)]; omega) q)
    refine g_iconst (pc := 727) (v := 1) dL_law_727 (by decide +kernel) ?_
    exact g_iret (pc := 728) dL_law_728 ⟨mg_narZ (by decide), Or.inr rfl⟩ rfl
  | succ r ih =>
    intro i N g h1 h2 h3 h
    refine g_iload_n (pc := 18) dL_law_18 rfl ?_
    refine g_aload_n (pc := 19) dL_law_19 rfl ?_
    refine g_slen (pc := 20) hX hbl hbA dL_law_20 ?_
    refine g_iconst (pc := 21) (v := 4) dL_law_21 (by decide +kernel) ?_
    refine g_isubw (pc := 22) (c := sb L 4) (nI_sb L 4) dL_law_22 ?_
    refine g_svgt (pc := 23) 727 dL_law_23 (by decide) (fun _ => ?_) (fun q => ?_)
    · refine g_iconst (pc := 727) (v := 1) dL_law_727 (by decide +kernel) ?_
      exact g_iret (pc := 728) dL_law_728 ⟨mg_narZ (by decide), Or.inr rfl⟩ rfl
    · rw [sv_sb4 hL, sv_nat (show i < 2147483648 by omega)] at q
      have hi : i + 4 ≤ L := by omega
      have hN : N ≤ 1022 := by omega
      have kk : ∀ N' g', N' = N ∨ N' = N + 2 → TT (g', g') N' g' g' → mg_G K (D, E, true, B) mL_law (fun v _ => v = some 1) 721 [.ref b, rv (D, E, true, B) 4 0, rv (D, E, true, B) 5 0, iv i] [] g' := by
        intro N' g' hN' hT
        refine g_iinc (pc := 721) (v := i + 4) (ls' := [.ref b, rv (D, E, true, B) 4 0, rv (D, E, true, B) 5 0, iv (i + 4)]) dL_law_721 (Nat.le_of_ble_eq_true rfl) rfl ?_ rfl ?_
        · rw [← nI_add]; congr 1
        refine g_goto (pc := 724) 18 dL_law_724 (by decide) ?_
        exact ih (i + 4) N' g' (by omega) (by omega) (by omega) hT
      obtain ⟨v0, u_v0, e_v0⟩ := mg_any (xs i)
      obtain ⟨v1, u_v1, e_v1⟩ := mg_any (xs (i + 1))
      obtain ⟨v2, u_v2, e_v2⟩ := mg_any (xs (i + 2))
      obtain ⟨v3, u_v3, e_v3⟩ := mg_any (xs (i + 3))
      have kk2 := fun g' hT => kk (N + 2) g' (Or.inr rfl) hT
      refine g_aload_n (pc := 26) dL_law_26 rfl ?_
      refine g_iload_n (pc := 27) dL_law_27 rfl ?_
      refine g_sld (pc := 28) (x := v0) hX hbl hbA (by omega) (by omega) e_v0 dL_law_28 ?_
      refine g_bipush (pc := 29) (v := 31) dL_law_29 (by decide +kernel) ?_
      refine g_iand (pc := 31) dL_law_31 ?_
      have hw : v0 &&& 31 ≤ 31 := Nat.and_le_right
      generalize v0 &&& 31 = w at hw ⊢
      rcases (show w = 0 ∨ w = 1 ∨ w = 2 ∨ w = 3 ∨ w = 4 ∨ w = 5 ∨ w = 6 ∨ w = 7 ∨ w = 8 ∨ w = 9 ∨ w = 10 ∨ w = 11 ∨ w = 12 ∨ w = 13 ∨ w = 14 ∨ w = 15 ∨ w = 16 ∨ w = 17 ∨ w = 18 ∨ w = 19 ∨ w = 20 ∨ 21 ≤ w by omega) with rfl | rfl | rfl | rfl | rfl | rfl | rfl | rfl | rfl | rfl | rfl | rfl | rfl | rfl | rfl | rfl | rfl | rfl | rfl | rfl | rfl | h21
      · refine g_switchIn (pc := 32) 132 dL_law_32 (by decide) (by decide) (by decide) rfl (by decide) ?_
        exact lc_canal u_v1 e_v1 hi hL hX hbl hbA h hN kk2
      · refine g_switchIn (pc := 32) 155 dL_law_32 (by decide) (by decide) (by decide) rfl (by decide) ?_
        exact lc_link u_v1 e_v1 u_v2 e_v2 hi hL hX hbl hbA h hN kk2
      · refine g_switchIn (pc := 32) 188 dL_law_32 (by decide) (by decide) (by decide) rfl (by decide) ?_
        exact lc_open u_v1 e_v1 u_v2 e_v2 u_v3 e_v3 hi hL hX hbl hbA h hN kk2
      · refine g_switchIn (pc := 32) 231 dL_law_32 (by decide) (by decide) (by decide) rfl (by decide) ?_
        exact lc_want u_v1 e_v1 u_v2 e_v2 hi hL hX hbl hbA h hN kk2
      · refine g_switchIn (pc := 32) 264 dL_law_32 (by decide) (by decide) (by decide) rfl (by decide) ?_
        exact lc_begin u_v1 e_v1 hi hL hX hbl hbA h hN kk2
      · refine g_switchIn (pc := 32) 287 dL_law_32 (by decide) (by decide) (by decide) rfl (by decide) ?_
        exact lc_end u_v1 e_v1 hi hL hX hbl hbA h hN kk2
      · refine g_switchIn (pc := 32) 310 dL_law_32 (by decide) (by decide) (by decide) rfl (by decide) ?_
        exact lc_step u_v1 e_v1 hi hL hX hbl hbA h hN kk2
      · refine g_switchIn (pc := 32) 333 dL_law_32 (by decide) (by decide) (by decide) rfl (by decide) ?_
        exact lc_deliver u_v1 e_v1 hi hL hX hbl hbA h hN kk2
      · refine g_switchIn (pc := 32) 356 dL_law_32 (by decide) (by decide) (by decide) rfl (by decide) ?_
        exact lc_lose u_v1 e_v1 hi hL hX hbl hbA h hN kk2
      · refine g_switchIn (pc := 32) 379 dL_law_32 (by decide) (by decide) (by decide) rfl (by decide) ?_
        exact lc_twin u_v1 e_v1 hi hL hX hbl hbA h hN kk2
      · refine g_switchIn (pc := 32) 402 dL_law_32 (by decide) (by decide) (by decide) rfl (by decide) ?_
        exact lc_resend u_v1 e_v1 hi hL hX hbl hbA h hN kk2
      · refine g_switchIn (pc := 32) 425 dL_law_32 (by decide) (by decide) (by decide) rfl (by decide) ?_
        exact lc_crash u_v1 e_v1 hi hL hX hbl hbA h hN kk2
      · refine g_switchIn (pc := 32) 448 dL_law_32 (by decide) (by decide) (by decide) rfl (by decide) ?_
        exact lc_restart u_v1 e_v1 hi hL hX hbl hbA h hN kk2
      · refine g_switchIn (pc := 32) 471 dL_law_32 (by decide) (by decide) (by decide) rfl (by decide) ?_
        exact lc_cut u_v1 e_v1 u_v2 e_v2 hi hL hX hbl hbA h hN kk2
      · refine g_switchIn (pc := 32) 504 dL_law_32 (by decide) (by decide) (by decide) rfl (by decide) ?_
        exact lc_join u_v1 e_v1 u_v2 e_v2 hi hL hX hbl hbA h hN kk2
      · refine g_switchIn (pc := 32) 537 dL_law_32 (by decide) (by decide) (by decide) rfl (by decide) ?_
        exact lc_holder  hi hL hX hbl hbA h hN kk2
      · refine g_switchIn (pc := 32) 550 dL_law_32 (by decide) (by decide) (by decide) rfl (by decide) ?_
        exact lc_pointer u_v1 e_v1 hi hL hX hbl hbA h hN kk2
      · refine g_switchIn (pc := 32) 573 dL_law_32 (by decide) (by decide) (by decide) rfl (by decide) ?_
        exact lc_queue u_v1 e_v1 u_v2 e_v2 u_v3 e_v3 hi hL hX hbl hbA h hN kk2
      · refine g_switchIn (pc := 32) 632 dL_law_32 (by decide) (by decide) (by decide) rfl (by decide) ?_
        exact lc_letter u_v1 e_v1 u_v2 e_v2 hi hL hX hbl hbA h hN kk2
      · refine g_switchIn (pc := 32) 665 dL_law_32 (by decide) (by decide) (by decide) rfl (by decide) ?_
        exact lc_told u_v1 e_v1 u_v2 e_v2 hi hL hX hbl hbA h hN kk2
      · refine g_switchIn (pc := 32) 698 dL_law_32 (by decide) (by decide) (by decide) rfl (by decide) ?_
        exact lc_count u_v1 e_v1 hi hL hX hbl hbA h hN kk2
      · refine g_switchOut (pc := 32) 721 dL_law_32 (by omega) (Or.inr ?_) (by decide) ?_
        · unfold mg_sg; rw [if_pos (by omega)]; omega
        · exact kk N g (Or.inl rfl) h
theorem law_main (hL : L ≤ 2048) (hX : va_X b L xs K.2.2.2.2.1 K.2.2.2.2.1.heap) (hbl : b < K.2.2.2.2.1.heap.size) (hbA : ¬ B ≤ b) : mg_G K (D, E, true, B) mL_law (fun v _ => v = some 1) 18 [.ref b, rv (D, E, true, B) 4 0, rv (D, E, true, B) 5 0, iv 0] [] qms6 := law_loop hL hX hbl hbA 512 0 0 qms6 (by omega) (by omega) (by omega) TT_start
end LAWC
