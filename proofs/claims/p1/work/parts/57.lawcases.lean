/-! ===== the law's cases ===== -/
abbrev mL_law : mg_Yt := (cL_law, yL_law, 4, some .boolean, lw_tbl, 7)
section LAWC
variable {K : mg_Kt} {D : va_G} {E : mg_E} {B b L : Nat} {xs : Nat → Int32}
theorem g_slen {Z : mg_Zt} {Y : mg_Yt} {post : Option Nat → mg_F → Prop} {pc : Nat} {ls st : List Value} {g : mg_F} (hX : va_X b L xs K.2.2.2.2.1 K.2.2.2.2.1.heap) (hbl : b < K.2.2.2.2.1.heap.size) (hbA : ¬ Z.2.2.2 ≤ b) (hd : decode Y.1 pc = .ok (.arraylength, 1)) (kk : mg_G K Z Y post (pc + 1) ls (iv L :: st) g) : mg_G K Z Y post pc ls (.ref b :: st) g := by
  intro hF H locs la hP hS hL
  exact va_slen hF.1 hF.2.1 hX hbl hbA hS hd (kk hF H locs la hP hS hL)
theorem g_sld {Z : mg_Zt} {Y : mg_Yt} {post : Option Nat → mg_F → Prop} {pc j x : Nat} {ls st : List Value} {g : mg_F} (hX : va_X b L xs K.2.2.2.2.1 K.2.2.2.2.1.heap) (hbl : b < K.2.2.2.2.1.heap.size) (hbA : ¬ Z.2.2.2 ≤ b) (hj : j < L) (hL0 : L < 2147483648) (hx : xs j = nI x) (hd : decode Y.1 pc = .ok (.iaload, 1)) (kk : mg_G K Z Y post (pc + 1) ls (iv x :: st) g) : mg_G K Z Y post pc ls (iv j :: .ref b :: st) g := by
  intro hF H locs la hP hS hL
  refine va_sld hF.1 hF.2.1 hX hbl hbA hS (vp_in_nI hj hL0) hd ?_
  rw [nI_clamp (show j < 2 ^ 31 by omega), hx]
  exact kk hF H locs la hP hS hL
/-- behind a call: the loop's end -/
theorem law_tail {g : mg_F} (hX : va_X b 4 xs K.2.2.2.2.1 K.2.2.2.2.1.heap) (hbl : b < K.2.2.2.2.1.heap.size) (hbA : ¬ B ≤ b) : mg_G K (D, E, true, B) mL_law (fun v _ => v = some 1) 721 [.ref b, rv (D, E, true, B) 4 0, rv (D, E, true, B) 5 0, iv 0] [] g := by
  refine g_iinc (pc := 721) (v := 4) (ls' := [.ref b, rv (D, E, true, B) 4 0, rv (D, E, true, B) 5 0, iv 4]) dL_law_721 (Nat.le_of_ble_eq_true rfl) rfl (by decide +kernel) rfl ?_
  refine g_goto (pc := 724) 18 dL_law_724 (by decide) ?_
  refine g_iload_n (pc := 18) dL_law_18 rfl ?_
  refine g_aload_n (pc := 19) dL_law_19 rfl ?_
  refine g_slen (pc := 20) hX hbl hbA dL_law_20 ?_
  refine g_iconst (pc := 21) (v := 4) dL_law_21 (by decide +kernel) ?_
  refine g_isub (pc := 22) (by decide) dL_law_22 ?_
  refine g_top (b := 0) (by decide) ?_
  refine g_icmp_gt (pc := 23) 727 dL_law_23 (by decide) (by decide) (by decide) (fun _ => ?_) (fun h => absurd (by decide) h)
  refine g_iconst (pc := 727) (v := 1) dL_law_727 (by decide +kernel) ?_
  exact g_iret (pc := 728) dL_law_728 ⟨mg_narZ (by decide), Or.inr rfl⟩ rfl
theorem lc_canal {v1 : Nat} (u_v1 : v1 < 4294967296) (e_v1 : xs 1 = nI v1) (hX : va_X b 4 xs K.2.2.2.2.1 K.2.2.2.2.1.heap) (hbl : b < K.2.2.2.2.1.heap.size) (hbA : ¬ B ≤ b) : mg_G K (D, E, true, B) mL_law (fun v _ => v = some 1) 132 [.ref b, rv (D, E, true, B) 4 0, rv (D, E, true, B) 5 0, iv 0] [] qms6 := by
  obtain ⟨r, g1, g2, hr, c1, c2⟩ := ap_canal (D := D) (E := E) (B := B) v1 u_v1
  refine g_aload_n (pc := 132) dL_law_132 rfl ?_
  refine g_aload_n (pc := 133) dL_law_133 rfl ?_
  refine g_iload_n (pc := 134) dL_law_134 rfl ?_
  refine g_iconst (pc := 135) (v := 1) dL_law_135 (by decide +kernel) ?_
  refine g_iadd (pc := 136) dL_law_136 ?_
  refine g_top (b := 1) (by decide) ?_
  refine g_sld (pc := 137) (x := v1) hX hbl hbA (by decide) (by decide) e_v1 dL_law_137 ?_
  refine g_callVi (pc := 138) (Y' := mX4_canal) (As := [iv v1]) (st := []) (k := 4) (i := 0) (c1 K.2.1) gL_law_X4_canal rfl (show 0 < 1 by omega) rfl rfl (na := 1) rfl (by decide +kernel) (by decide) (by decide) (Nat.le_of_ble_eq_true rfl) dL_law_138 (fun r1 g3 hp => ?_)
  obtain ⟨h1, rfl⟩ := hp
  cases h1
  refine g_aload_n (pc := 141) dL_law_141 rfl ?_
  refine g_aload_n (pc := 142) dL_law_142 rfl ?_
  refine g_iload_n (pc := 143) dL_law_143 rfl ?_
  refine g_iconst (pc := 144) (v := 1) dL_law_144 (by decide +kernel) ?_
  refine g_iadd (pc := 145) dL_law_145 ?_
  refine g_top (b := 1) (by decide) ?_
  refine g_sld (pc := 146) (x := v1) hX hbl hbA (by decide) (by decide) e_v1 dL_law_146 ?_
  refine g_callVi (pc := 147) (Y' := mX5_canal) (As := [iv v1]) (st := [iv r]) (k := 5) (i := 0) (c2 K.2.1) gL_law_X5_canal rfl (show 0 < 1 by omega) rfl rfl (na := 1) rfl (by decide +kernel) (by decide) (by decide) (Nat.le_of_ble_eq_true rfl) dL_law_147 (fun r1 g3 hp => ?_)
  obtain ⟨h1, rfl⟩ := hp
  cases h1
  exact g_icmp_eq (pc := 150) 721 dL_law_150 (by decide) hr hr (fun _ => law_tail hX hbl hbA) (fun h => absurd rfl h)
theorem lc_link {v1 : Nat} (u_v1 : v1 < 4294967296) (e_v1 : xs 1 = nI v1) {v2 : Nat} (u_v2 : v2 < 4294967296) (e_v2 : xs 2 = nI v2) (hX : va_X b 4 xs K.2.2.2.2.1 K.2.2.2.2.1.heap) (hbl : b < K.2.2.2.2.1.heap.size) (hbA : ¬ B ≤ b) : mg_G K (D, E, true, B) mL_law (fun v _ => v = some 1) 155 [.ref b, rv (D, E, true, B) 4 0, rv (D, E, true, B) 5 0, iv 0] [] qms6 := by
  obtain ⟨r, g1, g2, hr, c1, c2⟩ := ap_link (D := D) (E := E) (B := B) v1 v2 u_v1 u_v2
  refine g_aload_n (pc := 155) dL_law_155 rfl ?_
  refine g_aload_n (pc := 156) dL_law_156 rfl ?_
  refine g_iload_n (pc := 157) dL_law_157 rfl ?_
  refine g_iconst (pc := 158) (v := 1) dL_law_158 (by decide +kernel) ?_
  refine g_iadd (pc := 159) dL_law_159 ?_
  refine g_top (b := 1) (by decide) ?_
  refine g_sld (pc := 160) (x := v1) hX hbl hbA (by decide) (by decide) e_v1 dL_law_160 ?_
  refine g_aload_n (pc := 161) dL_law_161 rfl ?_
  refine g_iload_n (pc := 162) dL_law_162 rfl ?_
  refine g_iconst (pc := 163) (v := 2) dL_law_163 (by decide +kernel) ?_
  refine g_iadd (pc := 164) dL_law_164 ?_
  refine g_top (b := 2) (by decide) ?_
  refine g_sld (pc := 165) (x := v2) hX hbl hbA (by decide) (by decide) e_v2 dL_law_165 ?_
  refine g_callVi (pc := 166) (Y' := mX4_link) (As := [iv v1, iv v2]) (st := []) (k := 4) (i := 0) (c1 K.2.1) gL_law_X4_link rfl (show 0 < 1 by omega) rfl rfl (na := 2) rfl (by decide +kernel) (by decide) (by decide) (Nat.le_of_ble_eq_true rfl) dL_law_166 (fun r1 g3 hp => ?_)
  obtain ⟨h1, rfl⟩ := hp
  cases h1
  refine g_aload_n (pc := 169) dL_law_169 rfl ?_
  refine g_aload_n (pc := 170) dL_law_170 rfl ?_
  refine g_iload_n (pc := 171) dL_law_171 rfl ?_
  refine g_iconst (pc := 172) (v := 1) dL_law_172 (by decide +kernel) ?_
  refine g_iadd (pc := 173) dL_law_173 ?_
  refine g_top (b := 1) (by decide) ?_
  refine g_sld (pc := 174) (x := v1) hX hbl hbA (by decide) (by decide) e_v1 dL_law_174 ?_
  refine g_aload_n (pc := 175) dL_law_175 rfl ?_
  refine g_iload_n (pc := 176) dL_law_176 rfl ?_
  refine g_iconst (pc := 177) (v := 2) dL_law_177 (by decide +kernel) ?_
  refine g_iadd (pc := 178) dL_law_178 ?_
  refine g_top (b := 2) (by decide) ?_
  refine g_sld (pc := 179) (x := v2) hX hbl hbA (by decide) (by decide) e_v2 dL_law_179 ?_
  refine g_callVi (pc := 180) (Y' := mX5_link) (As := [iv v1, iv v2]) (st := [iv r]) (k := 5) (i := 0) (c2 K.2.1) gL_law_X5_link rfl (show 0 < 1 by omega) rfl rfl (na := 2) rfl (by decide +kernel) (by decide) (by decide) (Nat.le_of_ble_eq_true rfl) dL_law_180 (fun r1 g3 hp => ?_)
  obtain ⟨h1, rfl⟩ := hp
  cases h1
  exact g_icmp_eq (pc := 183) 721 dL_law_183 (by decide) hr hr (fun _ => law_tail hX hbl hbA) (fun h => absurd rfl h)
theorem lc_open {v1 : Nat} (u_v1 : v1 < 4294967296) (e_v1 : xs 1 = nI v1) {v2 : Nat} (u_v2 : v2 < 4294967296) (e_v2 : xs 2 = nI v2) {v3 : Nat} (u_v3 : v3 < 4294967296) (e_v3 : xs 3 = nI v3) (hX : va_X b 4 xs K.2.2.2.2.1 K.2.2.2.2.1.heap) (hbl : b < K.2.2.2.2.1.heap.size) (hbA : ¬ B ≤ b) : mg_G K (D, E, true, B) mL_law (fun v _ => v = some 1) 188 [.ref b, rv (D, E, true, B) 4 0, rv (D, E, true, B) 5 0, iv 0] [] qms6 := by
  obtain ⟨r, g1, g2, hr, c1, c2⟩ := ap_open (D := D) (E := E) (B := B) v1 v2 v3 u_v1 u_v2 u_v3
  refine g_aload_n (pc := 188) dL_law_188 rfl ?_
  refine g_aload_n (pc := 189) dL_law_189 rfl ?_
  refine g_iload_n (pc := 190) dL_law_190 rfl ?_
  refine g_iconst (pc := 191) (v := 1) dL_law_191 (by decide +kernel) ?_
  refine g_iadd (pc := 192) dL_law_192 ?_
  refine g_top (b := 1) (by decide) ?_
  refine g_sld (pc := 193) (x := v1) hX hbl hbA (by decide) (by decide) e_v1 dL_law_193 ?_
  refine g_aload_n (pc := 194) dL_law_194 rfl ?_
  refine g_iload_n (pc := 195) dL_law_195 rfl ?_
  refine g_iconst (pc := 196) (v := 2) dL_law_196 (by decide +kernel) ?_
  refine g_iadd (pc := 197) dL_law_197 ?_
  refine g_top (b := 2) (by decide) ?_
  refine g_sld (pc := 198) (x := v2) hX hbl hbA (by decide) (by decide) e_v2 dL_law_198 ?_
  refine g_aload_n (pc := 199) dL_law_199 rfl ?_
  refine g_iload_n (pc := 200) dL_law_200 rfl ?_
  refine g_iconst (pc := 201) (v := 3) dL_law_201 (by decide +kernel) ?_
  refine g_iadd (pc := 202) dL_law_202 ?_
  refine g_top (b := 3) (by decide) ?_
  refine g_sld (pc := 203) (x := v3) hX hbl hbA (by decide) (by decide) e_v3 dL_law_203 ?_
  refine g_callVi (pc := 204) (Y' := mX4_open) (As := [iv v1, iv v2, iv v3]) (st := []) (k := 4) (i := 0) (c1 K.2.1) gL_law_X4_open rfl (show 0 < 1 by omega) rfl rfl (na := 3) rfl (by decide +kernel) (by decide) (by decide) (Nat.le_of_ble_eq_true rfl) dL_law_204 (fun r1 g3 hp => ?_)
  obtain ⟨h1, rfl⟩ := hp
  cases h1
  refine g_aload_n (pc := 207) dL_law_207 rfl ?_
  refine g_aload_n (pc := 208) dL_law_208 rfl ?_
  refine g_iload_n (pc := 209) dL_law_209 rfl ?_
  refine g_iconst (pc := 210) (v := 1) dL_law_210 (by decide +kernel) ?_
  refine g_iadd (pc := 211) dL_law_211 ?_
  refine g_top (b := 1) (by decide) ?_
  refine g_sld (pc := 212) (x := v1) hX hbl hbA (by decide) (by decide) e_v1 dL_law_212 ?_
  refine g_aload_n (pc := 213) dL_law_213 rfl ?_
  refine g_iload_n (pc := 214) dL_law_214 rfl ?_
  refine g_iconst (pc := 215) (v := 2) dL_law_215 (by decide +kernel) ?_
  refine g_iadd (pc := 216) dL_law_216 ?_
  refine g_top (b := 2) (by decide) ?_
  refine g_sld (pc := 217) (x := v2) hX hbl hbA (by decide) (by decide) e_v2 dL_law_217 ?_
  refine g_aload_n (pc := 218) dL_law_218 rfl ?_
  refine g_iload_n (pc := 219) dL_law_219 rfl ?_
  refine g_iconst (pc := 220) (v := 3) dL_law_220 (by decide +kernel) ?_
  refine g_iadd (pc := 221) dL_law_221 ?_
  refine g_top (b := 3) (by decide) ?_
  refine g_sld (pc := 222) (x := v3) hX hbl hbA (by decide) (by decide) e_v3 dL_law_222 ?_
  refine g_callVi (pc := 223) (Y' := mX5_open) (As := [iv v1, iv v2, iv v3]) (st := [iv r]) (k := 5) (i := 0) (c2 K.2.1) gL_law_X5_open rfl (show 0 < 1 by omega) rfl rfl (na := 3) rfl (by decide +kernel) (by decide) (by decide) (Nat.le_of_ble_eq_true rfl) dL_law_223 (fun r1 g3 hp => ?_)
  obtain ⟨h1, rfl⟩ := hp
  cases h1
  exact g_icmp_eq (pc := 226) 721 dL_law_226 (by decide) hr hr (fun _ => law_tail hX hbl hbA) (fun h => absurd rfl h)
theorem lc_want {v1 : Nat} (u_v1 : v1 < 4294967296) (e_v1 : xs 1 = nI v1) {v2 : Nat} (u_v2 : v2 < 4294967296) (e_v2 : xs 2 = nI v2) (hX : va_X b 4 xs K.2.2.2.2.1 K.2.2.2.2.1.heap) (hbl : b < K.2.2.2.2.1.heap.size) (hbA : ¬ B ≤ b) : mg_G K (D, E, true, B) mL_law (fun v _ => v = some 1) 231 [.ref b, rv (D, E, true, B) 4 0, rv (D, E, true, B) 5 0, iv 0] [] qms6 := by
  obtain ⟨r, g1, g2, hr, c1, c2⟩ := ap_want (D := D) (E := E) (B := B) v1 v2 u_v1 u_v2
  refine g_aload_n (pc := 231) dL_law_231 rfl ?_
  refine g_aload_n (pc := 232) dL_law_232 rfl ?_
  refine g_iload_n (pc := 233) dL_law_233 rfl ?_
  refine g_iconst (pc := 234) (v := 1) dL_law_234 (by decide +kernel) ?_
  refine g_iadd (pc := 235) dL_law_235 ?_
  refine g_top (b := 1) (by decide) ?_
  refine g_sld (pc := 236) (x := v1) hX hbl hbA (by decide) (by decide) e_v1 dL_law_236 ?_
  refine g_aload_n (pc := 237) dL_law_237 rfl ?_
  refine g_iload_n (pc := 238) dL_law_238 rfl ?_
  refine g_iconst (pc := 239) (v := 2) dL_law_239 (by decide +kernel) ?_
  refine g_iadd (pc := 240) dL_law_240 ?_
  refine g_top (b := 2) (by decide) ?_
  refine g_sld (pc := 241) (x := v2) hX hbl hbA (by decide) (by decide) e_v2 dL_law_241 ?_
  refine g_callVi (pc := 242) (Y' := mX4_want) (As := [iv v1, iv v2]) (st := []) (k := 4) (i := 0) (c1 K.2.1) gL_law_X4_want rfl (show 0 < 1 by omega) rfl rfl (na := 2) rfl (by decide +kernel) (by decide) (by decide) (Nat.le_of_ble_eq_true rfl) dL_law_242 (fun r1 g3 hp => ?_)
  obtain ⟨h1, rfl⟩ := hp
  cases h1
  refine g_aload_n (pc := 245) dL_law_245 rfl ?_
  refine g_aload_n (pc := 246) dL_law_246 rfl ?_
  refine g_iload_n (pc := 247) dL_law_247 rfl ?_
  refine g_iconst (pc := 248) (v := 1) dL_law_248 (by decide +kernel) ?_
  refine g_iadd (pc := 249) dL_law_249 ?_
  refine g_top (b := 1) (by decide) ?_
  refine g_sld (pc := 250) (x := v1) hX hbl hbA (by decide) (by decide) e_v1 dL_law_250 ?_
  refine g_aload_n (pc := 251) dL_law_251 rfl ?_
  refine g_iload_n (pc := 252) dL_law_252 rfl ?_
  refine g_iconst (pc := 253) (v := 2) dL_law_253 (by decide +kernel) ?_
  refine g_iadd (pc := 254) dL_law_254 ?_
  refine g_top (b := 2) (by decide) ?_
  refine g_sld (pc := 255) (x := v2) hX hbl hbA (by decide) (by decide) e_v2 dL_law_255 ?_
  refine g_callVi (pc := 256) (Y' := mX5_want) (As := [iv v1, iv v2]) (st := [iv r]) (k := 5) (i := 0) (c2 K.2.1) gL_law_X5_want rfl (show 0 < 1 by omega) rfl rfl (na := 2) rfl (by decide +kernel) (by decide) (by decide) (Nat.le_of_ble_eq_true rfl) dL_law_256 (fun r1 g3 hp => ?_)
  obtain ⟨h1, rfl⟩ := hp
  cases h1
  exact g_icmp_eq (pc := 259) 721 dL_law_259 (by decide) hr hr (fun _ => law_tail hX hbl hbA) (fun h => absurd rfl h)
theorem lc_begin {v1 : Nat} (u_v1 : v1 < 4294967296) (e_v1 : xs 1 = nI v1) (hX : va_X b 4 xs K.2.2.2.2.1 K.2.2.2.2.1.heap) (hbl : b < K.2.2.2.2.1.heap.size) (hbA : ¬ B ≤ b) : mg_G K (D, E, true, B) mL_law (fun v _ => v = some 1) 264 [.ref b, rv (D, E, true, B) 4 0, rv (D, E, true, B) 5 0, iv 0] [] qms6 := by
  obtain ⟨r, g1, g2, hr, c1, c2⟩ := ap_begin (D := D) (E := E) (B := B) v1 u_v1
  refine g_aload_n (pc := 264) dL_law_264 rfl ?_
  refine g_aload_n (pc := 265) dL_law_265 rfl ?_
  refine g_iload_n (pc := 266) dL_law_266 rfl ?_
  refine g_iconst (pc := 267) (v := 1) dL_law_267 (by decide +kernel) ?_
  refine g_iadd (pc := 268) dL_law_268 ?_
  refine g_top (b := 1) (by decide) ?_
  refine g_sld (pc := 269) (x := v1) hX hbl hbA (by decide) (by decide) e_v1 dL_law_269 ?_
  refine g_callVi (pc := 270) (Y' := mX4_begin) (As := [iv v1]) (st := []) (k := 4) (i := 0) (c1 K.2.1) gL_law_X4_begin rfl (show 0 < 1 by omega) rfl rfl (na := 1) rfl (by decide +kernel) (by decide) (by decide) (Nat.le_of_ble_eq_true rfl) dL_law_270 (fun r1 g3 hp => ?_)
  obtain ⟨h1, rfl⟩ := hp
  cases h1
  refine g_aload_n (pc := 273) dL_law_273 rfl ?_
  refine g_aload_n (pc := 274) dL_law_274 rfl ?_
  refine g_iload_n (pc := 275) dL_law_275 rfl ?_
  refine g_iconst (pc := 276) (v := 1) dL_law_276 (by decide +kernel) ?_
  refine g_iadd (pc := 277) dL_law_277 ?_
  refine g_top (b := 1) (by decide) ?_
  refine g_sld (pc := 278) (x := v1) hX hbl hbA (by decide) (by decide) e_v1 dL_law_278 ?_
  refine g_callVi (pc := 279) (Y' := mX5_begin) (As := [iv v1]) (st := [iv r]) (k := 5) (i := 0) (c2 K.2.1) gL_law_X5_begin rfl (show 0 < 1 by omega) rfl rfl (na := 1) rfl (by decide +kernel) (by decide) (by decide) (Nat.le_of_ble_eq_true rfl) dL_law_279 (fun r1 g3 hp => ?_)
  obtain ⟨h1, rfl⟩ := hp
  cases h1
  exact g_icmp_eq (pc := 282) 721 dL_law_282 (by decide) hr hr (fun _ => law_tail hX hbl hbA) (fun h => absurd rfl h)
theorem lc_end {v1 : Nat} (u_v1 : v1 < 4294967296) (e_v1 : xs 1 = nI v1) (hX : va_X b 4 xs K.2.2.2.2.1 K.2.2.2.2.1.heap) (hbl : b < K.2.2.2.2.1.heap.size) (hbA : ¬ B ≤ b) : mg_G K (D, E, true, B) mL_law (fun v _ => v = some 1) 287 [.ref b, rv (D, E, true, B) 4 0, rv (D, E, true, B) 5 0, iv 0] [] qms6 := by
  obtain ⟨r, g1, g2, hr, c1, c2⟩ := ap_end (D := D) (E := E) (B := B) v1 u_v1
  refine g_aload_n (pc := 287) dL_law_287 rfl ?_
  refine g_aload_n (pc := 288) dL_law_288 rfl ?_
  refine g_iload_n (pc := 289) dL_law_289 rfl ?_
  refine g_iconst (pc := 290) (v := 1) dL_law_290 (by decide +kernel) ?_
  refine g_iadd (pc := 291) dL_law_291 ?_
  refine g_top (b := 1) (by decide) ?_
  refine g_sld (pc := 292) (x := v1) hX hbl hbA (by decide) (by decide) e_v1 dL_law_292 ?_
  refine g_callVi (pc := 293) (Y' := mX4_end) (As := [iv v1]) (st := []) (k := 4) (i := 0) (c1 K.2.1) gL_law_X4_end rfl (show 0 < 1 by omega) rfl rfl (na := 1) rfl (by decide +kernel) (by decide) (by decide) (Nat.le_of_ble_eq_true rfl) dL_law_293 (fun r1 g3 hp => ?_)
  obtain ⟨h1, rfl⟩ := hp
  cases h1
  refine g_aload_n (pc := 296) dL_law_296 rfl ?_
  refine g_aload_n (pc := 297) dL_law_297 rfl ?_
  refine g_iload_n (pc := 298) dL_law_298 rfl ?_
  refine g_iconst (pc := 299) (v := 1) dL_law_299 (by decide +kernel) ?_
  refine g_iadd (pc := 300) dL_law_300 ?_
  refine g_top (b := 1) (by decide) ?_
  refine g_sld (pc := 301) (x := v1) hX hbl hbA (by decide) (by decide) e_v1 dL_law_301 ?_
  refine g_callVi (pc := 302) (Y' := mX5_end) (As := [iv v1]) (st := [iv r]) (k := 5) (i := 0) (c2 K.2.1) gL_law_X5_end rfl (show 0 < 1 by omega) rfl rfl (na := 1) rfl (by decide +kernel) (by decide) (by decide) (Nat.le_of_ble_eq_true rfl) dL_law_302 (fun r1 g3 hp => ?_)
  obtain ⟨h1, rfl⟩ := hp
  cases h1
  exact g_icmp_eq (pc := 305) 721 dL_law_305 (by decide) hr hr (fun _ => law_tail hX hbl hbA) (fun h => absurd rfl h)
theorem lc_step {v1 : Nat} (u_v1 : v1 < 4294967296) (e_v1 : xs 1 = nI v1) (hX : va_X b 4 xs K.2.2.2.2.1 K.2.2.2.2.1.heap) (hbl : b < K.2.2.2.2.1.heap.size) (hbA : ¬ B ≤ b) : mg_G K (D, E, true, B) mL_law (fun v _ => v = some 1) 310 [.ref b, rv (D, E, true, B) 4 0, rv (D, E, true, B) 5 0, iv 0] [] qms6 := by
  obtain ⟨r, g1, g2, hr, c1, c2⟩ := ap_step (D := D) (E := E) (B := B) v1 u_v1
  refine g_aload_n (pc := 310) dL_law_310 rfl ?_
  refine g_aload_n (pc := 311) dL_law_311 rfl ?_
  refine g_iload_n (pc := 312) dL_law_312 rfl ?_
  refine g_iconst (pc := 313) (v := 1) dL_law_313 (by decide +kernel) ?_
  refine g_iadd (pc := 314) dL_law_314 ?_
  refine g_top (b := 1) (by decide) ?_
  refine g_sld (pc := 315) (x := v1) hX hbl hbA (by decide) (by decide) e_v1 dL_law_315 ?_
  refine g_callVi (pc := 316) (Y' := mX4_step) (As := [iv v1]) (st := []) (k := 4) (i := 0) (c1 K.2.1) gL_law_X4_step rfl (show 0 < 1 by omega) rfl rfl (na := 1) rfl (by decide +kernel) (by decide) (by decide) (Nat.le_of_ble_eq_true rfl) dL_law_316 (fun r1 g3 hp => ?_)
  obtain ⟨h1, rfl⟩ := hp
  cases h1
  refine g_aload_n (pc := 319) dL_law_319 rfl ?_
  refine g_aload_n (pc := 320) dL_law_320 rfl ?_
  refine g_iload_n (pc := 321) dL_law_321 rfl ?_
  refine g_iconst (pc := 322) (v := 1) dL_law_322 (by decide +kernel) ?_
  refine g_iadd (pc := 323) dL_law_323 ?_
  refine g_top (b := 1) (by decide) ?_
  refine g_sld (pc := 324) (x := v1) hX hbl hbA (by decide) (by decide) e_v1 dL_law_324 ?_
  refine g_callVi (pc := 325) (Y' := mX5_step) (As := [iv v1]) (st := [iv r]) (k := 5) (i := 0) (c2 K.2.1) gL_law_X5_step rfl (show 0 < 1 by omega) rfl rfl (na := 1) rfl (by decide +kernel) (by decide) (by decide) (Nat.le_of_ble_eq_true rfl) dL_law_325 (fun r1 g3 hp => ?_)
  obtain ⟨h1, rfl⟩ := hp
  cases h1
  exact g_icmp_eq (pc := 328) 721 dL_law_328 (by decide) hr hr (fun _ => law_tail hX hbl hbA) (fun h => absurd rfl h)
theorem lc_deliver {v1 : Nat} (u_v1 : v1 < 4294967296) (e_v1 : xs 1 = nI v1) (hX : va_X b 4 xs K.2.2.2.2.1 K.2.2.2.2.1.heap) (hbl : b < K.2.2.2.2.1.heap.size) (hbA : ¬ B ≤ b) : mg_G K (D, E, true, B) mL_law (fun v _ => v = some 1) 333 [.ref b, rv (D, E, true, B) 4 0, rv (D, E, true, B) 5 0, iv 0] [] qms6 := by
  obtain ⟨r, g1, g2, hr, c1, c2⟩ := ap_deliver (D := D) (E := E) (B := B) v1 u_v1
  refine g_aload_n (pc := 333) dL_law_333 rfl ?_
  refine g_aload_n (pc := 334) dL_law_334 rfl ?_
  refine g_iload_n (pc := 335) dL_law_335 rfl ?_
  refine g_iconst (pc := 336) (v := 1) dL_law_336 (by decide +kernel) ?_
  refine g_iadd (pc := 337) dL_law_337 ?_
  refine g_top (b := 1) (by decide) ?_
  refine g_sld (pc := 338) (x := v1) hX hbl hbA (by decide) (by decide) e_v1 dL_law_338 ?_
  refine g_callVi (pc := 339) (Y' := mX4_deliver) (As := [iv v1]) (st := []) (k := 4) (i := 0) (c1 K.2.1) gL_law_X4_deliver rfl (show 0 < 1 by omega) rfl rfl (na := 1) rfl (by decide +kernel) (by decide) (by decide) (Nat.le_of_ble_eq_true rfl) dL_law_339 (fun r1 g3 hp => ?_)
  obtain ⟨h1, rfl⟩ := hp
  cases h1
  refine g_aload_n (pc := 342) dL_law_342 rfl ?_
  refine g_aload_n (pc := 343) dL_law_343 rfl ?_
  refine g_iload_n (pc := 344) dL_law_344 rfl ?_
  refine g_iconst (pc := 345) (v := 1) dL_law_345 (by decide +kernel) ?_
  refine g_iadd (pc := 346) dL_law_346 ?_
  refine g_top (b := 1) (by decide) ?_
  refine g_sld (pc := 347) (x := v1) hX hbl hbA (by decide) (by decide) e_v1 dL_law_347 ?_
  refine g_callVi (pc := 348) (Y' := mX5_deliver) (As := [iv v1]) (st := [iv r]) (k := 5) (i := 0) (c2 K.2.1) gL_law_X5_deliver rfl (show 0 < 1 by omega) rfl rfl (na := 1) rfl (by decide +kernel) (by decide) (by decide) (Nat.le_of_ble_eq_true rfl) dL_law_348 (fun r1 g3 hp => ?_)
  obtain ⟨h1, rfl⟩ := hp
  cases h1
  exact g_icmp_eq (pc := 351) 721 dL_law_351 (by decide) hr hr (fun _ => law_tail hX hbl hbA) (fun h => absurd rfl h)
theorem lc_lose {v1 : Nat} (u_v1 : v1 < 4294967296) (e_v1 : xs 1 = nI v1) (hX : va_X b 4 xs K.2.2.2.2.1 K.2.2.2.2.1.heap) (hbl : b < K.2.2.2.2.1.heap.size) (hbA : ¬ B ≤ b) : mg_G K (D, E, true, B) mL_law (fun v _ => v = some 1) 356 [.ref b, rv (D, E, true, B) 4 0, rv (D, E, true, B) 5 0, iv 0] [] qms6 := by
  obtain ⟨r, g1, g2, hr, c1, c2⟩ := ap_lose (D := D) (E := E) (B := B) v1 u_v1
  refine g_aload_n (pc := 356) dL_law_356 rfl ?_
  refine g_aload_n (pc := 357) dL_law_357 rfl ?_
  refine g_iload_n (pc := 358) dL_law_358 rfl ?_
  refine g_iconst (pc := 359) (v := 1) dL_law_359 (by decide +kernel) ?_
  refine g_iadd (pc := 360) dL_law_360 ?_
  refine g_top (b := 1) (by decide) ?_
  refine g_sld (pc := 361) (x := v1) hX hbl hbA (by decide) (by decide) e_v1 dL_law_361 ?_
  refine g_callVi (pc := 362) (Y' := mX4_lose) (As := [iv v1]) (st := []) (k := 4) (i := 0) (c1 K.2.1) gL_law_X4_lose rfl (show 0 < 1 by omega) rfl rfl (na := 1) rfl (by decide +kernel) (by decide) (by decide) (Nat.le_of_ble_eq_true rfl) dL_law_362 (fun r1 g3 hp => ?_)
  obtain ⟨h1, rfl⟩ := hp
  cases h1
  refine g_aload_n (pc := 365) dL_law_365 rfl ?_
  refine g_aload_n (pc := 366) dL_law_366 rfl ?_
  refine g_iload_n (pc := 367) dL_law_367 rfl ?_
  refine g_iconst (pc := 368) (v := 1) dL_law_368 (by decide +kernel) ?_
  refine g_iadd (pc := 369) dL_law_369 ?_
  refine g_top (b := 1) (by decide) ?_
  refine g_sld (pc := 370) (x := v1) hX hbl hbA (by decide) (by decide) e_v1 dL_law_370 ?_
  refine g_callVi (pc := 371) (Y' := mX5_lose) (As := [iv v1]) (st := [iv r]) (k := 5) (i := 0) (c2 K.2.1) gL_law_X5_lose rfl (show 0 < 1 by omega) rfl rfl (na := 1) rfl (by decide +kernel) (by decide) (by decide) (Nat.le_of_ble_eq_true rfl) dL_law_371 (fun r1 g3 hp => ?_)
  obtain ⟨h1, rfl⟩ := hp
  cases h1
  exact g_icmp_eq (pc := 374) 721 dL_law_374 (by decide) hr hr (fun _ => law_tail hX hbl hbA) (fun h => absurd rfl h)
theorem lc_twin {v1 : Nat} (u_v1 : v1 < 4294967296) (e_v1 : xs 1 = nI v1) (hX : va_X b 4 xs K.2.2.2.2.1 K.2.2.2.2.1.heap) (hbl : b < K.2.2.2.2.1.heap.size) (hbA : ¬ B ≤ b) : mg_G K (D, E, true, B) mL_law (fun v _ => v = some 1) 379 [.ref b, rv (D, E, true, B) 4 0, rv (D, E, true, B) 5 0, iv 0] [] qms6 := by
  obtain ⟨r, g1, g2, hr, c1, c2⟩ := ap_twin (D := D) (E := E) (B := B) v1 u_v1
  refine g_aload_n (pc := 379) dL_law_379 rfl ?_
  refine g_aload_n (pc := 380) dL_law_380 rfl ?_
  refine g_iload_n (pc := 381) dL_law_381 rfl ?_
  refine g_iconst (pc := 382) (v := 1) dL_law_382 (by decide +kernel) ?_
  refine g_iadd (pc := 383) dL_law_383 ?_
  refine g_top (b := 1) (by decide) ?_
  refine g_sld (pc := 384) (x := v1) hX hbl hbA (by decide) (by decide) e_v1 dL_law_384 ?_
  refine g_callVi (pc := 385) (Y' := mX4_twin) (As := [iv v1]) (st := []) (k := 4) (i := 0) (c1 K.2.1) gL_law_X4_twin rfl (show 0 < 1 by omega) rfl rfl (na := 1) rfl (by decide +kernel) (by decide) (by decide) (Nat.le_of_ble_eq_true rfl) dL_law_385 (fun r1 g3 hp => ?_)
  obtain ⟨h1, rfl⟩ := hp
  cases h1
  refine g_aload_n (pc := 388) dL_law_388 rfl ?_
  refine g_aload_n (pc := 389) dL_law_389 rfl ?_
  refine g_iload_n (pc := 390) dL_law_390 rfl ?_
  refine g_iconst (pc := 391) (v := 1) dL_law_391 (by decide +kernel) ?_
  refine g_iadd (pc := 392) dL_law_392 ?_
  refine g_top (b := 1) (by decide) ?_
  refine g_sld (pc := 393) (x := v1) hX hbl hbA (by decide) (by decide) e_v1 dL_law_393 ?_
  refine g_callVi (pc := 394) (Y' := mX5_twin) (As := [iv v1]) (st := [iv r]) (k := 5) (i := 0) (c2 K.2.1) gL_law_X5_twin rfl (show 0 < 1 by omega) rfl rfl (na := 1) rfl (by decide +kernel) (by decide) (by decide) (Nat.le_of_ble_eq_true rfl) dL_law_394 (fun r1 g3 hp => ?_)
  obtain ⟨h1, rfl⟩ := hp
  cases h1
  exact g_icmp_eq (pc := 397) 721 dL_law_397 (by decide) hr hr (fun _ => law_tail hX hbl hbA) (fun h => absurd rfl h)
theorem lc_resend {v1 : Nat} (u_v1 : v1 < 4294967296) (e_v1 : xs 1 = nI v1) (hX : va_X b 4 xs K.2.2.2.2.1 K.2.2.2.2.1.heap) (hbl : b < K.2.2.2.2.1.heap.size) (hbA : ¬ B ≤ b) : mg_G K (D, E, true, B) mL_law (fun v _ => v = some 1) 402 [.ref b, rv (D, E, true, B) 4 0, rv (D, E, true, B) 5 0, iv 0] [] qms6 := by
  obtain ⟨r, g1, g2, hr, c1, c2⟩ := ap_resend (D := D) (E := E) (B := B) v1 u_v1
  refine g_aload_n (pc := 402) dL_law_402 rfl ?_
  refine g_aload_n (pc := 403) dL_law_403 rfl ?_
  refine g_iload_n (pc := 404) dL_law_404 rfl ?_
  refine g_iconst (pc := 405) (v := 1) dL_law_405 (by decide +kernel) ?_
  refine g_iadd (pc := 406) dL_law_406 ?_
  refine g_top (b := 1) (by decide) ?_
  refine g_sld (pc := 407) (x := v1) hX hbl hbA (by decide) (by decide) e_v1 dL_law_407 ?_
  refine g_callVi (pc := 408) (Y' := mX4_resend) (As := [iv v1]) (st := []) (k := 4) (i := 0) (c1 K.2.1) gL_law_X4_resend rfl (show 0 < 1 by omega) rfl rfl (na := 1) rfl (by decide +kernel) (by decide) (by decide) (Nat.le_of_ble_eq_true rfl) dL_law_408 (fun r1 g3 hp => ?_)
  obtain ⟨h1, rfl⟩ := hp
  cases h1
  refine g_aload_n (pc := 411) dL_law_411 rfl ?_
  refine g_aload_n (pc := 412) dL_law_412 rfl ?_
  refine g_iload_n (pc := 413) dL_law_413 rfl ?_
  refine g_iconst (pc := 414) (v := 1) dL_law_414 (by decide +kernel) ?_
  refine g_iadd (pc := 415) dL_law_415 ?_
  refine g_top (b := 1) (by decide) ?_
  refine g_sld (pc := 416) (x := v1) hX hbl hbA (by decide) (by decide) e_v1 dL_law_416 ?_
  refine g_callVi (pc := 417) (Y' := mX5_resend) (As := [iv v1]) (st := [iv r]) (k := 5) (i := 0) (c2 K.2.1) gL_law_X5_resend rfl (show 0 < 1 by omega) rfl rfl (na := 1) rfl (by decide +kernel) (by decide) (by decide) (Nat.le_of_ble_eq_true rfl) dL_law_417 (fun r1 g3 hp => ?_)
  obtain ⟨h1, rfl⟩ := hp
  cases h1
  exact g_icmp_eq (pc := 420) 721 dL_law_420 (by decide) hr hr (fun _ => law_tail hX hbl hbA) (fun h => absurd rfl h)
theorem lc_crash {v1 : Nat} (u_v1 : v1 < 4294967296) (e_v1 : xs 1 = nI v1) (hX : va_X b 4 xs K.2.2.2.2.1 K.2.2.2.2.1.heap) (hbl : b < K.2.2.2.2.1.heap.size) (hbA : ¬ B ≤ b) : mg_G K (D, E, true, B) mL_law (fun v _ => v = some 1) 425 [.ref b, rv (D, E, true, B) 4 0, rv (D, E, true, B) 5 0, iv 0] [] qms6 := by
  obtain ⟨r, g1, g2, hr, c1, c2⟩ := ap_crash (D := D) (E := E) (B := B) v1 u_v1
  refine g_aload_n (pc := 425) dL_law_425 rfl ?_
  refine g_aload_n (pc := 426) dL_law_426 rfl ?_
  refine g_iload_n (pc := 427) dL_law_427 rfl ?_
  refine g_iconst (pc := 428) (v := 1) dL_law_428 (by decide +kernel) ?_
  refine g_iadd (pc := 429) dL_law_429 ?_
  refine g_top (b := 1) (by decide) ?_
  refine g_sld (pc := 430) (x := v1) hX hbl hbA (by decide) (by decide) e_v1 dL_law_430 ?_
  refine g_callVi (pc := 431) (Y' := mX4_crash) (As := [iv v1]) (st := []) (k := 4) (i := 0) (c1 K.2.1) gL_law_X4_crash rfl (show 0 < 1 by omega) rfl rfl (na := 1) rfl (by decide +kernel) (by decide) (by decide) (Nat.le_of_ble_eq_true rfl) dL_law_431 (fun r1 g3 hp => ?_)
  obtain ⟨h1, rfl⟩ := hp
  cases h1
  refine g_aload_n (pc := 434) dL_law_434 rfl ?_
  refine g_aload_n (pc := 435) dL_law_435 rfl ?_
  refine g_iload_n (pc := 436) dL_law_436 rfl ?_
  refine g_iconst (pc := 437) (v := 1) dL_law_437 (by decide +kernel) ?_
  refine g_iadd (pc := 438) dL_law_438 ?_
  refine g_top (b := 1) (by decide) ?_
  refine g_sld (pc := 439) (x := v1) hX hbl hbA (by decide) (by decide) e_v1 dL_law_439 ?_
  refine g_callVi (pc := 440) (Y' := mX5_crash) (As := [iv v1]) (st := [iv r]) (k := 5) (i := 0) (c2 K.2.1) gL_law_X5_crash rfl (show 0 < 1 by omega) rfl rfl (na := 1) rfl (by decide +kernel) (by decide) (by decide) (Nat.le_of_ble_eq_true rfl) dL_law_440 (fun r1 g3 hp => ?_)
  obtain ⟨h1, rfl⟩ := hp
  cases h1
  exact g_icmp_eq (pc := 443) 721 dL_law_443 (by decide) hr hr (fun _ => law_tail hX hbl hbA) (fun h => absurd rfl h)
theorem lc_restart {v1 : Nat} (u_v1 : v1 < 4294967296) (e_v1 : xs 1 = nI v1) (hX : va_X b 4 xs K.2.2.2.2.1 K.2.2.2.2.1.heap) (hbl : b < K.2.2.2.2.1.heap.size) (hbA : ¬ B ≤ b) : mg_G K (D, E, true, B) mL_law (fun v _ => v = some 1) 448 [.ref b, rv (D, E, true, B) 4 0, rv (D, E, true, B) 5 0, iv 0] [] qms6 := by
  obtain ⟨r, g1, g2, hr, c1, c2⟩ := ap_restart (D := D) (E := E) (B := B) v1 u_v1
  refine g_aload_n (pc := 448) dL_law_448 rfl ?_
  refine g_aload_n (pc := 449) dL_law_449 rfl ?_
  refine g_iload_n (pc := 450) dL_law_450 rfl ?_
  refine g_iconst (pc := 451) (v := 1) dL_law_451 (by decide +kernel) ?_
  refine g_iadd (pc := 452) dL_law_452 ?_
  refine g_top (b := 1) (by decide) ?_
  refine g_sld (pc := 453) (x := v1) hX hbl hbA (by decide) (by decide) e_v1 dL_law_453 ?_
  refine g_callVi (pc := 454) (Y' := mX4_restart) (As := [iv v1]) (st := []) (k := 4) (i := 0) (c1 K.2.1) gL_law_X4_restart rfl (show 0 < 1 by omega) rfl rfl (na := 1) rfl (by decide +kernel) (by decide) (by decide) (Nat.le_of_ble_eq_true rfl) dL_law_454 (fun r1 g3 hp => ?_)
  obtain ⟨h1, rfl⟩ := hp
  cases h1
  refine g_aload_n (pc := 457) dL_law_457 rfl ?_
  refine g_aload_n (pc := 458) dL_law_458 rfl ?_
  refine g_iload_n (pc := 459) dL_law_459 rfl ?_
  refine g_iconst (pc := 460) (v := 1) dL_law_460 (by decide +kernel) ?_
  refine g_iadd (pc := 461) dL_law_461 ?_
  refine g_top (b := 1) (by decide) ?_
  refine g_sld (pc := 462) (x := v1) hX hbl hbA (by decide) (by decide) e_v1 dL_law_462 ?_
  refine g_callVi (pc := 463) (Y' := mX5_restart) (As := [iv v1]) (st := [iv r]) (k := 5) (i := 0) (c2 K.2.1) gL_law_X5_restart rfl (show 0 < 1 by omega) rfl rfl (na := 1) rfl (by decide +kernel) (by decide) (by decide) (Nat.le_of_ble_eq_true rfl) dL_law_463 (fun r1 g3 hp => ?_)
  obtain ⟨h1, rfl⟩ := hp
  cases h1
  exact g_icmp_eq (pc := 466) 721 dL_law_466 (by decide) hr hr (fun _ => law_tail hX hbl hbA) (fun h => absurd rfl h)
theorem lc_cut {v1 : Nat} (u_v1 : v1 < 4294967296) (e_v1 : xs 1 = nI v1) {v2 : Nat} (u_v2 : v2 < 4294967296) (e_v2 : xs 2 = nI v2) (hX : va_X b 4 xs K.2.2.2.2.1 K.2.2.2.2.1.heap) (hbl : b < K.2.2.2.2.1.heap.size) (hbA : ¬ B ≤ b) : mg_G K (D, E, true, B) mL_law (fun v _ => v = some 1) 471 [.ref b, rv (D, E, true, B) 4 0, rv (D, E, true, B) 5 0, iv 0] [] qms6 := by
  obtain ⟨r, g1, g2, hr, c1, c2⟩ := ap_cut (D := D) (E := E) (B := B) v1 v2 u_v1 u_v2
  refine g_aload_n (pc := 471) dL_law_471 rfl ?_
  refine g_aload_n (pc := 472) dL_law_472 rfl ?_
  refine g_iload_n (pc := 473) dL_law_473 rfl ?_
  refine g_iconst (pc := 474) (v := 1) dL_law_474 (by decide +kernel) ?_
  refine g_iadd (pc := 475) dL_law_475 ?_
  refine g_top (b := 1) (by decide) ?_
  refine g_sld (pc := 476) (x := v1) hX hbl hbA (by decide) (by decide) e_v1 dL_law_476 ?_
  refine g_aload_n (pc := 477) dL_law_477 rfl ?_
  refine g_iload_n (pc := 478) dL_law_478 rfl ?_
  refine g_iconst (pc := 479) (v := 2) dL_law_479 (by decide +kernel) ?_
  refine g_iadd (pc := 480) dL_law_480 ?_
  refine g_top (b := 2) (by decide) ?_
  refine g_sld (pc := 481) (x := v2) hX hbl hbA (by decide) (by decide) e_v2 dL_law_481 ?_
  refine g_callVi (pc := 482) (Y' := mX4_cut) (As := [iv v1, iv v2]) (st := []) (k := 4) (i := 0) (c1 K.2.1) gL_law_X4_cut rfl (show 0 < 1 by omega) rfl rfl (na := 2) rfl (by decide +kernel) (by decide) (by decide) (Nat.le_of_ble_eq_true rfl) dL_law_482 (fun r1 g3 hp => ?_)
  obtain ⟨h1, rfl⟩ := hp
  cases h1
  refine g_aload_n (pc := 485) dL_law_485 rfl ?_
  refine g_aload_n (pc := 486) dL_law_486 rfl ?_
  refine g_iload_n (pc := 487) dL_law_487 rfl ?_
  refine g_iconst (pc := 488) (v := 1) dL_law_488 (by decide +kernel) ?_
  refine g_iadd (pc := 489) dL_law_489 ?_
  refine g_top (b := 1) (by decide) ?_
  refine g_sld (pc := 490) (x := v1) hX hbl hbA (by decide) (by decide) e_v1 dL_law_490 ?_
  refine g_aload_n (pc := 491) dL_law_491 rfl ?_
  refine g_iload_n (pc := 492) dL_law_492 rfl ?_
  refine g_iconst (pc := 493) (v := 2) dL_law_493 (by decide +kernel) ?_
  refine g_iadd (pc := 494) dL_law_494 ?_
  refine g_top (b := 2) (by decide) ?_
  refine g_sld (pc := 495) (x := v2) hX hbl hbA (by decide) (by decide) e_v2 dL_law_495 ?_
  refine g_callVi (pc := 496) (Y' := mX5_cut) (As := [iv v1, iv v2]) (st := [iv r]) (k := 5) (i := 0) (c2 K.2.1) gL_law_X5_cut rfl (show 0 < 1 by omega) rfl rfl (na := 2) rfl (by decide +kernel) (by decide) (by decide) (Nat.le_of_ble_eq_true rfl) dL_law_496 (fun r1 g3 hp => ?_)
  obtain ⟨h1, rfl⟩ := hp
  cases h1
  exact g_icmp_eq (pc := 499) 721 dL_law_499 (by decide) hr hr (fun _ => law_tail hX hbl hbA) (fun h => absurd rfl h)
theorem lc_join {v1 : Nat} (u_v1 : v1 < 4294967296) (e_v1 : xs 1 = nI v1) {v2 : Nat} (u_v2 : v2 < 4294967296) (e_v2 : xs 2 = nI v2) (hX : va_X b 4 xs K.2.2.2.2.1 K.2.2.2.2.1.heap) (hbl : b < K.2.2.2.2.1.heap.size) (hbA : ¬ B ≤ b) : mg_G K (D, E, true, B) mL_law (fun v _ => v = some 1) 504 [.ref b, rv (D, E, true, B) 4 0, rv (D, E, true, B) 5 0, iv 0] [] qms6 := by
  obtain ⟨r, g1, g2, hr, c1, c2⟩ := ap_join (D := D) (E := E) (B := B) v1 v2 u_v1 u_v2
  refine g_aload_n (pc := 504) dL_law_504 rfl ?_
  refine g_aload_n (pc := 505) dL_law_505 rfl ?_
  refine g_iload_n (pc := 506) dL_law_506 rfl ?_
  refine g_iconst (pc := 507) (v := 1) dL_law_507 (by decide +kernel) ?_
  refine g_iadd (pc := 508) dL_law_508 ?_
  refine g_top (b := 1) (by decide) ?_
  refine g_sld (pc := 509) (x := v1) hX hbl hbA (by decide) (by decide) e_v1 dL_law_509 ?_
  refine g_aload_n (pc := 510) dL_law_510 rfl ?_
  refine g_iload_n (pc := 511) dL_law_511 rfl ?_
  refine g_iconst (pc := 512) (v := 2) dL_law_512 (by decide +kernel) ?_
  refine g_iadd (pc := 513) dL_law_513 ?_
  refine g_top (b := 2) (by decide) ?_
  refine g_sld (pc := 514) (x := v2) hX hbl hbA (by decide) (by decide) e_v2 dL_law_514 ?_
  refine g_callVi (pc := 515) (Y' := mX4_join) (As := [iv v1, iv v2]) (st := []) (k := 4) (i := 0) (c1 K.2.1) gL_law_X4_join rfl (show 0 < 1 by omega) rfl rfl (na := 2) rfl (by decide +kernel) (by decide) (by decide) (Nat.le_of_ble_eq_true rfl) dL_law_515 (fun r1 g3 hp => ?_)
  obtain ⟨h1, rfl⟩ := hp
  cases h1
  refine g_aload_n (pc := 518) dL_law_518 rfl ?_
  refine g_aload_n (pc := 519) dL_law_519 rfl ?_
  refine g_iload_n (pc := 520) dL_law_520 rfl ?_
  refine g_iconst (pc := 521) (v := 1) dL_law_521 (by decide +kernel) ?_
  refine g_iadd (pc := 522) dL_law_522 ?_
  refine g_top (b := 1) (by decide) ?_
  refine g_sld (pc := 523) (x := v1) hX hbl hbA (by decide) (by decide) e_v1 dL_law_523 ?_
  refine g_aload_n (pc := 524) dL_law_524 rfl ?_
  refine g_iload_n (pc := 525) dL_law_525 rfl ?_
  refine g_iconst (pc := 526) (v := 2) dL_law_526 (by decide +kernel) ?_
  refine g_iadd (pc := 527) dL_law_527 ?_
  refine g_top (b := 2) (by decide) ?_
  refine g_sld (pc := 528) (x := v2) hX hbl hbA (by decide) (by decide) e_v2 dL_law_528 ?_
  refine g_callVi (pc := 529) (Y' := mX5_join) (As := [iv v1, iv v2]) (st := [iv r]) (k := 5) (i := 0) (c2 K.2.1) gL_law_X5_join rfl (show 0 < 1 by omega) rfl rfl (na := 2) rfl (by decide +kernel) (by decide) (by decide) (Nat.le_of_ble_eq_true rfl) dL_law_529 (fun r1 g3 hp => ?_)
  obtain ⟨h1, rfl⟩ := hp
  cases h1
  exact g_icmp_eq (pc := 532) 721 dL_law_532 (by decide) hr hr (fun _ => law_tail hX hbl hbA) (fun h => absurd rfl h)
theorem lc_holder  (hX : va_X b 4 xs K.2.2.2.2.1 K.2.2.2.2.1.heap) (hbl : b < K.2.2.2.2.1.heap.size) (hbA : ¬ B ≤ b) : mg_G K (D, E, true, B) mL_law (fun v _ => v = some 1) 537 [.ref b, rv (D, E, true, B) 4 0, rv (D, E, true, B) 5 0, iv 0] [] qms6 := by
  obtain ⟨r, g1, g2, hr, c1, c2⟩ := ap_holder (D := D) (E := E) (B := B) 
  refine g_aload_n (pc := 537) dL_law_537 rfl ?_
  refine g_callVi (pc := 538) (Y' := mX4_holder) (As := []) (st := []) (k := 4) (i := 0) (c1 K.2.1) gL_law_X4_holder rfl (show 0 < 1 by omega) rfl rfl (na := 0) rfl (by decide +kernel) (by decide) (by decide) (Nat.le_of_ble_eq_true rfl) dL_law_538 (fun r1 g3 hp => ?_)
  obtain ⟨h1, rfl⟩ := hp
  cases h1
  refine g_aload_n (pc := 541) dL_law_541 rfl ?_
  refine g_callVi (pc := 542) (Y' := mX5_holder) (As := []) (st := [iv r]) (k := 5) (i := 0) (c2 K.2.1) gL_law_X5_holder rfl (show 0 < 1 by omega) rfl rfl (na := 0) rfl (by decide +kernel) (by decide) (by decide) (Nat.le_of_ble_eq_true rfl) dL_law_542 (fun r1 g3 hp => ?_)
  obtain ⟨h1, rfl⟩ := hp
  cases h1
  exact g_icmp_eq (pc := 545) 721 dL_law_545 (by decide) hr hr (fun _ => law_tail hX hbl hbA) (fun h => absurd rfl h)
theorem lc_pointer {v1 : Nat} (u_v1 : v1 < 4294967296) (e_v1 : xs 1 = nI v1) (hX : va_X b 4 xs K.2.2.2.2.1 K.2.2.2.2.1.heap) (hbl : b < K.2.2.2.2.1.heap.size) (hbA : ¬ B ≤ b) : mg_G K (D, E, true, B) mL_law (fun v _ => v = some 1) 550 [.ref b, rv (D, E, true, B) 4 0, rv (D, E, true, B) 5 0, iv 0] [] qms6 := by
  obtain ⟨r, g1, g2, hr, c1, c2⟩ := ap_pointer (D := D) (E := E) (B := B) v1 u_v1
  refine g_aload_n (pc := 550) dL_law_550 rfl ?_
  refine g_aload_n (pc := 551) dL_law_551 rfl ?_
  refine g_iload_n (pc := 552) dL_law_552 rfl ?_
  refine g_iconst (pc := 553) (v := 1) dL_law_553 (by decide +kernel) ?_
  refine g_iadd (pc := 554) dL_law_554 ?_
  refine g_top (b := 1) (by decide) ?_
  refine g_sld (pc := 555) (x := v1) hX hbl hbA (by decide) (by decide) e_v1 dL_law_555 ?_
  refine g_callVi (pc := 556) (Y' := mX4_pointer) (As := [iv v1]) (st := []) (k := 4) (i := 0) (c1 K.2.1) gL_law_X4_pointer rfl (show 0 < 1 by omega) rfl rfl (na := 1) rfl (by decide +kernel) (by decide) (by decide) (Nat.le_of_ble_eq_true rfl) dL_law_556 (fun r1 g3 hp => ?_)
  obtain ⟨h1, rfl⟩ := hp
  cases h1
  refine g_aload_n (pc := 559) dL_law_559 rfl ?_
  refine g_aload_n (pc := 560) dL_law_560 rfl ?_
  refine g_iload_n (pc := 561) dL_law_561 rfl ?_
  refine g_iconst (pc := 562) (v := 1) dL_law_562 (by decide +kernel) ?_
  refine g_iadd (pc := 563) dL_law_563 ?_
  refine g_top (b := 1) (by decide) ?_
  refine g_sld (pc := 564) (x := v1) hX hbl hbA (by decide) (by decide) e_v1 dL_law_564 ?_
  refine g_callVi (pc := 565) (Y' := mX5_pointer) (As := [iv v1]) (st := [iv r]) (k := 5) (i := 0) (c2 K.2.1) gL_law_X5_pointer rfl (show 0 < 1 by omega) rfl rfl (na := 1) rfl (by decide +kernel) (by decide) (by decide) (Nat.le_of_ble_eq_true rfl) dL_law_565 (fun r1 g3 hp => ?_)
  obtain ⟨h1, rfl⟩ := hp
  cases h1
  exact g_icmp_eq (pc := 568) 721 dL_law_568 (by decide) hr hr (fun _ => law_tail hX hbl hbA) (fun h => absurd rfl h)
theorem lc_queue {v1 : Nat} (u_v1 : v1 < 4294967296) (e_v1 : xs 1 = nI v1) {v2 : Nat} (u_v2 : v2 < 4294967296) (e_v2 : xs 2 = nI v2) {v3 : Nat} (u_v3 : v3 < 4294967296) (e_v3 : xs 3 = nI v3) (hX : va_X b 4 xs K.2.2.2.2.1 K.2.2.2.2.1.heap) (hbl : b < K.2.2.2.2.1.heap.size) (hbA : ¬ B ≤ b) : mg_G K (D, E, true, B) mL_law (fun v _ => v = some 1) 573 [.ref b, rv (D, E, true, B) 4 0, rv (D, E, true, B) 5 0, iv 0] [] qms6 := by
  by_cases hz : v3 = 0
  · obtain ⟨r, g1, g2, hr, c1, c2⟩ := ap_queue (D := D) (E := E) (B := B) v1 v2 0 u_v1 u_v2 (by decide)
    refine g_aload_n (pc := 573) dL_law_573 rfl ?_
    refine g_aload_n (pc := 574) dL_law_574 rfl ?_
    refine g_iload_n (pc := 575) dL_law_575 rfl ?_
    refine g_iconst (pc := 576) (v := 1) dL_law_576 (by decide +kernel) ?_
    refine g_iadd (pc := 577) dL_law_577 ?_
    refine g_top (b := 1) (by decide) ?_
    refine g_sld (pc := 578) (x := v1) hX hbl hbA (by decide) (by decide) e_v1 dL_law_578 ?_
    refine g_aload_n (pc := 579) dL_law_579 rfl ?_
    refine g_iload_n (pc := 580) dL_law_580 rfl ?_
    refine g_iconst (pc := 581) (v := 2) dL_law_581 (by decide +kernel) ?_
    refine g_iadd (pc := 582) dL_law_582 ?_
    refine g_top (b := 2) (by decide) ?_
    refine g_sld (pc := 583) (x := v2) hX hbl hbA (by decide) (by decide) e_v2 dL_law_583 ?_
    refine g_aload_n (pc := 584) dL_law_584 rfl ?_
    refine g_iload_n (pc := 585) dL_law_585 rfl ?_
    refine g_iconst (pc := 586) (v := 3) dL_law_586 (by decide +kernel) ?_
    refine g_iadd (pc := 587) dL_law_587 ?_
    refine g_top (b := 3) (by decide) ?_
    refine g_sld (pc := 588) (x := v3) hX hbl hbA (by decide) (by decide) e_v3 dL_law_588 ?_
    refine g_if_eq (pc := 589) 596 dL_law_589 (by decide) u_v3 (fun _ => ?_) (fun h => absurd hz h)
    refine g_iconst (pc := 596) (v := 0) dL_law_596 (by decide +kernel) ?_
    refine g_callVi (pc := 597) (Y' := mX4_queue) (As := [iv v1, iv v2, iv 0]) (st := []) (k := 4) (i := 0) (c1 K.2.1) gL_law_X4_queue rfl (show 0 < 1 by omega) rfl rfl (na := 3) rfl (by decide +kernel) (by decide) (by decide) (Nat.le_of_ble_eq_true rfl) dL_law_597 (fun r1 g3 hp => ?_)
    obtain ⟨h1, rfl⟩ := hp
    cases h1
    refine g_aload_n (pc := 600) dL_law_600 rfl ?_
    refine g_aload_n (pc := 601) dL_law_601 rfl ?_
    refine g_iload_n (pc := 602) dL_law_602 rfl ?_
    refine g_iconst (pc := 603) (v := 1) dL_law_603 (by decide +kernel) ?_
    refine g_iadd (pc := 604) dL_law_604 ?_
    refine g_top (b := 1) (by decide) ?_
    refine g_sld (pc := 605) (x := v1) hX hbl hbA (by decide) (by decide) e_v1 dL_law_605 ?_
    refine g_aload_n (pc := 606) dL_law_606 rfl ?_
    refine g_iload_n (pc := 607) dL_law_607 rfl ?_
    refine g_iconst (pc := 608) (v := 2) dL_law_608 (by decide +kernel) ?_
    refine g_iadd (pc := 609) dL_law_609 ?_
    refine g_top (b := 2) (by decide) ?_
    refine g_sld (pc := 610) (x := v2) hX hbl hbA (by decide) (by decide) e_v2 dL_law_610 ?_
    refine g_aload_n (pc := 611) dL_law_611 rfl ?_
    refine g_iload_n (pc := 612) dL_law_612 rfl ?_
    refine g_iconst (pc := 613) (v := 3) dL_law_613 (by decide +kernel) ?_
    refine g_iadd (pc := 614) dL_law_614 ?_
    refine g_top (b := 3) (by decide) ?_
    refine g_sld (pc := 615) (x := v3) hX hbl hbA (by decide) (by decide) e_v3 dL_law_615 ?_
    refine g_if_eq (pc := 616) 623 dL_law_616 (by decide) u_v3 (fun _ => ?_) (fun h => absurd hz h)
    refine g_iconst (pc := 623) (v := 0) dL_law_623 (by decide +kernel) ?_
    refine g_callVi (pc := 624) (Y' := mX5_queue) (As := [iv v1, iv v2, iv 0]) (st := [iv r]) (k := 5) (i := 0) (c2 K.2.1) gL_law_X5_queue rfl (show 0 < 1 by omega) rfl rfl (na := 3) rfl (by decide +kernel) (by decide) (by decide) (Nat.le_of_ble_eq_true rfl) dL_law_624 (fun r1 g3 hp => ?_)
    obtain ⟨h1, rfl⟩ := hp
    cases h1
    exact g_icmp_eq (pc := 627) 721 dL_law_627 (by decide) hr hr (fun _ => law_tail hX hbl hbA) (fun h => absurd rfl h)
  · obtain ⟨r, g1, g2, hr, c1, c2⟩ := ap_queue (D := D) (E := E) (B := B) v1 v2 1 u_v1 u_v2 (by decide)
    refine g_aload_n (pc := 573) dL_law_573 rfl ?_
    refine g_aload_n (pc := 574) dL_law_574 rfl ?_
    refine g_iload_n (pc := 575) dL_law_575 rfl ?_
    refine g_iconst (pc := 576) (v := 1) dL_law_576 (by decide +kernel) ?_
    refine g_iadd (pc := 577) dL_law_577 ?_
    refine g_top (b := 1) (by decide) ?_
    refine g_sld (pc := 578) (x := v1) hX hbl hbA (by decide) (by decide) e_v1 dL_law_578 ?_
    refine g_aload_n (pc := 579) dL_law_579 rfl ?_
    refine g_iload_n (pc := 580) dL_law_580 rfl ?_
    refine g_iconst (pc := 581) (v := 2) dL_law_581 (by decide +kernel) ?_
    refine g_iadd (pc := 582) dL_law_582 ?_
    refine g_top (b := 2) (by decide) ?_
    refine g_sld (pc := 583) (x := v2) hX hbl hbA (by decide) (by decide) e_v2 dL_law_583 ?_
    refine g_aload_n (pc := 584) dL_law_584 rfl ?_
    refine g_iload_n (pc := 585) dL_law_585 rfl ?_
    refine g_iconst (pc := 586) (v := 3) dL_law_586 (by decide +kernel) ?_
    refine g_iadd (pc := 587) dL_law_587 ?_
    refine g_top (b := 3) (by decide) ?_
    refine g_sld (pc := 588) (x := v3) hX hbl hbA (by decide) (by decide) e_v3 dL_law_588 ?_
    refine g_if_eq (pc := 589) 596 dL_law_589 (by decide) u_v3 (fun h => absurd h hz) (fun _ => ?_)
    refine g_iconst (pc := 592) (v := 1) dL_law_592 (by decide +kernel) ?_
    refine g_goto (pc := 593) 597 dL_law_593 (by decide) ?_
    refine g_callVi (pc := 597) (Y' := mX4_queue) (As := [iv v1, iv v2, iv 1]) (st := []) (k := 4) (i := 0) (c1 K.2.1) gL_law_X4_queue rfl (show 0 < 1 by omega) rfl rfl (na := 3) rfl (by decide +kernel) (by decide) (by decide) (Nat.le_of_ble_eq_true rfl) dL_law_597 (fun r1 g3 hp => ?_)
    obtain ⟨h1, rfl⟩ := hp
    cases h1
    refine g_aload_n (pc := 600) dL_law_600 rfl ?_
    refine g_aload_n (pc := 601) dL_law_601 rfl ?_
    refine g_iload_n (pc := 602) dL_law_602 rfl ?_
    refine g_iconst (pc := 603) (v := 1) dL_law_603 (by decide +kernel) ?_
    refine g_iadd (pc := 604) dL_law_604 ?_
    refine g_top (b := 1) (by decide) ?_
    refine g_sld (pc := 605) (x := v1) hX hbl hbA (by decide) (by decide) e_v1 dL_law_605 ?_
    refine g_aload_n (pc := 606) dL_law_606 rfl ?_
    refine g_iload_n (pc := 607) dL_law_607 rfl ?_
    refine g_iconst (pc := 608) (v := 2) dL_law_608 (by decide +kernel) ?_
    refine g_iadd (pc := 609) dL_law_609 ?_
    refine g_top (b := 2) (by decide) ?_
    refine g_sld (pc := 610) (x := v2) hX hbl hbA (by decide) (by decide) e_v2 dL_law_610 ?_
    refine g_aload_n (pc := 611) dL_law_611 rfl ?_
    refine g_iload_n (pc := 612) dL_law_612 rfl ?_
    refine g_iconst (pc := 613) (v := 3) dL_law_613 (by decide +kernel) ?_
    refine g_iadd (pc := 614) dL_law_614 ?_
    refine g_top (b := 3) (by decide) ?_
    refine g_sld (pc := 615) (x := v3) hX hbl hbA (by decide) (by decide) e_v3 dL_law_615 ?_
    refine g_if_eq (pc := 616) 623 dL_law_616 (by decide) u_v3 (fun h => absurd h hz) (fun _ => ?_)
    refine g_iconst (pc := 619) (v := 1) dL_law_619 (by decide +kernel) ?_
    refine g_goto (pc := 620) 624 dL_law_620 (by decide) ?_
    refine g_callVi (pc := 624) (Y' := mX5_queue) (As := [iv v1, iv v2, iv 1]) (st := [iv r]) (k := 5) (i := 0) (c2 K.2.1) gL_law_X5_queue rfl (show 0 < 1 by omega) rfl rfl (na := 3) rfl (by decide +kernel) (by decide) (by decide) (Nat.le_of_ble_eq_true rfl) dL_law_624 (fun r1 g3 hp => ?_)
    obtain ⟨h1, rfl⟩ := hp
    cases h1
    exact g_icmp_eq (pc := 627) 721 dL_law_627 (by decide) hr hr (fun _ => law_tail hX hbl hbA) (fun h => absurd rfl h)
theorem lc_letter {v1 : Nat} (u_v1 : v1 < 4294967296) (e_v1 : xs 1 = nI v1) {v2 : Nat} (u_v2 : v2 < 4294967296) (e_v2 : xs 2 = nI v2) (hX : va_X b 4 xs K.2.2.2.2.1 K.2.2.2.2.1.heap) (hbl : b < K.2.2.2.2.1.heap.size) (hbA : ¬ B ≤ b) : mg_G K (D, E, true, B) mL_law (fun v _ => v = some 1) 632 [.ref b, rv (D, E, true, B) 4 0, rv (D, E, true, B) 5 0, iv 0] [] qms6 := by
  obtain ⟨r, g1, g2, hr, c1, c2⟩ := ap_letter (D := D) (E := E) (B := B) v1 v2 u_v1 u_v2
  refine g_aload_n (pc := 632) dL_law_632 rfl ?_
  refine g_aload_n (pc := 633) dL_law_633 rfl ?_
  refine g_iload_n (pc := 634) dL_law_634 rfl ?_
  refine g_iconst (pc := 635) (v := 1) dL_law_635 (by decide +kernel) ?_
  refine g_iadd (pc := 636) dL_law_636 ?_
  refine g_top (b := 1) (by decide) ?_
  refine g_sld (pc := 637) (x := v1) hX hbl hbA (by decide) (by decide) e_v1 dL_law_637 ?_
  refine g_aload_n (pc := 638) dL_law_638 rfl ?_
  refine g_iload_n (pc := 639) dL_law_639 rfl ?_
  refine g_iconst (pc := 640) (v := 2) dL_law_640 (by decide +kernel) ?_
  refine g_iadd (pc := 641) dL_law_641 ?_
  refine g_top (b := 2) (by decide) ?_
  refine g_sld (pc := 642) (x := v2) hX hbl hbA (by decide) (by decide) e_v2 dL_law_642 ?_
  refine g_callVi (pc := 643) (Y' := mX4_letter) (As := [iv v1, iv v2]) (st := []) (k := 4) (i := 0) (c1 K.2.1) gL_law_X4_letter rfl (show 0 < 1 by omega) rfl rfl (na := 2) rfl (by decide +kernel) (by decide) (by decide) (Nat.le_of_ble_eq_true rfl) dL_law_643 (fun r1 g3 hp => ?_)
  obtain ⟨h1, rfl⟩ := hp
  cases h1
  refine g_aload_n (pc := 646) dL_law_646 rfl ?_
  refine g_aload_n (pc := 647) dL_law_647 rfl ?_
  refine g_iload_n (pc := 648) dL_law_648 rfl ?_
  refine g_iconst (pc := 649) (v := 1) dL_law_649 (by decide +kernel) ?_
  refine g_iadd (pc := 650) dL_law_650 ?_
  refine g_top (b := 1) (by decide) ?_
  refine g_sld (pc := 651) (x := v1) hX hbl hbA (by decide) (by decide) e_v1 dL_law_651 ?_
  refine g_aload_n (pc := 652) dL_law_652 rfl ?_
  refine g_iload_n (pc := 653) dL_law_653 rfl ?_
  refine g_iconst (pc := 654) (v := 2) dL_law_654 (by decide +kernel) ?_
  refine g_iadd (pc := 655) dL_law_655 ?_
  refine g_top (b := 2) (by decide) ?_
  refine g_sld (pc := 656) (x := v2) hX hbl hbA (by decide) (by decide) e_v2 dL_law_656 ?_
  refine g_callVi (pc := 657) (Y' := mX5_letter) (As := [iv v1, iv v2]) (st := [iv r]) (k := 5) (i := 0) (c2 K.2.1) gL_law_X5_letter rfl (show 0 < 1 by omega) rfl rfl (na := 2) rfl (by decide +kernel) (by decide) (by decide) (Nat.le_of_ble_eq_true rfl) dL_law_657 (fun r1 g3 hp => ?_)
  obtain ⟨h1, rfl⟩ := hp
  cases h1
  exact g_icmp_eq (pc := 660) 721 dL_law_660 (by decide) hr hr (fun _ => law_tail hX hbl hbA) (fun h => absurd rfl h)
theorem lc_told {v1 : Nat} (u_v1 : v1 < 4294967296) (e_v1 : xs 1 = nI v1) {v2 : Nat} (u_v2 : v2 < 4294967296) (e_v2 : xs 2 = nI v2) (hX : va_X b 4 xs K.2.2.2.2.1 K.2.2.2.2.1.heap) (hbl : b < K.2.2.2.2.1.heap.size) (hbA : ¬ B ≤ b) : mg_G K (D, E, true, B) mL_law (fun v _ => v = some 1) 665 [.ref b, rv (D, E, true, B) 4 0, rv (D, E, true, B) 5 0, iv 0] [] qms6 := by
  obtain ⟨r, g1, g2, hr, c1, c2⟩ := ap_told (D := D) (E := E) (B := B) v1 v2 u_v1 u_v2
  refine g_aload_n (pc := 665) dL_law_665 rfl ?_
  refine g_aload_n (pc := 666) dL_law_666 rfl ?_
  refine g_iload_n (pc := 667) dL_law_667 rfl ?_
  refine g_iconst (pc := 668) (v := 1) dL_law_668 (by decide +kernel) ?_
  refine g_iadd (pc := 669) dL_law_669 ?_
  refine g_top (b := 1) (by decide) ?_
  refine g_sld (pc := 670) (x := v1) hX hbl hbA (by decide) (by decide) e_v1 dL_law_670 ?_
  refine g_aload_n (pc := 671) dL_law_671 rfl ?_
  refine g_iload_n (pc := 672) dL_law_672 rfl ?_
  refine g_iconst (pc := 673) (v := 2) dL_law_673 (by decide +kernel) ?_
  refine g_iadd (pc := 674) dL_law_674 ?_
  refine g_top (b := 2) (by decide) ?_
  refine g_sld (pc := 675) (x := v2) hX hbl hbA (by decide) (by decide) e_v2 dL_law_675 ?_
  refine g_callVi (pc := 676) (Y' := mX4_told) (As := [iv v1, iv v2]) (st := []) (k := 4) (i := 0) (c1 K.2.1) gL_law_X4_told rfl (show 0 < 1 by omega) rfl rfl (na := 2) rfl (by decide +kernel) (by decide) (by decide) (Nat.le_of_ble_eq_true rfl) dL_law_676 (fun r1 g3 hp => ?_)
  obtain ⟨h1, rfl⟩ := hp
  cases h1
  refine g_aload_n (pc := 679) dL_law_679 rfl ?_
  refine g_aload_n (pc := 680) dL_law_680 rfl ?_
  refine g_iload_n (pc := 681) dL_law_681 rfl ?_
  refine g_iconst (pc := 682) (v := 1) dL_law_682 (by decide +kernel) ?_
  refine g_iadd (pc := 683) dL_law_683 ?_
  refine g_top (b := 1) (by decide) ?_
  refine g_sld (pc := 684) (x := v1) hX hbl hbA (by decide) (by decide) e_v1 dL_law_684 ?_
  refine g_aload_n (pc := 685) dL_law_685 rfl ?_
  refine g_iload_n (pc := 686) dL_law_686 rfl ?_
  refine g_iconst (pc := 687) (v := 2) dL_law_687 (by decide +kernel) ?_
  refine g_iadd (pc := 688) dL_law_688 ?_
  refine g_top (b := 2) (by decide) ?_
  refine g_sld (pc := 689) (x := v2) hX hbl hbA (by decide) (by decide) e_v2 dL_law_689 ?_
  refine g_callVi (pc := 690) (Y' := mX5_told) (As := [iv v1, iv v2]) (st := [iv r]) (k := 5) (i := 0) (c2 K.2.1) gL_law_X5_told rfl (show 0 < 1 by omega) rfl rfl (na := 2) rfl (by decide +kernel) (by decide) (by decide) (Nat.le_of_ble_eq_true rfl) dL_law_690 (fun r1 g3 hp => ?_)
  obtain ⟨h1, rfl⟩ := hp
  cases h1
  exact g_icmp_eq (pc := 693) 721 dL_law_693 (by decide) hr hr (fun _ => law_tail hX hbl hbA) (fun h => absurd rfl h)
theorem lc_count {v1 : Nat} (u_v1 : v1 < 4294967296) (e_v1 : xs 1 = nI v1) (hX : va_X b 4 xs K.2.2.2.2.1 K.2.2.2.2.1.heap) (hbl : b < K.2.2.2.2.1.heap.size) (hbA : ¬ B ≤ b) : mg_G K (D, E, true, B) mL_law (fun v _ => v = some 1) 698 [.ref b, rv (D, E, true, B) 4 0, rv (D, E, true, B) 5 0, iv 0] [] qms6 := by
  obtain ⟨r, g1, g2, hr, c1, c2⟩ := ap_count (D := D) (E := E) (B := B) v1 u_v1
  refine g_aload_n (pc := 698) dL_law_698 rfl ?_
  refine g_aload_n (pc := 699) dL_law_699 rfl ?_
  refine g_iload_n (pc := 700) dL_law_700 rfl ?_
  refine g_iconst (pc := 701) (v := 1) dL_law_701 (by decide +kernel) ?_
  refine g_iadd (pc := 702) dL_law_702 ?_
  refine g_top (b := 1) (by decide) ?_
  refine g_sld (pc := 703) (x := v1) hX hbl hbA (by decide) (by decide) e_v1 dL_law_703 ?_
  refine g_callVi (pc := 704) (Y' := mX4_count) (As := [iv v1]) (st := []) (k := 4) (i := 0) (c1 K.2.1) gL_law_X4_count rfl (show 0 < 1 by omega) rfl rfl (na := 1) rfl (by decide +kernel) (by decide) (by decide) (Nat.le_of_ble_eq_true rfl) dL_law_704 (fun r1 g3 hp => ?_)
  obtain ⟨h1, rfl⟩ := hp
  cases h1
  refine g_aload_n (pc := 707) dL_law_707 rfl ?_
  refine g_aload_n (pc := 708) dL_law_708 rfl ?_
  refine g_iload_n (pc := 709) dL_law_709 rfl ?_
  refine g_iconst (pc := 710) (v := 1) dL_law_710 (by decide +kernel) ?_
  refine g_iadd (pc := 711) dL_law_711 ?_
  refine g_top (b := 1) (by decide) ?_
  refine g_sld (pc := 712) (x := v1) hX hbl hbA (by decide) (by decide) e_v1 dL_law_712 ?_
  refine g_callVi (pc := 713) (Y' := mX5_count) (As := [iv v1]) (st := [iv r]) (k := 5) (i := 0) (c2 K.2.1) gL_law_X5_count rfl (show 0 < 1 by omega) rfl rfl (na := 1) rfl (by decide +kernel) (by decide) (by decide) (Nat.le_of_ble_eq_true rfl) dL_law_713 (fun r1 g3 hp => ?_)
  obtain ⟨h1, rfl⟩ := hp
  cases h1
  exact g_icmp_eq (pc := 716) 721 dL_law_716 (by decide) hr hr (fun _ => law_tail hX hbl hbA) (fun h => absurd rfl h)
end LAWC
