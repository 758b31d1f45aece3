/-! ===== the rarer instructions ===== -/
theorem mg_and (a b : Nat) : nI a &&& nI b = nI (a &&& b) := by
  apply Int32.toBitVec_inj.mp
  show BitVec.ofNat 32 a &&& BitVec.ofNat 32 b = BitVec.ofNat 32 (a &&& b)
  exact BitVec.ofNat_and.symm
theorem mg_or (a b : Nat) : nI a ||| nI b = nI (a ||| b) := by
  apply Int32.toBitVec_inj.mp
  show BitVec.ofNat 32 a ||| BitVec.ofNat 32 b = BitVec.ofNat 32 (a ||| b)
  exact BitVec.ofNat_or.symm
theorem mg_xor (a b : Nat) : nI a ^^^ nI b = nI (a ^^^ b) := by
  apply Int32.toBitVec_inj.mp
  show BitVec.ofNat 32 a ^^^ BitVec.ofNat 32 b = BitVec.ofNat 32 (a ^^^ b)
  exact BitVec.ofNat_xor.symm
theorem mg_shl {s : Nat} (h : s < 32) : nI 1 <<< (nI s &&& 31) = nI (2 ^ s) := by
  have : ∀ s, s < 32 → nI 1 <<< (nI s &&& 31) = nI (2 ^ s) := by decide +kernel
  exact this s h
theorem mg_div {a b : Nat} (ha : a < 2147483648) (hb : b < 2147483648) : nI a / nI b = nI (a / b) := by
  apply Int32.toInt_inj.mp
  have hq : a / b < 2147483648 := Nat.lt_of_le_of_lt (Nat.div_le_self a b) ha
  rw [Int32.toInt_div, mg_nI ha, mg_nI hb, mg_nI hq, ← Int.ofNat_tdiv]
  generalize a / b = q at hq ⊢
  exact Int.bmod_eq_of_le (by omega) (by omega)
theorem mg_rem {a b : Nat} (ha : a < 2147483648) (hb : b < 2147483648) : nI a - nI a / nI b * nI b = nI (a % b) := by
  rw [mg_div ha hb, mg_mul, mg_sub (Nat.div_mul_le_self a b)]
  congr 1
  have := Nat.div_add_mod a b
  rw [Nat.mul_comm] at this
  omega
section MGM
variable {K : mg_Kt} {Z : mg_Zt} {Y : mg_Yt} {post : Option Nat → mg_F → Prop} {pc : Nat} {ls st : List Value} {g : mg_F}
theorem g_iand {a b : Nat} (hd : decode Y.1 pc = .ok (.iand, 1)) (kk : mg_G K Z Y post (pc + 1) ls (iv (a &&& b) :: st) g) : mg_G K Z Y post pc ls (iv b :: iv a :: st) g := by
  intro hF H locs la hP hS hL
  refine lv_iand hF.1 hF.2.1 hd ?_
  rw [mg_and]
  exact kk hF H locs la hP hS hL
theorem g_ior {a b : Nat} (hd : decode Y.1 pc = .ok (.ior, 1)) (kk : mg_G K Z Y post (pc + 1) ls (iv (a ||| b) :: st) g) : mg_G K Z Y post pc ls (iv b :: iv a :: st) g := by
  intro hF H locs la hP hS hL
  refine lv_ior hF.1 hF.2.1 hd ?_
  rw [mg_or]
  exact kk hF H locs la hP hS hL
theorem g_ixor {a b : Nat} (hd : decode Y.1 pc = .ok (.ixor, 1)) (kk : mg_G K Z Y post (pc + 1) ls (iv (a ^^^ b) :: st) g) : mg_G K Z Y post pc ls (iv b :: iv a :: st) g := by
  intro hF H locs la hP hS hL
  refine lv_ixor hF.1 hF.2.1 hd ?_
  rw [mg_xor]
  exact kk hF H locs la hP hS hL
theorem g_ishl {b : Nat} (hb : b < 32) (hd : decode Y.1 pc = .ok (.ishl, 1)) (kk : mg_G K Z Y post (pc + 1) ls (iv (2 ^ b) :: st) g) : mg_G K Z Y post pc ls (iv b :: iv 1 :: st) g := by
  intro hF H locs la hP hS hL
  refine lv_ishl hF.1 hF.2.1 hd ?_
  rw [mg_shl hb]
  exact kk hF H locs la hP hS hL
theorem g_idiv {a b : Nat} (ha : a < 2147483648) (hb : b < 2147483648) (hb0 : 0 < b) (hd : decode Y.1 pc = .ok (.idiv, 1)) (kk : mg_G K Z Y post (pc + 1) ls (iv (a / b) :: st) g) : mg_G K Z Y post pc ls (iv b :: iv a :: st) g := by
  intro hF H locs la hP hS hL
  refine lv_idiv hF.1 hF.2.1 hd (nI_ne0 hb0 hb) ?_
  rw [mg_div ha hb]
  exact kk hF H locs la hP hS hL
theorem g_irem {a b : Nat} (ha : a < 2147483648) (hb : b < 2147483648) (hb0 : 0 < b) (hd : decode Y.1 pc = .ok (.irem, 1)) (kk : mg_G K Z Y post (pc + 1) ls (iv (a % b) :: st) g) : mg_G K Z Y post pc ls (iv b :: iv a :: st) g := by
  intro hF H locs la hP hS hL
  refine lv_irem hF.1 hF.2.1 hd (nI_ne0 hb0 hb) ?_
  rw [mg_rem ha hb]
  exact kk hF H locs la hP hS hL
theorem g_iushr {a b v : Nat} (hv : ((nI a).toUInt32 >>> ((nI b).toUInt32 &&& Int32.toUInt32 31)).toInt32 = nI v) (hd : decode Y.1 pc = .ok (.iushr, 1)) (kk : mg_G K Z Y post (pc + 1) ls (iv v :: st) g) : mg_G K Z Y post pc ls (iv b :: iv a :: st) g := by
  intro hF H locs la hP hS hL
  exact lv_iushr hF.1 hF.2.1 hd hv (kk hF H locs la hP hS hL)
theorem g_ldcw {idx v : Nat} (hc : Cond.constant Y.2.1.cls idx (nI v) ∈ Y.2.2.2.2.1) (hd : decode Y.1 pc = .ok (.ldc_w idx, 3)) (kk : mg_G K Z Y post (pc + 3) ls (iv v :: st) g) : mg_G K Z Y post pc ls st g := by
  intro hF H locs la hP hS hL
  exact lv_ldcw hF.1 hF.2.1 hF.2.2.2.1 (hF.2.2.2.2.1 _ hc) hd (kk hF H locs la hP hS hL)
theorem g_aarow {k r a : Nat} (hin : 0 < mg_cnt Z.2.2.1 k) (hm : mg_mk Z.2.1 k 0 (g k 0) = .inl (Z.2.1.2.2.2.2, 24, .inr (.inr (.inr (.inr (fun j => some (Z.2.1.1 r j))))))) (ha : a < 24) (hd : decode Y.1 pc = .ok (.aaload, 1)) (kk : mg_G K Z Y post (pc + 1) ls (rv Z r a :: st) g) : mg_G K Z Y post pc ls (iv a :: rv Z k 0 :: st) g := by
  intro hF H locs la hP hS hL
  obtain ⟨q, hq⟩ := mg_at hin
  have he := mg_ws_at (E := Z.2.1) (g := g) hq
  rw [hm] at he
  have hlt : (nI a).toNatClampNeg = a := nI_clamp (show a < 2 ^ 31 by omega)
  have hcell : H[Z.2.1.1 k 0]? = some (arrV Z.2.1.2.2.2.2 24 (fun j => va_rf (some (Z.2.1.1 r j)))) := hP q _ he
  exact W.aald (cell := arrV Z.2.1.2.2.2.2 24 (fun j => va_rf (some (Z.2.1.1 r j)))) (v := .ref (Z.2.1.1 r a)) (ty := .array .int) hF.1 hF.2.1 hcell ((hF.2.2.2.2.2.1.1.2 3 _ rfl).1 24 (fun j => va_rf (some (Z.2.1.1 r j)))) rfl (fun q => by cases q) (by rw [arrV_size]; exact vp_in_nI ha (by omega)) (by rw [hlt, arrV_read _ _ ha]; rfl) rfl rfl hd (kk hF H locs la hP hS hL)
theorem g_max {a b idx : Nat} (ha : a < 2147483648) (hb : b < 2147483648) (hl : Cond.methodLink Y.2.1.cls idx Lib.Math.max.name ∈ Y.2.2.2.2.1) (hs : Cond.static Lib.Math.max.name ∈ Y.2.2.2.2.1) (hi : Cond.initialized "java/lang/Math" ∈ Y.2.2.2.2.1) (hc : Cond.code Lib.Math.max.name Lib.Math.max.code 2 (some .int) ∈ Y.2.2.2.2.1) (hdp : 1 ≤ Y.2.2.2.2.2) (hst : (st.map fun v => v.category).sum ≤ 8)
    (hd : decode Y.1 pc = .ok (.invokestatic idx, 3)) (kk : mg_G K Z Y post (pc + 3) ls (iv (max a b) :: st) g) : mg_G K Z Y post pc ls (iv b :: iv a :: st) g := by
  intro hF H locs la hP hS hL
  have hr := hF.2.2.2.2.2.2.1
  refine va_mmax hF.1 hF.2.1 (by rw [hL.1]; exact hF.2.2.1) hF.2.2.2.1 (hF.2.2.2.2.1 _ hl) (hF.2.2.2.2.1 _ hs) (hF.2.2.2.2.1 _ hi) (hF.2.2.2.2.1 _ hc) (by omega) (by omega) hr.2.2.1 hr.2.2.2 hd ?_
  have e : (if nI a < nI b then nI b else nI a) = nI (max a b) := by
    by_cases h : a < b
    · rw [if_pos ((nI_ltI ha hb).mpr h), Nat.max_eq_right (by omega)]
    · rw [if_neg (fun z => h ((nI_ltI ha hb).mp z)), Nat.max_eq_left (by omega)]
  rw [e]
  exact kk hF H locs la hP hS hL
theorem g_min {a b idx : Nat} (ha : a < 2147483648) (hb : b < 2147483648) (hl : Cond.methodLink Y.2.1.cls idx Lib.Math.min.name ∈ Y.2.2.2.2.1) (hs : Cond.static Lib.Math.min.name ∈ Y.2.2.2.2.1) (hi : Cond.initialized "java/lang/Math" ∈ Y.2.2.2.2.1) (hc : Cond.code Lib.Math.min.name Lib.Math.min.code 2 (some .int) ∈ Y.2.2.2.2.1) (hdp : 1 ≤ Y.2.2.2.2.2) (hst : (st.map fun v => v.category).sum ≤ 8)
    (hd : decode Y.1 pc = .ok (.invokestatic idx, 3)) (kk : mg_G K Z Y post (pc + 3) ls (iv (min a b) :: st) g) : mg_G K Z Y post pc ls (iv b :: iv a :: st) g := by
  intro hF H locs la hP hS hL
  have hr := hF.2.2.2.2.2.2.1
  refine va_mmin hF.1 hF.2.1 (by rw [hL.1]; exact hF.2.2.1) hF.2.2.2.1 (hF.2.2.2.2.1 _ hl) (hF.2.2.2.2.1 _ hs) (hF.2.2.2.2.1 _ hi) (hF.2.2.2.2.1 _ hc) (by omega) (by omega) hr.2.2.1 hr.2.2.2 hd ?_
  have e : (if nI b < nI a then nI b else nI a) = nI (min a b) := by
    by_cases h : b < a
    · rw [if_pos ((nI_ltI hb ha).mpr h), Nat.min_eq_right (by omega)]
    · rw [if_neg (fun z => h ((nI_ltI hb ha).mp z)), Nat.min_eq_left (by omega)]
  rw [e]
  exact kk hF H locs la hP hS hL
/-- a row with n of its numbers, from sp on, copied to dp on -/
def mg_cpy (r : Nat → Nat) (sp dp n : Nat) : Nat → Nat := fun j => if dp ≤ j ∧ j < dp + n then r (sp + (j - dp)) else r j
theorem g_copy {k i L sp dp n idx : Nat} (hin : i < mg_cnt Z.2.2.1 k) (hm : ∀ r : Nat → Nat, mg_mk Z.2.1 k i r = .inl (Z.2.1.2.1, L, .inl (fun j => nI (r j)))) (hL0 : L < 2147483648) (h4 : sp + n ≤ L) (h5 : dp + n ≤ L) (hl : Cond.methodLink Y.2.1.cls idx arraycopyName ∈ Y.2.2.2.2.1) (hnt : Cond.native arraycopyName ∈ Y.2.2.2.2.1) (hs : Cond.static arraycopyName ∈ Y.2.2.2.2.1) (hi : Cond.initialized "java/lang/System" ∈ Y.2.2.2.2.1) (hdp : 1 ≤ Y.2.2.2.2.2) (hst : (st.map fun v => v.category).sum ≤ 8)
    (hd : decode Y.1 pc = .ok (.invokestatic idx, 3)) (kk : mg_G K Z Y post (pc + 3) ls st (mg_upr g k i (mg_cpy (g k i) sp dp n))) : mg_G K Z Y post pc ls (iv n :: iv dp :: rv Z k i :: iv sp :: rv Z k i :: st) g := by
  intro hF H locs la hP hS hL
  have hr := hF.2.2.2.2.2.2.1
  obtain ⟨q, hq⟩ := mg_at hin
  have he := mg_ws_at (E := Z.2.1) (g := g) hq
  rw [hm] at he
  have c1 : (nI sp).toNatClampNeg = sp := nI_clamp (show sp < 2 ^ 31 by omega)
  have c2 : (nI dp).toNatClampNeg = dp := nI_clamp (show dp < 2 ^ 31 by omega)
  have c3 : (nI n).toNatClampNeg = n := nI_clamp (show n < 2 ^ 31 by omega)
  have hw : nativeFrameWords "java/lang/System" "arraycopy" 5 + 11 + 8 ≤ 33 := by decide +kernel
  refine va_copyi hF.1 hF.2.1 (by rw [hL.1]; exact hF.2.2.1) hF.2.2.2.1 (hF.2.2.2.2.1 _ hl) (hF.2.2.2.2.1 _ hnt) (hF.2.2.2.2.1 _ hs) (hF.2.2.2.2.1 _ hi) hF.2.2.2.2.2.1.1 hP (mg_D hF.2.2.2.2.2.1.2.1 g) hS q q 0 0 he he rfl rfl rfl (nI_pos (by omega)) (nI_pos (by omega)) (nI_pos (by omega)) (by rw [c1, c3]; exact h4) (by rw [c2, c3]; exact h5) (fun _ _ => rfl) (by omega) (by omega) hd (fun H1 locs1 hP1 hD1 hS1 => ?_)
  have e : va_cpy (fun j => nI (g k i j)) (fun j => nI (g k i j)) (nI sp).toNatClampNeg (nI dp).toNatClampNeg (nI n).toNatClampNeg = fun j => nI (mg_cpy (g k i) sp dp n j) := by
    rw [c1, c2, c3]
    funext j
    unfold va_cpy mg_cpy
    split <;> rfl
  rw [e, ← hm, mg_set hq] at hP1
  exact kk hF H1 locs1 la hP1 hS1 hL
end MGM
