/-! ===== send, take out, read ===== -/
theorem mg_app_ne (g : mg_F) {t x1 x2 x3 x4 x5 k i : Nat} (h : ¬ (i = t ∧ (k = 1 ∨ k = 11 ∨ k = 12 ∨ k = 13 ∨ k = 14 ∨ k = 15))) : mg_app g t x1 x2 x3 x4 x5 k i = g k i := by
  unfold mg_app
  split
  · rfl
  · have e1 : ¬ (k = 1 ∧ i = t) := fun z => h ⟨z.2, by omega⟩
    have e2 : ¬ (k = 11 ∧ i = t) := fun z => h ⟨z.2, by omega⟩
    have e3 : ¬ (k = 12 ∧ i = t) := fun z => h ⟨z.2, by omega⟩
    have e4 : ¬ (k = 13 ∧ i = t) := fun z => h ⟨z.2, by omega⟩
    have e5 : ¬ (k = 14 ∧ i = t) := fun z => h ⟨z.2, by omega⟩
    have e6 : ¬ (k = 15 ∧ i = t) := fun z => h ⟨z.2, by omega⟩
    simp [mg_up, mg_upr, e1, e2, e3, e4, e5, e6]
theorem mg_app_sz (g : mg_F) {t x1 x2 x3 x4 x5 : Nat} (h : g 1 t 5 ≤ mg_cap t) : mg_app g t x1 x2 x3 x4 x5 1 t 5 = (if g 1 t 5 = mg_cap t then g 1 t 5 else g 1 t 5 + 1) ∧ mg_app g t x1 x2 x3 x4 x5 1 t 5 ≤ mg_cap t := by
  unfold mg_app
  split
  · exact ⟨rfl, h⟩
  · refine ⟨by simp [mg_up, mg_upr, mg_us], ?_⟩
    simp [mg_up, mg_upr, mg_us]
    omega
theorem mg_app_12 (g : mg_F) {t x1 x2 x3 x4 x5 i : Nat} : mg_app g t x1 x2 x3 x4 x5 12 t i = (if g 1 t 5 ≠ mg_cap t ∧ i = g 1 t 5 then x2 else g 12 t i) ∧ mg_app g t x1 x2 x3 x4 x5 13 t i = (if g 1 t 5 ≠ mg_cap t ∧ i = g 1 t 5 then x3 else g 13 t i) := by
  unfold mg_app
  by_cases h : g 1 t 5 = mg_cap t
  · rw [if_pos h, if_neg (by omega), if_neg (by omega)]
    exact ⟨rfl, rfl⟩
  · rw [if_neg h]
    by_cases e : i = g 1 t 5
    · rw [if_pos ⟨h, e⟩, if_pos ⟨h, e⟩]
      subst e
      simp [mg_up, mg_upr, mg_us]
    · rw [if_neg (by omega), if_neg (by omega)]
      simp [mg_up, mg_upr, mg_us, e]
def mg_send (g : mg_F) (k a b r : Nat) : mg_F := if mg_fb g 0 a b = 4294967294 then mg_cf (mg_up (mg_app g 0 k a b (g 21 a b) r) 21 a b ((mg_app g 0 k a b (g 21 a b) r) 21 a b + 1)) a b else mg_up (mg_app g 0 k a b (g 21 a b) r) 21 a b ((mg_app g 0 k a b (g 21 a b) r) 21 a b + 1)
section SND
variable {Z : mg_Zt} {g : mg_F}
/-- X4_send -/
theorem c_send (l : Launch) {k a b r : Nat} (h0 : g 1 0 5 ≤ 1024) (h1 : g 1 1 5 ≤ 60) (hw : ∀ i, i < mg_cap 0 → g 12 0 i < 4294967296 ∧ g 13 0 i < 4294967296) (ha : a < 24) (hb : b < 24) : mg_C l Z mX4_send [rv Z 4 0, iv k, iv a, iv b, iv r] g (fun v g' => v = none ∧ g' = mg_send g k a b r) := by
  refine mg_C.of (by decide) rfl (Nat.le_of_ble_eq_true rfl) (List.forall_mem_cons.mpr ⟨rfl, (List.forall_mem_cons.mpr ⟨rfl, (List.forall_mem_cons.mpr ⟨rfl, (List.forall_mem_cons.mpr ⟨rfl, (List.forall_mem_cons.mpr ⟨rfl, (fun _ h => nomatch h)⟩)⟩)⟩)⟩)⟩) (fun K => ?_)
  have k0 : mg_cap 0 = 1024 := rfl
  have k1 : mg_cap 1 = 60 := rfl
  have hfo := mg_fb_or g 0 a b
  have q0 : (mg_up (mg_app g 0 k a b (g 21 a b) r) 21 a b ((mg_app g 0 k a b (g 21 a b) r) 21 a b + 1)) 1 0 5 ≤ 1024 := by have := (mg_app_sz g (t := 0) (x1 := k) (x2 := a) (x3 := b) (x4 := g 21 a b) (x5 := r) (by omega)).2; simp [mg_up, mg_upr]; omega
  have q1 : (mg_up (mg_app g 0 k a b (g 21 a b) r) 21 a b ((mg_app g 0 k a b (g 21 a b) r) 21 a b + 1)) 1 1 5 ≤ 60 := by simp only [mg_up, mg_upr]; rw [if_neg (by omega), mg_app_ne g (by omega)]; exact h1
  have qw : ∀ i, i < mg_cap 0 → (mg_up (mg_app g 0 k a b (g 21 a b) r) 21 a b ((mg_app g 0 k a b (g 21 a b) r) 21 a b + 1)) 12 0 i < 4294967296 ∧ (mg_up (mg_app g 0 k a b (g 21 a b) r) 21 a b ((mg_app g 0 k a b (g 21 a b) r) 21 a b + 1)) 13 0 i < 4294967296 := by
    intro i hi
    have := hw i hi
    simp only [mg_up, mg_upr]
    rw [if_neg (by omega), if_neg (by omega), (mg_app_12 g).1, (mg_app_12 g).2]
    constructor <;> split <;> omega
  refine g_aload_n (pc := 0) dX4_send_0 rfl ?_
  refine fg_X4_send_27 (pc := 1) dX4_send_1 ?_
  refine g_iload_n (pc := 4) dX4_send_4 rfl ?_
  refine g_iload_n (pc := 5) dX4_send_5 rfl ?_
  refine g_callVi (pc := 6) (Y' := mX1_firstBetween) (As := [iv a, iv b]) (st := []) (k := 1) (i := 0) (c_fbF K.2.1 (g := g) (t := 0) (a := a) (b := b) (by decide) (by omega) hw (by omega) (by omega)) gX4_send_X1_firstBetween rfl (show 0 < 2 by omega) rfl rfl (na := 2) rfl (by decide +kernel) (by decide) (by decide) (Nat.le_of_ble_eq_true rfl) dX4_send_6 (fun r1 g2 p3 => ?_)
  obtain ⟨hv, hg⟩ := p3
  have hg := hg.symm
  subst hg
  have hv := (Option.some.inj hv).symm
  subst hv
  refine g_bipush (pc := 9) (v := 4294967294) dX4_send_9 (by decide +kernel) ?_
  refine g_icmp_ne (pc := 11) 18 dX4_send_11 (by decide) (by omega) (by omega) (fun h4 => ?_) (fun h4 => ?_)
  · refine g_iconst (pc := 18) (v := 0) dX4_send_18 (by decide +kernel) ?_
    refine g_istore (pc := 19) (ls' := [rv Z 4 0, iv k, iv a, iv b, iv r, iv 0]) dX4_send_19 (Nat.le_of_ble_eq_true rfl) (Nat.le_of_ble_eq_true rfl) rfl ?_
    refine g_aload_n (pc := 21) dX4_send_21 rfl ?_
    refine fg_X4_send_27 (pc := 22) dX4_send_22 ?_
    refine g_iload_n (pc := 25) dX4_send_25 rfl ?_
    refine g_iload_n (pc := 26) dX4_send_26 rfl ?_
    refine g_iload_n (pc := 27) dX4_send_27 rfl ?_
    refine g_aload_n (pc := 28) dX4_send_28 rfl ?_
    refine fg_X4_send_36 (pc := 29) dX4_send_29 ?_
    refine g_iload_n (pc := 32) dX4_send_32 rfl ?_
    refine g_aarow (pc := 33) (k := 19) (r := 21) (a := a) (show 0 < 1 by omega) rfl (by omega) dX4_send_33 ?_
    refine g_iload_n (pc := 34) dX4_send_34 rfl ?_
    refine g_iaload (pc := 35) (k := 21) (i := a) (n := 24) (show a < 24 by omega) rfl (by decide) (by omega) dX4_send_35 ?_
    refine g_iload (pc := 36) dX4_send_36 rfl ?_
    refine g_callVv (pc := 38) (Y' := mX1_add) (As := [iv k, iv a, iv b, iv (g 21 a b), iv r]) (st := []) (k := 1) (i := 0) (c_addF K.2.1 (g := g) (t := 0) (by decide) (by omega)) gX4_send_X1_add rfl (show 0 < 2 by omega) rfl rfl (na := 5) rfl (by decide +kernel) (by decide) (by decide) (Nat.le_of_ble_eq_true rfl) dX4_send_38 (fun g6 p7 => ?_)
    obtain ⟨-, hg⟩ := p7
    have hg := hg.symm
    subst hg
    refine g_aload_n (pc := 41) dX4_send_41 rfl ?_
    refine fg_X4_send_36 (pc := 42) dX4_send_42 ?_
    refine g_iload_n (pc := 45) dX4_send_45 rfl ?_
    refine g_aarow (pc := 46) (k := 19) (r := 21) (a := a) (show 0 < 1 by omega) rfl (by omega) dX4_send_46 ?_
    refine g_iload_n (pc := 47) dX4_send_47 rfl ?_
    refine g_dup2 (pc := 48) dX4_send_48 rfl rfl ?_
    refine g_iaload (pc := 49) (k := 21) (i := a) (n := 24) (show a < 24 by omega) rfl (by decide) (by omega) dX4_send_49 ?_
    refine g_iconst (pc := 50) (v := 1) dX4_send_50 (by decide +kernel) ?_
    refine g_iadd (pc := 51) dX4_send_51 ?_
    refine g_iastore (pc := 52) (k := 21) (i := a) (n := 24) (show a < 24 by omega) (fun _ => rfl) (by decide) (by omega) dX4_send_52 ?_
    refine g_iload (pc := 53) dX4_send_53 rfl ?_
    refine g_if_eq (pc := 55) 64 dX4_send_55 (by decide) (by decide) (fun _ => ?_) (fun h => absurd (by decide) h)
    exact g_ret (pc := 64) dX4_send_64 trivial (by unfold mg_send; first | (rw [if_pos (by omega)]; exact ⟨rfl, rfl⟩) | (rw [if_neg (by omega)]; exact ⟨rfl, rfl⟩))
  · refine g_iconst (pc := 14) (v := 1) dX4_send_14 (by decide +kernel) ?_
    refine g_goto (pc := 15) 19 dX4_send_15 (by decide) ?_
    refine g_istore (pc := 19) (ls' := [rv Z 4 0, iv k, iv a, iv b, iv r, iv 1]) dX4_send_19 (Nat.le_of_ble_eq_true rfl) (Nat.le_of_ble_eq_true rfl) rfl ?_
    refine g_aload_n (pc := 21) dX4_send_21 rfl ?_
    refine fg_X4_send_27 (pc := 22) dX4_send_22 ?_
    refine g_iload_n (pc := 25) dX4_send_25 rfl ?_
    refine g_iload_n (pc := 26) dX4_send_26 rfl ?_
    refine g_iload_n (pc := 27) dX4_send_27 rfl ?_
    refine g_aload_n (pc := 28) dX4_send_28 rfl ?_
    refine fg_X4_send_36 (pc := 29) dX4_send_29 ?_
    refine g_iload_n (pc := 32) dX4_send_32 rfl ?_
    refine g_aarow (pc := 33) (k := 19) (r := 21) (a := a) (show 0 < 1 by omega) rfl (by omega) dX4_send_33 ?_
    refine g_iload_n (pc := 34) dX4_send_34 rfl ?_
    refine g_iaload (pc := 35) (k := 21) (i := a) (n := 24) (show a < 24 by omega) rfl (by decide) (by omega) dX4_send_35 ?_
    refine g_iload (pc := 36) dX4_send_36 rfl ?_
    refine g_callVv (pc := 38) (Y' := mX1_add) (As := [iv k, iv a, iv b, iv (g 21 a b), iv r]) (st := []) (k := 1) (i := 0) (c_addF K.2.1 (g := g) (t := 0) (by decide) (by omega)) gX4_send_X1_add rfl (show 0 < 2 by omega) rfl rfl (na := 5) rfl (by decide +kernel) (by decide) (by decide) (Nat.le_of_ble_eq_true rfl) dX4_send_38 (fun g9 p10 => ?_)
    obtain ⟨-, hg⟩ := p10
    have hg := hg.symm
    subst hg
    refine g_aload_n (pc := 41) dX4_send_41 rfl ?_
    refine fg_X4_send_36 (pc := 42) dX4_send_42 ?_
    refine g_iload_n (pc := 45) dX4_send_45 rfl ?_
    refine g_aarow (pc := 46) (k := 19) (r := 21) (a := a) (show 0 < 1 by omega) rfl (by omega) dX4_send_46 ?_
    refine g_iload_n (pc := 47) dX4_send_47 rfl ?_
    refine g_dup2 (pc := 48) dX4_send_48 rfl rfl ?_
    refine g_iaload (pc := 49) (k := 21) (i := a) (n := 24) (show a < 24 by omega) rfl (by decide) (by omega) dX4_send_49 ?_
    refine g_iconst (pc := 50) (v := 1) dX4_send_50 (by decide +kernel) ?_
    refine g_iadd (pc := 51) dX4_send_51 ?_
    refine g_iastore (pc := 52) (k := 21) (i := a) (n := 24) (show a < 24 by omega) (fun _ => rfl) (by decide) (by omega) dX4_send_52 ?_
    refine g_iload (pc := 53) dX4_send_53 rfl ?_
    refine g_if_eq (pc := 55) 64 dX4_send_55 (by decide) (by decide) (fun h => absurd h (by decide)) (fun _ => ?_)
    refine g_aload_n (pc := 58) dX4_send_58 rfl ?_
    refine g_iload_n (pc := 59) dX4_send_59 rfl ?_
    refine g_iload_n (pc := 60) dX4_send_60 rfl ?_
    refine g_callVv (pc := 61) (Y' := mX4_copyFirst) (As := [iv a, iv b]) (st := []) (k := 4) (i := 0) (c_copyFirst K.2.1 (g := mg_up (mg_app g 0 k a b (g 21 a b) r) 21 a b ((mg_app g 0 k a b (g 21 a b) r) 21 a b + 1)) q0 q1 qw (by omega) (by omega)) gX4_send_X4_copyFirst rfl (show 0 < 1 by omega) rfl rfl (na := 2) rfl (by decide +kernel) (by decide) (by decide) (Nat.le_of_ble_eq_true rfl) dX4_send_61 (fun g12 p13 => ?_)
    obtain ⟨-, hg⟩ := p13
    have hg := hg.symm
    subst hg
    exact g_ret (pc := 64) dX4_send_64 trivial (by unfold mg_send; first | (rw [if_pos (by omega)]; exact ⟨rfl, rfl⟩) | (rw [if_neg (by omega)]; exact ⟨rfl, rfl⟩))
end SND
