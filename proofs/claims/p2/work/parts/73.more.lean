/-! ===== queues and letters: what comes, what goes ===== -/
section MORE
variable {Z : mg_Zt} {g : mg_F}
/-- one goes out of a row of numbers -/
theorem c_closeGap (l : Launch) {k i L a n : Nat} (hin : i < mg_cnt Z.2.2.1 k) (hm : ∀ r : Nat → Nat, mg_mk Z.2.1 k i r = .inl (Z.2.1.2.1, L, .inl (fun j => nI (r j)))) (hL : L < 2147483648) (hn : n ≤ L) (ha : a < n) : mg_C l Z mX4_closeGap [rv Z k i, iv a, iv n] g (fun v g' => v = none ∧ g' = mg_upr g k i (mg_cpy (g k i) (a + 1) a (n - a - 1))) := by
  refine mg_C.of (by decide) rfl (Nat.le_of_ble_eq_true rfl) (List.forall_mem_cons.mpr ⟨rfl, (List.forall_mem_cons.mpr ⟨rfl, (List.forall_mem_cons.mpr ⟨rfl, (fun _ h => nomatch h)⟩)⟩)⟩) (fun K => ?_)
  refine g_aload_n (pc := 0) dX4_closeGap_0 rfl ?_
  refine g_iload_n (pc := 1) dX4_closeGap_1 rfl ?_
  refine g_iconst (pc := 2) (v := 1) dX4_closeGap_2 (by decide +kernel) ?_
  refine g_iadd (pc := 3) dX4_closeGap_3 ?_
  refine g_aload_n (pc := 4) dX4_closeGap_4 rfl ?_
  refine g_iload_n (pc := 5) dX4_closeGap_5 rfl ?_
  refine g_iload_n (pc := 6) dX4_closeGap_6 rfl ?_
  refine g_iload_n (pc := 7) dX4_closeGap_7 rfl ?_
  refine g_isub (pc := 8) (by omega) dX4_closeGap_8 ?_
  refine g_iconst (pc := 9) (v := 1) dX4_closeGap_9 (by decide +kernel) ?_
  refine g_isub (pc := 10) (by omega) dX4_closeGap_10 ?_
  refine g_copy (pc := 11) (L := L) hin hm hL (by omega) (by omega) (by decide +kernel) (by decide +kernel) (by decide +kernel) (by decide +kernel) (by decide) (Nat.le_of_ble_eq_true rfl) dX4_closeGap_11 ?_
  exact g_ret (pc := 14) dX4_closeGap_14 trivial ⟨rfl, rfl⟩
/-- X2_add -/
theorem c_ladd (l : Launch) {s x r : Nat} (hs : s < 24) (hl : g 2 s 2 ≤ 24) : mg_C l Z mX2_add [rv Z 2 s, iv x, iv r] g (fun v g' => (g 2 s 2 = 24 ∧ v = none ∧ g' = g) ∨ (g 2 s 2 < 24 ∧ v = none ∧ g' = mg_up (mg_up (mg_up g 16 s (g 2 s 2) x) 17 s (g 2 s 2) r) 2 s 2 (g 2 s 2 + 1))) := by
  refine mg_C.of (by decide) rfl (Nat.le_of_ble_eq_true rfl) (List.forall_mem_cons.mpr ⟨rfl, (List.forall_mem_cons.mpr ⟨rfl, (List.forall_mem_cons.mpr ⟨rfl, (fun _ h => nomatch h)⟩)⟩)⟩) (fun K => ?_)
  refine g_aload_n (pc := 0) dX2_add_0 rfl ?_
  refine fg_X2_add_18 (pc := 1) (by omega) dX2_add_1 ?_
  refine g_bipush (pc := 4) (v := 24) dX2_add_4 (by decide +kernel) ?_
  refine g_icmp_ne (pc := 6) 10 dX2_add_6 (by decide) (by omega) (by omega) (fun h1 => ?_) (fun h1 => ?_)
  · refine g_aload_n (pc := 10) dX2_add_10 rfl ?_
    refine fg_X2_add_9 (pc := 11) (by omega) dX2_add_11 ?_
    refine g_aload_n (pc := 14) dX2_add_14 rfl ?_
    refine fg_X2_add_18 (pc := 15) (by omega) dX2_add_15 ?_
    refine g_iload_n (pc := 18) dX2_add_18 rfl ?_
    refine g_iastore (pc := 19) (k := 16) (i := s) (n := 24) (show s < 24 by omega) (fun _ => rfl) (by decide) (by omega) dX2_add_19 ?_
    refine g_aload_n (pc := 20) dX2_add_20 rfl ?_
    refine fg_X2_add_15 (pc := 21) (by omega) dX2_add_21 ?_
    refine g_aload_n (pc := 24) dX2_add_24 rfl ?_
    refine fg_X2_add_18 (pc := 25) (by omega) dX2_add_25 ?_
    refine g_top (b := g 2 s 2) (by simp [mg_up, mg_upr, mg_us]) ?_
    refine g_iload_n (pc := 28) dX2_add_28 rfl ?_
    refine g_iastore (pc := 29) (k := 17) (i := s) (n := 24) (show s < 24 by omega) (fun _ => rfl) (by decide) (by omega) dX2_add_29 ?_
    refine g_aload_n (pc := 30) dX2_add_30 rfl ?_
    refine g_dup (pc := 31) dX2_add_31 rfl ?_
    refine fg_X2_add_18 (pc := 32) (by omega) dX2_add_32 ?_
    refine g_top (b := g 2 s 2) (by simp [mg_up, mg_upr, mg_us]) ?_
    refine g_iconst (pc := 35) (v := 1) dX2_add_35 (by decide +kernel) ?_
    refine g_iadd (pc := 36) dX2_add_36 ?_
    refine fp_X2_add_18 (pc := 37) (by omega) dX2_add_37 ?_
    exact g_ret (pc := 40) dX2_add_40 trivial (by first | exact Or.inl ⟨by omega, rfl, rfl⟩ | exact Or.inr ⟨by omega, rfl, rfl⟩)
  · exact g_ret (pc := 9) dX2_add_9 trivial (by first | exact Or.inl ⟨by omega, rfl, rfl⟩ | exact Or.inr ⟨by omega, rfl, rfl⟩)
/-- X1_add -/
theorem c_tadd (l : Launch) {t x1 x2 x3 x4 x5 : Nat} (ht : t < 2) (hl : g 1 t 5 ≤ mg_cap t) (hc : mg_cap t < 2147483648) : mg_C l Z mX1_add [rv Z 1 t, iv x1, iv x2, iv x3, iv x4, iv x5] g (fun v g' => (g 1 t 5 = mg_cap t ∧ v = none ∧ g' = g) ∨ (g 1 t 5 < mg_cap t ∧ v = none ∧ g' = mg_up (mg_up (mg_up (mg_up (mg_up (mg_up g 11 t (g 1 t 5) x1) 12 t (g 1 t 5) x2) 13 t (g 1 t 5) x3) 14 t (g 1 t 5) x4) 15 t (g 1 t 5) x5) 1 t 5 (g 1 t 5 + 1))) := by
  refine mg_C.of (by decide) rfl (Nat.le_of_ble_eq_true rfl) (List.forall_mem_cons.mpr ⟨rfl, (List.forall_mem_cons.mpr ⟨rfl, (List.forall_mem_cons.mpr ⟨rfl, (List.forall_mem_cons.mpr ⟨rfl, (List.forall_mem_cons.mpr ⟨rfl, (List.forall_mem_cons.mpr ⟨rfl, (fun _ h => nomatch h)⟩)⟩)⟩)⟩)⟩)⟩) (fun K => ?_)
  refine g_aload_n (pc := 0) dX1_add_0 rfl ?_
  refine fg_X1_add_27 (pc := 1) (by omega) dX1_add_1 ?_
  refine g_aload_n (pc := 4) dX1_add_4 rfl ?_
  refine fg_X1_add_9 (pc := 5) (by omega) dX1_add_5 ?_
  refine g_alen (pc := 8) (k := 11) (i := t) (n := mg_cap t) (show t < 2 by omega) rfl dX1_add_8 ?_
  refine g_icmp_ne (pc := 9) 13 dX1_add_9 (by decide) (by omega) (by omega) (fun h1 => ?_) (fun h1 => ?_)
  · refine g_aload_n (pc := 13) dX1_add_13 rfl ?_
    refine fg_X1_add_9 (pc := 14) (by omega) dX1_add_14 ?_
    refine g_aload_n (pc := 17) dX1_add_17 rfl ?_
    refine fg_X1_add_27 (pc := 18) (by omega) dX1_add_18 ?_
    refine g_iload_n (pc := 21) dX1_add_21 rfl ?_
    refine g_iastore (pc := 22) (k := 11) (i := t) (n := mg_cap t) (show t < 2 by omega) (fun _ => rfl) (by omega) (by omega) dX1_add_22 ?_
    refine g_aload_n (pc := 23) dX1_add_23 rfl ?_
    refine fg_X1_add_15 (pc := 24) (by omega) dX1_add_24 ?_
    refine g_aload_n (pc := 27) dX1_add_27 rfl ?_
    refine fg_X1_add_27 (pc := 28) (by omega) dX1_add_28 ?_
    refine g_top (b := g 1 t 5) (by simp [mg_up, mg_upr, mg_us]) ?_
    refine g_iload_n (pc := 31) dX1_add_31 rfl ?_
    refine g_iastore (pc := 32) (k := 12) (i := t) (n := mg_cap t) (show t < 2 by omega) (fun _ => rfl) (by omega) (by omega) dX1_add_32 ?_
    refine g_aload_n (pc := 33) dX1_add_33 rfl ?_
    refine fg_X1_add_18 (pc := 34) (by omega) dX1_add_34 ?_
    refine g_aload_n (pc := 37) dX1_add_37 rfl ?_
    refine fg_X1_add_27 (pc := 38) (by omega) dX1_add_38 ?_
    refine g_top (b := g 1 t 5) (by simp [mg_up, mg_upr, mg_us]) ?_
    refine g_iload_n (pc := 41) dX1_add_41 rfl ?_
    refine g_iastore (pc := 42) (k := 13) (i := t) (n := mg_cap t) (show t < 2 by omega) (fun _ => rfl) (by omega) (by omega) dX1_add_42 ?_
    refine g_aload_n (pc := 43) dX1_add_43 rfl ?_
    refine fg_X1_add_21 (pc := 44) (by omega) dX1_add_44 ?_
    refine g_aload_n (pc := 47) dX1_add_47 rfl ?_
    refine fg_X1_add_27 (pc := 48) (by omega) dX1_add_48 ?_
    refine g_top (b := g 1 t 5) (by simp [mg_up, mg_upr, mg_us]) ?_
    refine g_iload (pc := 51) dX1_add_51 rfl ?_
    refine g_iastore (pc := 53) (k := 14) (i := t) (n := mg_cap t) (show t < 2 by omega) (fun _ => rfl) (by omega) (by omega) dX1_add_53 ?_
    refine g_aload_n (pc := 54) dX1_add_54 rfl ?_
    refine fg_X1_add_24 (pc := 55) (by omega) dX1_add_55 ?_
    refine g_aload_n (pc := 58) dX1_add_58 rfl ?_
    refine fg_X1_add_27 (pc := 59) (by omega) dX1_add_59 ?_
    refine g_top (b := g 1 t 5) (by simp [mg_up, mg_upr, mg_us]) ?_
    refine g_iload (pc := 62) dX1_add_62 rfl ?_
    refine g_iastore (pc := 64) (k := 15) (i := t) (n := mg_cap t) (show t < 2 by omega) (fun _ => rfl) (by omega) (by omega) dX1_add_64 ?_
    refine g_aload_n (pc := 65) dX1_add_65 rfl ?_
    refine g_dup (pc := 66) dX1_add_66 rfl ?_
    refine fg_X1_add_27 (pc := 67) (by omega) dX1_add_67 ?_
    refine g_top (b := g 1 t 5) (by simp [mg_up, mg_upr, mg_us]) ?_
    refine g_iconst (pc := 70) (v := 1) dX1_add_70 (by decide +kernel) ?_
    refine g_iadd (pc := 71) dX1_add_71 ?_
    refine fp_X1_add_27 (pc := 72) (by omega) dX1_add_72 ?_
    exact g_ret (pc := 75) dX1_add_75 trivial (by first | exact Or.inl ⟨by omega, rfl, rfl⟩ | exact Or.inr ⟨by omega, rfl, rfl⟩)
  · exact g_ret (pc := 12) dX1_add_12 trivial (by first | exact Or.inl ⟨by omega, rfl, rfl⟩ | exact Or.inr ⟨by omega, rfl, rfl⟩)
/-- X1_addCopy -/
theorem c_tcopy (l : Launch) {t u i : Nat} (ht : t < 2) (hu : u < 2) (hl : g 1 t 5 ≤ mg_cap t) (hc : mg_cap t < 2147483648) (hcu : mg_cap u < 2147483648) (hi : i < mg_cap u) : mg_C l Z mX1_addCopy [rv Z 1 t, rv Z 1 u, iv i] g (fun v g' => (g 1 t 5 = mg_cap t ∧ v = none ∧ g' = g) ∨ (g 1 t 5 < mg_cap t ∧ v = none ∧ g' = mg_up (mg_up (mg_up (mg_up (mg_up (mg_up g 11 t (g 1 t 5) (g 11 u i)) 12 t (g 1 t 5) (g 12 u i)) 13 t (g 1 t 5) (g 13 u i)) 14 t (g 1 t 5) (g 14 u i)) 15 t (g 1 t 5) (g 15 u i)) 1 t 5 (g 1 t 5 + 1))) := by
  refine mg_C.of (by decide) rfl (Nat.le_of_ble_eq_true rfl) (List.forall_mem_cons.mpr ⟨rfl, (List.forall_mem_cons.mpr ⟨rfl, (List.forall_mem_cons.mpr ⟨rfl, (fun _ h => nomatch h)⟩)⟩)⟩) (fun K => ?_)
  refine g_aload_n (pc := 0) dX1_addCopy_0 rfl ?_
  refine g_aload_n (pc := 1) dX1_addCopy_1 rfl ?_
  refine fg_X1_addCopy_9 (pc := 2) (by omega) dX1_addCopy_2 ?_
  refine g_iload_n (pc := 5) dX1_addCopy_5 rfl ?_
  refine g_iaload (pc := 6) (k := 11) (i := u) (n := mg_cap u) (show u < 2 by omega) rfl (by omega) (by omega) dX1_addCopy_6 ?_
  refine g_aload_n (pc := 7) dX1_addCopy_7 rfl ?_
  refine fg_X1_addCopy_15 (pc := 8) (by omega) dX1_addCopy_8 ?_
  refine g_iload_n (pc := 11) dX1_addCopy_11 rfl ?_
  refine g_iaload (pc := 12) (k := 12) (i := u) (n := mg_cap u) (show u < 2 by omega) rfl (by omega) (by omega) dX1_addCopy_12 ?_
  refine g_aload_n (pc := 13) dX1_addCopy_13 rfl ?_
  refine fg_X1_addCopy_18 (pc := 14) (by omega) dX1_addCopy_14 ?_
  refine g_iload_n (pc := 17) dX1_addCopy_17 rfl ?_
  refine g_iaload (pc := 18) (k := 13) (i := u) (n := mg_cap u) (show u < 2 by omega) rfl (by omega) (by omega) dX1_addCopy_18 ?_
  refine g_aload_n (pc := 19) dX1_addCopy_19 rfl ?_
  refine fg_X1_addCopy_21 (pc := 20) (by omega) dX1_addCopy_20 ?_
  refine g_iload_n (pc := 23) dX1_addCopy_23 rfl ?_
  refine g_iaload (pc := 24) (k := 14) (i := u) (n := mg_cap u) (show u < 2 by omega) rfl (by omega) (by omega) dX1_addCopy_24 ?_
  refine g_aload_n (pc := 25) dX1_addCopy_25 rfl ?_
  refine fg_X1_addCopy_24 (pc := 26) (by omega) dX1_addCopy_26 ?_
  refine g_iload_n (pc := 29) dX1_addCopy_29 rfl ?_
  refine g_iaload (pc := 30) (k := 15) (i := u) (n := mg_cap u) (show u < 2 by omega) rfl (by omega) (by omega) dX1_addCopy_30 ?_
  refine g_callVv (pc := 31) (Y' := mX1_add) (As := [iv (g 11 u i), iv (g 12 u i), iv (g 13 u i), iv (g 14 u i), iv (g 15 u i)]) (st := []) (k := 1) (i := t) (c_tadd K.2.1 (g := g) (t := t) (by omega) (by omega) (by omega)) gX1_addCopy_X1_add rfl (show t < 2 by omega) rfl rfl (na := 5) rfl (by decide +kernel) (by decide) (by decide) (Nat.le_of_ble_eq_true rfl) dX1_addCopy_31 (fun g2 p3 => ?_)
  rcases p3 with ⟨hfull, -, hg⟩ | ⟨hroom, -, hg⟩
  · have hg := hg.symm
    subst hg
    exact g_ret (pc := 34) dX1_addCopy_34 trivial (by first | exact Or.inl ⟨by omega, rfl, rfl⟩ | exact Or.inr ⟨by omega, rfl, rfl⟩)
  · have hg := hg.symm
    subst hg
    exact g_ret (pc := 34) dX1_addCopy_34 trivial (by first | exact Or.inl ⟨by omega, rfl, rfl⟩ | exact Or.inr ⟨by omega, rfl, rfl⟩)
def mg_trm (g : mg_F) (t a : Nat) : mg_F := mg_up (mg_upr (mg_upr (mg_upr (mg_upr (mg_upr g 11 t (mg_cpy (g 11 t) (a + 1) a (g 1 t 5 - a - 1))) 12 t (mg_cpy (g 12 t) (a + 1) a (g 1 t 5 - a - 1))) 13 t (mg_cpy (g 13 t) (a + 1) a (g 1 t 5 - a - 1))) 14 t (mg_cpy (g 14 t) (a + 1) a (g 1 t 5 - a - 1))) 15 t (mg_cpy (g 15 t) (a + 1) a (g 1 t 5 - a - 1))) 1 t 5 ((g 1 t 5) - 1)
/-- X1_remove -/
theorem c_tremove (l : Launch) {t a : Nat} (ht : t < 2) (hl : g 1 t 5 ≤ mg_cap t) (hc : mg_cap t < 2147483648) (ha : a < g 1 t 5) : mg_C l Z mX1_remove [rv Z 1 t, iv a] g (fun v g' => v = none ∧ g' = mg_trm g t a) := by
  refine mg_C.of (by decide) rfl (Nat.le_of_ble_eq_true rfl) (List.forall_mem_cons.mpr ⟨rfl, (List.forall_mem_cons.mpr ⟨rfl, (fun _ h => nomatch h)⟩)⟩) (fun K => ?_)
  refine g_aload_n (pc := 0) dX1_remove_0 rfl ?_
  refine fg_X1_remove_9 (pc := 1) (by omega) dX1_remove_1 ?_
  refine g_iload_n (pc := 4) dX1_remove_4 rfl ?_
  refine g_aload_n (pc := 5) dX1_remove_5 rfl ?_
  refine fg_X1_remove_27 (pc := 6) (by omega) dX1_remove_6 ?_
  refine g_callNv (pc := 9) (Y' := mX4_closeGap) (As := [rv Z 11 t, iv a, iv (g 1 t 5)]) (st := []) (c_closeGap K.2.1 (g := g) (k := 11) (i := t) (L := mg_cap t) (a := a) (n := g 1 t 5) (show t < 2 by omega) (fun _ => rfl) (by omega) (by omega) (by omega)) gX1_remove_X4_closeGap_n35 rfl (fun _ h => h.2.2.2.2) (by decide +kernel) (by decide +kernel) (na := 3) rfl (by decide +kernel) (by decide) (by decide) (Nat.le_of_ble_eq_true rfl) dX1_remove_9 (fun g2 p3 => ?_)
  obtain ⟨-, hg⟩ := p3
  have hg := hg.symm
  subst hg
  refine g_aload_n (pc := 12) dX1_remove_12 rfl ?_
  refine fg_X1_remove_15 (pc := 13) (by omega) dX1_remove_13 ?_
  refine g_iload_n (pc := 16) dX1_remove_16 rfl ?_
  refine g_aload_n (pc := 17) dX1_remove_17 rfl ?_
  refine fg_X1_remove_27 (pc := 18) (by omega) dX1_remove_18 ?_
  refine g_top (b := g 1 t 5) (by simp [mg_up, mg_upr, mg_us]) ?_
  refine g_callNv (pc := 21) (Y' := mX4_closeGap) (As := [rv Z 12 t, iv a, iv (g 1 t 5)]) (st := []) (c_closeGap K.2.1 (g := (mg_upr g 11 t (mg_cpy (g 11 t) (a + 1) a (g 1 t 5 - a - 1)))) (k := 12) (i := t) (L := mg_cap t) (a := a) (n := g 1 t 5) (show t < 2 by omega) (fun _ => rfl) (by omega) (by omega) (by omega)) gX1_remove_X4_closeGap_n35 rfl (fun _ h => h.2.2.2.2) (by decide +kernel) (by decide +kernel) (na := 3) rfl (by decide +kernel) (by decide) (by decide) (Nat.le_of_ble_eq_true rfl) dX1_remove_21 (fun g5 p6 => ?_)
  obtain ⟨-, hg⟩ := p6
  have hg := hg.symm
  subst hg
  refine g_aload_n (pc := 24) dX1_remove_24 rfl ?_
  refine fg_X1_remove_18 (pc := 25) (by omega) dX1_remove_25 ?_
  refine g_iload_n (pc := 28) dX1_remove_28 rfl ?_
  refine g_aload_n (pc := 29) dX1_remove_29 rfl ?_
  refine fg_X1_remove_27 (pc := 30) (by omega) dX1_remove_30 ?_
  refine g_top (b := g 1 t 5) (by simp [mg_up, mg_upr, mg_us]) ?_
  refine g_callNv (pc := 33) (Y' := mX4_closeGap) (As := [rv Z 13 t, iv a, iv (g 1 t 5)]) (st := []) (c_closeGap K.2.1 (g := (mg_upr (mg_upr g 11 t (mg_cpy (g 11 t) (a + 1) a (g 1 t 5 - a - 1))) 12 t (mg_cpy (g 12 t) (a + 1) a (g 1 t 5 - a - 1)))) (k := 13) (i := t) (L := mg_cap t) (a := a) (n := g 1 t 5) (show t < 2 by omega) (fun _ => rfl) (by omega) (by omega) (by omega)) gX1_remove_X4_closeGap_n35 rfl (fun _ h => h.2.2.2.2) (by decide +kernel) (by decide +kernel) (na := 3) rfl (by decide +kernel) (by decide) (by decide) (Nat.le_of_ble_eq_true rfl) dX1_remove_33 (fun g8 p9 => ?_)
  obtain ⟨-, hg⟩ := p9
  have hg := hg.symm
  subst hg
  refine g_aload_n (pc := 36) dX1_remove_36 rfl ?_
  refine fg_X1_remove_21 (pc := 37) (by omega) dX1_remove_37 ?_
  refine g_iload_n (pc := 40) dX1_remove_40 rfl ?_
  refine g_aload_n (pc := 41) dX1_remove_41 rfl ?_
  refine fg_X1_remove_27 (pc := 42) (by omega) dX1_remove_42 ?_
  refine g_top (b := g 1 t 5) (by simp [mg_up, mg_upr, mg_us]) ?_
  refine g_callNv (pc := 45) (Y' := mX4_closeGap) (As := [rv Z 14 t, iv a, iv (g 1 t 5)]) (st := []) (c_closeGap K.2.1 (g := (mg_upr (mg_upr (mg_upr g 11 t (mg_cpy (g 11 t) (a + 1) a (g 1 t 5 - a - 1))) 12 t (mg_cpy (g 12 t) (a + 1) a (g 1 t 5 - a - 1))) 13 t (mg_cpy (g 13 t) (a + 1) a (g 1 t 5 - a - 1)))) (k := 14) (i := t) (L := mg_cap t) (a := a) (n := g 1 t 5) (show t < 2 by omega) (fun _ => rfl) (by omega) (by omega) (by omega)) gX1_remove_X4_closeGap_n35 rfl (fun _ h => h.2.2.2.2) (by decide +kernel) (by decide +kernel) (na := 3) rfl (by decide +kernel) (by decide) (by decide) (Nat.le_of_ble_eq_true rfl) dX1_remove_45 (fun g11 p12 => ?_)
  obtain ⟨-, hg⟩ := p12
  have hg := hg.symm
  subst hg
  refine g_aload_n (pc := 48) dX1_remove_48 rfl ?_
  refine fg_X1_remove_24 (pc := 49) (by omega) dX1_remove_49 ?_
  refine g_iload_n (pc := 52) dX1_remove_52 rfl ?_
  refine g_aload_n (pc := 53) dX1_remove_53 rfl ?_
  refine fg_X1_remove_27 (pc := 54) (by omega) dX1_remove_54 ?_
  refine g_top (b := g 1 t 5) (by simp [mg_up, mg_upr, mg_us]) ?_
  refine g_callNv (pc := 57) (Y' := mX4_closeGap) (As := [rv Z 15 t, iv a, iv (g 1 t 5)]) (st := []) (c_closeGap K.2.1 (g := (mg_upr (mg_upr (mg_upr (mg_upr g 11 t (mg_cpy (g 11 t) (a + 1) a (g 1 t 5 - a - 1))) 12 t (mg_cpy (g 12 t) (a + 1) a (g 1 t 5 - a - 1))) 13 t (mg_cpy (g 13 t) (a + 1) a (g 1 t 5 - a - 1))) 14 t (mg_cpy (g 14 t) (a + 1) a (g 1 t 5 - a - 1)))) (k := 15) (i := t) (L := mg_cap t) (a := a) (n := g 1 t 5) (show t < 2 by omega) (fun _ => rfl) (by omega) (by omega) (by omega)) gX1_remove_X4_closeGap_n35 rfl (fun _ h => h.2.2.2.2) (by decide +kernel) (by decide +kernel) (na := 3) rfl (by decide +kernel) (by decide) (by decide) (Nat.le_of_ble_eq_true rfl) dX1_remove_57 (fun g14 p15 => ?_)
  obtain ⟨-, hg⟩ := p15
  have hg := hg.symm
  subst hg
  refine g_aload_n (pc := 60) dX1_remove_60 rfl ?_
  refine g_dup (pc := 61) dX1_remove_61 rfl ?_
  refine fg_X1_remove_27 (pc := 62) (by omega) dX1_remove_62 ?_
  refine g_top (b := g 1 t 5) (by simp [mg_up, mg_upr, mg_us]) ?_
  refine g_iconst (pc := 65) (v := 1) dX1_remove_65 (by decide +kernel) ?_
  refine g_isub (pc := 66) (by omega) dX1_remove_66 ?_
  refine fp_X1_remove_27 (pc := 67) (by omega) dX1_remove_67 ?_
  exact g_ret (pc := 70) dX1_remove_70 trivial ⟨rfl, rfl⟩
/-- X3_wants -/
theorem c_wants (l : Launch) {s : Nat} (hs : s < 24) (hl : g 2 s 2 ≤ 24) (hw : ∀ i, i < 24 → g 16 s i < 4294967296) : mg_C l Z mX3_wants [rv Z 3 s] g (fun v g' => ((∃ i, i < g 2 s 2 ∧ g 16 s i = s) ∧ v = some 1 ∧ g' = g) ∨ ((∀ i, i < g 2 s 2 → g 16 s i ≠ s) ∧ v = some 0 ∧ g' = g)) := by
  refine mg_C.of (by decide) rfl (Nat.le_of_ble_eq_true rfl) (List.forall_mem_cons.mpr ⟨rfl, (fun _ h => nomatch h)⟩) (fun K => ?_)
  refine g_aload_n (pc := 0) dX3_wants_0 rfl ?_
  refine fg_X3_wants_12 (pc := 1) (by omega) dX3_wants_1 ?_
  refine g_aload_n (pc := 4) dX3_wants_4 rfl ?_
  refine fg_X3_wants_18 (pc := 5) (by omega) dX3_wants_5 ?_
  refine g_callVi (pc := 8) (Y' := mX2_placeOf) (As := [iv s]) (st := []) (k := 2) (i := s) (c_placeOf K.2.1 (g := g) (s := s) (x := s) (by omega) (by omega) hw (by omega)) gX3_wants_X2_placeOf rfl (show s < 24 by omega) rfl rfl (na := 1) rfl (by decide +kernel) (by decide) (by decide) (Nat.le_of_ble_eq_true rfl) dX3_wants_8 (fun r1 g2 p3 => ?_)
  rcases p3 with ⟨pl, ⟨hpl, hwho, hbef⟩, hv, hg⟩ | ⟨hnone, hv, hg⟩
  · have hg := hg.symm
    subst hg
    have hv := (Option.some.inj hv).symm
    subst hv
    refine g_bipush (pc := 11) (v := 4294967294) dX3_wants_11 (by decide +kernel) ?_
    refine g_icmp_eq (pc := 13) 20 dX3_wants_13 (by decide) (by omega) (by omega) (fun h4 => ?_) (fun h4 => ?_)
    · refine g_iconst (pc := 20) (v := 0) dX3_wants_20 (by decide +kernel) ?_
      exact g_iret (pc := 21) dX3_wants_21 ⟨mg_narZ (by decide), Or.inr rfl⟩ (by first | exact Or.inr ⟨hnone, rfl, rfl⟩ | omega)
    · refine g_iconst (pc := 16) (v := 1) dX3_wants_16 (by decide +kernel) ?_
      refine g_goto (pc := 17) 21 dX3_wants_17 (by decide) ?_
      exact g_iret (pc := 21) dX3_wants_21 ⟨mg_narZ (by decide), Or.inr rfl⟩ (Or.inl ⟨⟨pl, hpl, hwho⟩, rfl, rfl⟩)
  · have hg := hg.symm
    subst hg
    have hv := (Option.some.inj hv).symm
    subst hv
    refine g_bipush (pc := 11) (v := 4294967294) dX3_wants_11 (by decide +kernel) ?_
    refine g_icmp_eq (pc := 13) 20 dX3_wants_13 (by decide) (by decide) (by decide) (fun _ => ?_) (fun h => absurd (by decide) h)
    refine g_iconst (pc := 20) (v := 0) dX3_wants_20 (by decide +kernel) ?_
    exact g_iret (pc := 21) dX3_wants_21 ⟨mg_narZ (by decide), Or.inr rfl⟩ (by first | exact Or.inr ⟨hnone, rfl, rfl⟩ | omega)
end MORE
