/-! ===== the programs of the methods, 0 ===== -/
/-- X0_clear -/
def P_X0_clear (a : Nat) (g : mg_F) : mo := bd (P_fill 10 0 24 0 g) fun _ g2 => wr (mg_up g2 0 0 1 a) fun g3 => wr (mg_up g3 0 0 2 0) fun g4 => some (0, g4)
theorem p_X0_clear {l : Launch} {Z : mg_Zt} {a : Nat} {g : mg_F} : ∀ (r : Nat) (g' : mg_F), P_X0_clear a g = some (r, g') → mg_C l Z mX0_clear [rv Z 0 0, iv a] g (mp mX0_clear r g') := by
  refine mC_of (by decide) rfl (Nat.le_of_ble_eq_true rfl) (List.forall_mem_cons.mpr ⟨rfl, (List.forall_mem_cons.mpr ⟨rfl, (fun _ h => nomatch h)⟩)⟩) (fun K => ?_)
  unfold P_X0_clear
  refine j_lift (fun _ k => g_aload_n (pc := 0) dX0_clear_0 rfl k) ?_
  refine j_lift (fun _ k => fg_X0_clear_9 (pc := 1) dX0_clear_1 k) ?_
  refine j_lift (fun _ k => g_iconst (pc := 4) (v := 0) dX0_clear_4 (by decide +kernel) k) ?_
  refine j_callSv (pc := 5) (Y' := mJ7_fill_53178) (As := [rv Z 10 0, iv 0]) (st := []) (p_fill (show 0 < 1 by omega) (fun _ => rfl) (by decide)) gX0_clear_J7_fill_53178 rfl (na := 2) rfl (by decide +kernel) (by decide) (by decide) (Nat.le_of_ble_eq_true rfl) dX0_clear_5 (fun _ g2 => ?_)
  refine j_lift (fun _ k => g_aload_n (pc := 8) dX0_clear_8 rfl k) ?_
  refine j_lift (fun _ k => g_iload_n (pc := 9) dX0_clear_9 rfl k) ?_
  refine j_w (fun _ k => fp_X0_clear_21 (pc := 10) dX0_clear_10 k) (fun g3 => ?_)
  refine j_lift (fun _ k => g_aload_n (pc := 13) dX0_clear_13 rfl k) ?_
  refine j_lift (fun _ k => g_iconst (pc := 14) (v := 0) dX0_clear_14 (by decide +kernel) k) ?_
  refine j_w (fun _ k => fp_X0_clear_25 (pc := 15) dX0_clear_15 k) (fun g4 => ?_)
  exact j_ret (pc := 18) dX0_clear_18 trivial rfl

/-- X0_has -/
def P_X0_has (a : Nat) (g : mg_F) : mo := if sv a < 0 then (some (0, g)) else (if sv a < sv (g 0 0 1) then (some (1, g)) else (some (0, g)))
theorem p_X0_has {l : Launch} {Z : mg_Zt} {a : Nat} {g : mg_F} : ∀ (r : Nat) (g' : mg_F), P_X0_has a g = some (r, g') → mg_C l Z mX0_has [rv Z 0 0, iv a] g (mp mX0_has r g') := by
  refine mC_of (by decide) rfl (Nat.le_of_ble_eq_true rfl) (List.forall_mem_cons.mpr ⟨rfl, (List.forall_mem_cons.mpr ⟨rfl, (fun _ h => nomatch h)⟩)⟩) (fun K => ?_)
  unfold P_X0_has
  refine j_lift (fun _ k => g_iload_n (pc := 0) dX0_has_0 rfl k) ?_
  refine j_if_lt (pc := 1) 16 dX0_has_1 (by decide) (fun h1 => ?_) (fun h1 => ?_)
  · refine j_lift (fun _ k => g_iconst (pc := 16) (v := 0) dX0_has_16 (by decide +kernel) k) ?_
    exact j_iret (pc := 17) dX0_has_17 ⟨mg_narZ (by decide), Or.inr rfl⟩ rfl
  · refine j_lift (fun _ k => g_iload_n (pc := 4) dX0_has_4 rfl k) ?_
    refine j_lift (fun _ k => g_aload_n (pc := 5) dX0_has_5 rfl k) ?_
    refine j_lift (fun _ k => fg_X0_has_21 (pc := 6) dX0_has_6 k) ?_
    refine j_icmp_ge (pc := 9) 16 dX0_has_9 (by decide) (fun h2 => ?_) (fun h2 => ?_)
    · refine j_lift (fun _ k => g_iconst (pc := 16) (v := 0) dX0_has_16 (by decide +kernel) k) ?_
      exact j_iret (pc := 17) dX0_has_17 ⟨mg_narZ (by decide), Or.inr rfl⟩ rfl
    · refine j_lift (fun _ k => g_iconst (pc := 12) (v := 1) dX0_has_12 (by decide +kernel) k) ?_
      refine j_lift (fun _ k => g_goto (pc := 13) 17 dX0_has_13 (by decide) k) ?_
      exact j_iret (pc := 17) dX0_has_17 ⟨mg_narZ (by decide), Or.inr rfl⟩ rfl

/-- X4_contains -/
def P_X4_contains (a b : Nat) (g : mg_F) : mo := ck (b < 32) <| if sv (a &&& (2 ^ b)) = 0 then (some (0, g)) else (some (1, g))
theorem p_X4_contains {l : Launch} {Z : mg_Zt} {a b : Nat} {g : mg_F} : ∀ (r : Nat) (g' : mg_F), P_X4_contains a b g = some (r, g') → mg_C l Z mX4_contains [iv a, iv b] g (mp mX4_contains r g') := by
  refine mC_of (by decide) rfl (Nat.le_of_ble_eq_true rfl) (List.forall_mem_cons.mpr ⟨rfl, (List.forall_mem_cons.mpr ⟨rfl, (fun _ h => nomatch h)⟩)⟩) (fun K => ?_)
  unfold P_X4_contains
  refine j_lift (fun _ k => g_iload_n (pc := 0) dX4_contains_0 rfl k) ?_
  refine j_lift (fun _ k => g_iconst (pc := 1) (v := 1) dX4_contains_1 (by decide +kernel) k) ?_
  refine j_lift (fun _ k => g_iload_n (pc := 2) dX4_contains_2 rfl k) ?_
  refine j_ck (fun c1 => ?_)
  refine j_lift (fun _ k => g_ishl (pc := 3) c1 dX4_contains_3 k) ?_
  refine j_lift (fun _ k => g_iand (pc := 4) (a := a) (b := 2 ^ b) dX4_contains_4 k) ?_
  refine j_if_eq (pc := 5) 12 dX4_contains_5 (by decide) (fun h2 => ?_) (fun h2 => ?_)
  · refine j_lift (fun _ k => g_iconst (pc := 12) (v := 0) dX4_contains_12 (by decide +kernel) k) ?_
    exact j_iret (pc := 13) dX4_contains_13 ⟨mg_narZ (by decide), Or.inr rfl⟩ rfl
  · refine j_lift (fun _ k => g_iconst (pc := 8) (v := 1) dX4_contains_8 (by decide +kernel) k) ?_
    refine j_lift (fun _ k => g_goto (pc := 9) 13 dX4_contains_9 (by decide) k) ?_
    exact j_iret (pc := 13) dX4_contains_13 ⟨mg_narZ (by decide), Or.inr rfl⟩ rfl

/-- X0_linked -/
def P_X0_linked (a b : Nat) (g : mg_F) : mo := ck (a < 24) <| bd (P_X4_contains (g 10 0 a) b g) fun r2 g3 => ck (r2 < 2) <| some (r2, g3)
theorem p_X0_linked {l : Launch} {Z : mg_Zt} {a b : Nat} {g : mg_F} : ∀ (r : Nat) (g' : mg_F), P_X0_linked a b g = some (r, g') → mg_C l Z mX0_linked [rv Z 0 0, iv a, iv b] g (mp mX0_linked r g') := by
  refine mC_of (by decide) rfl (Nat.le_of_ble_eq_true rfl) (List.forall_mem_cons.mpr ⟨rfl, (List.forall_mem_cons.mpr ⟨rfl, (List.forall_mem_cons.mpr ⟨rfl, (fun _ h => nomatch h)⟩)⟩)⟩) (fun K => ?_)
  unfold P_X0_linked
  refine j_lift (fun _ k => g_aload_n (pc := 0) dX0_linked_0 rfl k) ?_
  refine j_lift (fun _ k => fg_X0_linked_9 (pc := 1) dX0_linked_1 k) ?_
  refine j_lift (fun _ k => g_iload_n (pc := 4) dX0_linked_4 rfl k) ?_
  refine j_ck (fun c1 => ?_)
  refine j_lift (fun _ k => g_iaload (pc := 5) (k := 10) (i := 0) (n := 24) (show 0 < 1 by omega) rfl (by decide) c1 dX0_linked_5 k) ?_
  refine j_lift (fun _ k => g_iload_n (pc := 6) dX0_linked_6 rfl k) ?_
  refine j_callNi (pc := 7) (Y' := mX4_contains) (As := [iv (g 10 0 a), iv b]) (st := []) (p_X4_contains) gX0_linked_X4_contains_n28 rfl (fun _ h => h.2.2.1) (by decide +kernel) (by decide +kernel) (na := 2) rfl (by decide +kernel) (by decide) (by decide) (Nat.le_of_ble_eq_true rfl) dX0_linked_7 (fun r2 g3 => ?_)
  refine j_ck (fun c4 => ?_)
  exact j_iret (pc := 10) dX0_linked_10 ⟨mg_narZ c4, Or.inr rfl⟩ rfl

/-- J6_bitCount_0f7a4 -/
def P_J6_bitCount_0f7a4 (a : Nat) (g : mg_F) : mo := some ((((((((sb a ((ush a 1) &&& 1431655765)) &&& 858993459) + ((ush (sb a ((ush a 1) &&& 1431655765)) 2) &&& 858993459)) + (ush (((sb a ((ush a 1) &&& 1431655765)) &&& 858993459) + ((ush (sb a ((ush a 1) &&& 1431655765)) 2) &&& 858993459)) 4)) &&& 252645135) + (ush (((((sb a ((ush a 1) &&& 1431655765)) &&& 858993459) + ((ush (sb a ((ush a 1) &&& 1431655765)) 2) &&& 858993459)) + (ush (((sb a ((ush a 1) &&& 1431655765)) &&& 858993459) + ((ush (sb a ((ush a 1) &&& 1431655765)) 2) &&& 858993459)) 4)) &&& 252645135) 8)) + (ush ((((((sb a ((ush a 1) &&& 1431655765)) &&& 858993459) + ((ush (sb a ((ush a 1) &&& 1431655765)) 2) &&& 858993459)) + (ush (((sb a ((ush a 1) &&& 1431655765)) &&& 858993459) + ((ush (sb a ((ush a 1) &&& 1431655765)) 2) &&& 858993459)) 4)) &&& 252645135) + (ush (((((sb a ((ush a 1) &&& 1431655765)) &&& 858993459) + ((ush (sb a ((ush a 1) &&& 1431655765)) 2) &&& 858993459)) + (ush (((sb a ((ush a 1) &&& 1431655765)) &&& 858993459) + ((ush (sb a ((ush a 1) &&& 1431655765)) 2) &&& 858993459)) 4)) &&& 252645135) 8)) 16)) &&& 63, g)
theorem p_J6_bitCount_0f7a4 {l : Launch} {Z : mg_Zt} {a : Nat} {g : mg_F} : ∀ (r : Nat) (g' : mg_F), P_J6_bitCount_0f7a4 a g = some (r, g') → mg_C l Z mJ6_bitCount_0f7a4 [iv a] g (mp mJ6_bitCount_0f7a4 r g') := by
  refine mC_of (by decide) rfl (Nat.le_of_ble_eq_true rfl) (List.forall_mem_cons.mpr ⟨rfl, (fun _ h => nomatch h)⟩) (fun K => ?_)
  unfold P_J6_bitCount_0f7a4
  refine j_lift (fun _ k => g_iload_n (pc := 0) dJ6_bitCount_0f7a4_0 rfl k) ?_
  refine j_lift (fun _ k => g_iload_n (pc := 1) dJ6_bitCount_0f7a4_1 rfl k) ?_
  refine j_lift (fun _ k => g_iconst (pc := 2) (v := 1) dJ6_bitCount_0f7a4_2 (by decide +kernel) k) ?_
  refine j_lift (fun _ k => g_iushr (pc := 3) (nI_ush a 1) dJ6_bitCount_0f7a4_3 k) ?_
  refine j_lift (fun _ k => g_ldcw (pc := 4) (v := 1431655765) (by decide +kernel) dJ6_bitCount_0f7a4_4 k) ?_
  refine j_lift (fun _ k => g_iand (pc := 7) (a := ush a 1) (b := 1431655765) dJ6_bitCount_0f7a4_7 k) ?_
  refine j_lift (fun _ k => g_sb (pc := 8) (a := a) (b := (ush a 1) &&& 1431655765) dJ6_bitCount_0f7a4_8 k) ?_
  refine j_lift (fun _ k => g_istore_n (pc := 9) (ls' := [iv (sb a ((ush a 1) &&& 1431655765))]) dJ6_bitCount_0f7a4_9 (Nat.le_of_ble_eq_true rfl) (Nat.le_of_ble_eq_true rfl) rfl k) ?_
  refine j_lift (fun _ k => g_iload_n (pc := 10) dJ6_bitCount_0f7a4_10 rfl k) ?_
  refine j_lift (fun _ k => g_ldcw (pc := 11) (v := 858993459) (by decide +kernel) dJ6_bitCount_0f7a4_11 k) ?_
  refine j_lift (fun _ k => g_iand (pc := 14) (a := sb a ((ush a 1) &&& 1431655765)) (b := 858993459) dJ6_bitCount_0f7a4_14 k) ?_
  refine j_lift (fun _ k => g_iload_n (pc := 15) dJ6_bitCount_0f7a4_15 rfl k) ?_
  refine j_lift (fun _ k => g_iconst (pc := 16) (v := 2) dJ6_bitCount_0f7a4_16 (by decide +kernel) k) ?_
  refine j_lift (fun _ k => g_iushr (pc := 17) (nI_ush (sb a ((ush a 1) &&& 1431655765)) 2) dJ6_bitCount_0f7a4_17 k) ?_
  refine j_lift (fun _ k => g_ldcw (pc := 18) (v := 858993459) (by decide +kernel) dJ6_bitCount_0f7a4_18 k) ?_
  refine j_lift (fun _ k => g_iand (pc := 21) (a := ush (sb a ((ush a 1) &&& 1431655765)) 2) (b := 858993459) dJ6_bitCount_0f7a4_21 k) ?_
  refine j_lift (fun _ k => g_iadd (pc := 22) (a := (sb a ((ush a 1) &&& 1431655765)) &&& 858993459) (b := (ush (sb a ((ush a 1) &&& 1431655765)) 2) &&& 858993459) dJ6_bitCount_0f7a4_22 k) ?_
  refine j_lift (fun _ k => g_istore_n (pc := 23) (ls' := [iv (((sb a ((ush a 1) &&& 1431655765)) &&& 858993459) + ((ush (sb a ((ush a 1) &&& 1431655765)) 2) &&& 858993459))]) dJ6_bitCount_0f7a4_23 (Nat.le_of_ble_eq_true rfl) (Nat.le_of_ble_eq_true rfl) rfl k) ?_
  refine j_lift (fun _ k => g_iload_n (pc := 24) dJ6_bitCount_0f7a4_24 rfl k) ?_
  refine j_lift (fun _ k => g_iload_n (pc := 25) dJ6_bitCount_0f7a4_25 rfl k) ?_
  refine j_lift (fun _ k => g_iconst (pc := 26) (v := 4) dJ6_bitCount_0f7a4_26 (by decide +kernel) k) ?_
  refine j_lift (fun _ k => g_iushr (pc := 27) (nI_ush (((sb a ((ush a 1) &&& 1431655765)) &&& 858993459) + ((ush (sb a ((ush a 1) &&& 1431655765)) 2) &&& 858993459)) 4) dJ6_bitCount_0f7a4_27 k) ?_
  refine j_lift (fun _ k => g_iadd (pc := 28) (a := ((sb a ((ush a 1) &&& 1431655765)) &&& 858993459) + ((ush (sb a ((ush a 1) &&& 1431655765)) 2) &&& 858993459)) (b := ush (((sb a ((ush a 1) &&& 1431655765)) &&& 858993459) + ((ush (sb a ((ush a 1) &&& 1431655765)) 2) &&& 858993459)) 4) dJ6_bitCount_0f7a4_28 k) ?_
  refine j_lift (fun _ k => g_ldcw (pc := 29) (v := 252645135) (by decide +kernel) dJ6_bitCount_0f7a4_29 k) ?_
  refine j_lift (fun _ k => g_iand (pc := 32) (a := (((sb a ((ush a 1) &&& 1431655765)) &&& 858993459) + ((ush (sb a ((ush a 1) &&& 1431655765)) 2) &&& 858993459)) + (ush (((sb a ((ush a 1) &&& 1431655765)) &&& 858993459) + ((ush (sb a ((ush a 1) &&& 1431655765)) 2) &&& 858993459)) 4)) (b := 252645135) dJ6_bitCount_0f7a4_32 k) ?_
  refine j_lift (fun _ k => g_istore_n (pc := 33) (ls' := [iv (((((sb a ((ush a 1) &&& 1431655765)) &&& 858993459) + ((ush (sb a ((ush a 1) &&& 1431655765)) 2) &&& 858993459)) + (ush (((sb a ((ush a 1) &&& 1431655765)) &&& 858993459) + ((ush (sb a ((ush a 1) &&& 1431655765)) 2) &&& 858993459)) 4)) &&& 252645135)]) dJ6_bitCount_0f7a4_33 (Nat.le_of_ble_eq_true rfl) (Nat.le_of_ble_eq_true rfl) rfl k) ?_
  refine j_lift (fun _ k => g_iload_n (pc := 34) dJ6_bitCount_0f7a4_34 rfl k) ?_
  refine j_lift (fun _ k => g_iload_n (pc := 35) dJ6_bitCount_0f7a4_35 rfl k) ?_
  refine j_lift (fun _ k => g_bipush (pc := 36) (v := 8) dJ6_bitCount_0f7a4_36 (by decide +kernel) k) ?_
  refine j_lift (fun _ k => g_iushr (pc := 38) (nI_ush (((((sb a ((ush a 1) &&& 1431655765)) &&& 858993459) + ((ush (sb a ((ush a 1) &&& 1431655765)) 2) &&& 858993459)) + (ush (((sb a ((ush a 1) &&& 1431655765)) &&& 858993459) + ((ush (sb a ((ush a 1) &&& 1431655765)) 2) &&& 858993459)) 4)) &&& 252645135) 8) dJ6_bitCount_0f7a4_38 k) ?_
  refine j_lift (fun _ k => g_iadd (pc := 39) (a := ((((sb a ((ush a 1) &&& 1431655765)) &&& 858993459) + ((ush (sb a ((ush a 1) &&& 1431655765)) 2) &&& 858993459)) + (ush (((sb a ((ush a 1) &&& 1431655765)) &&& 858993459) + ((ush (sb a ((ush a 1) &&& 1431655765)) 2) &&& 858993459)) 4)) &&& 252645135) (b := ush (((((sb a ((ush a 1) &&& 1431655765)) &&& 858993459) + ((ush (sb a ((ush a 1) &&& 1431655765)) 2) &&& 858993459)) + (ush (((sb a ((ush a 1) &&& 1431655765)) &&& 858993459) + ((ush (sb a ((ush a 1) &&& 1431655765)) 2) &&& 858993459)) 4)) &&& 252645135) 8) dJ6_bitCount_0f7a4_39 k) ?_
  refine j_lift (fun _ k => g_istore_n (pc := 40) (ls' := [iv ((((((sb a ((ush a 1) &&& 1431655765)) &&& 858993459) + ((ush (sb a ((ush a 1) &&& 1431655765)) 2) &&& 858993459)) + (ush (((sb a ((ush a 1) &&& 1431655765)) &&& 858993459) + ((ush (sb a ((ush a 1) &&& 1431655765)) 2) &&& 858993459)) 4)) &&& 252645135) + (ush (((((sb a ((ush a 1) &&& 1431655765)) &&& 858993459) + ((ush (sb a ((ush a 1) &&& 1431655765)) 2) &&& 858993459)) + (ush (((sb a ((ush a 1) &&& 1431655765)) &&& 858993459) + ((ush (sb a ((ush a 1) &&& 1431655765)) 2) &&& 858993459)) 4)) &&& 252645135) 8))]) dJ6_bitCount_0f7a4_40 (Nat.le_of_ble_eq_true rfl) (Nat.le_of_ble_eq_true rfl) rfl k) ?_
  refine j_lift (fun _ k => g_iload_n (pc := 41) dJ6_bitCount_0f7a4_41 rfl k) ?_
  refine j_lift (fun _ k => g_iload_n (pc := 42) dJ6_bitCount_0f7a4_42 rfl k) ?_
  refine j_lift (fun _ k => g_bipush (pc := 43) (v := 16) dJ6_bitCount_0f7a4_43 (by decide +kernel) k) ?_
  refine j_lift (fun _ k => g_iushr (pc := 45) (nI_ush ((((((sb a ((ush a 1) &&& 1431655765)) &&& 858993459) + ((ush (sb a ((ush a 1) &&& 1431655765)) 2) &&& 858993459)) + (ush (((sb a ((ush a 1) &&& 1431655765)) &&& 858993459) + ((ush (sb a ((ush a 1) &&& 1431655765)) 2) &&& 858993459)) 4)) &&& 252645135) + (ush (((((sb a ((ush a 1) &&& 1431655765)) &&& 858993459) + ((ush (sb a ((ush a 1) &&& 1431655765)) 2) &&& 858993459)) + (ush (((sb a ((ush a 1) &&& 1431655765)) &&& 858993459) + ((ush (sb a ((ush a 1) &&& 1431655765)) 2) &&& 858993459)) 4)) &&& 252645135) 8)) 16) dJ6_bitCount_0f7a4_45 k) ?_
  refine j_lift (fun _ k => g_iadd (pc := 46) (a := (((((sb a ((ush a 1) &&& 1431655765)) &&& 858993459) + ((ush (sb a ((ush a 1) &&& 1431655765)) 2) &&& 858993459)) + (ush (((sb a ((ush a 1) &&& 1431655765)) &&& 858993459) + ((ush (sb a ((ush a 1) &&& 1431655765)) 2) &&& 858993459)) 4)) &&& 252645135) + (ush (((((sb a ((ush a 1) &&& 1431655765)) &&& 858993459) + ((ush (sb a ((ush a 1) &&& 1431655765)) 2) &&& 858993459)) + (ush (((sb a ((ush a 1) &&& 1431655765)) &&& 858993459) + ((ush (sb a ((ush a 1) &&& 1431655765)) 2) &&& 858993459)) 4)) &&& 252645135) 8)) (b := ush ((((((sb a ((ush a 1) &&& 1431655765)) &&& 858993459) + ((ush (sb a ((ush a 1) &&& 1431655765)) 2) &&& 858993459)) + (ush (((sb a ((ush a 1) &&& 1431655765)) &&& 858993459) + ((ush (sb a ((ush a 1) &&& 1431655765)) 2) &&& 858993459)) 4)) &&& 252645135) + (ush (((((sb a ((ush a 1) &&& 1431655765)) &&& 858993459) + ((ush (sb a ((ush a 1) &&& 1431655765)) 2) &&& 858993459)) + (ush (((sb a ((ush a 1) &&& 1431655765)) &&& 858993459) + ((ush (sb a ((ush a 1) &&& 1431655765)) 2) &&& 858993459)) 4)) &&& 252645135) 8)) 16) dJ6_bitCount_0f7a4_46 k) ?_
  refine j_lift (fun _ k => g_istore_n (pc := 47) (ls' := [iv (((((((sb a ((ush a 1) &&& 1431655765)) &&& 858993459) + ((ush (sb a ((ush a 1) &&& 1431655765)) 2) &&& 858993459)) + (ush (((sb a ((ush a 1) &&& 1431655765)) &&& 858993459) + ((ush (sb a ((ush a 1) &&& 1431655765)) 2) &&& 858993459)) 4)) &&& 252645135) + (ush (((((sb a ((ush a 1) &&& 1431655765)) &&& 858993459) + ((ush (sb a ((ush a 1) &&& 1431655765)) 2) &&& 858993459)) + (ush (((sb a ((ush a 1) &&& 1431655765)) &&& 858993459) + ((ush (sb a ((ush a 1) &&& 1431655765)) 2) &&& 858993459)) 4)) &&& 252645135) 8)) + (ush ((((((sb a ((ush a 1) &&& 1431655765)) &&& 858993459) + ((ush (sb a ((ush a 1) &&& 1431655765)) 2) &&& 858993459)) + (ush (((sb a ((ush a 1) &&& 1431655765)) &&& 858993459) + ((ush (sb a ((ush a 1) &&& 1431655765)) 2) &&& 858993459)) 4)) &&& 252645135) + (ush (((((sb a ((ush a 1) &&& 1431655765)) &&& 858993459) + ((ush (sb a ((ush a 1) &&& 1431655765)) 2) &&& 858993459)) + (ush (((sb a ((ush a 1) &&& 1431655765)) &&& 858993459) + ((ush (sb a ((ush a 1) &&& 1431655765)) 2) &&& 858993459)) 4)) &&& 252645135) 8)) 16))]) dJ6_bitCount_0f7a4_47 (Nat.le_of_ble_eq_true rfl) (Nat.le_of_ble_eq_true rfl) rfl k) ?_
  refine j_lift (fun _ k => g_iload_n (pc := 48) dJ6_bitCount_0f7a4_48 rfl k) ?_
  refine j_lift (fun _ k => g_bipush (pc := 49) (v := 63) dJ6_bitCount_0f7a4_49 (by decide +kernel) k) ?_
  refine j_lift (fun _ k => g_iand (pc := 51) (a := ((((((sb a ((ush a 1) &&& 1431655765)) &&& 858993459) + ((ush (sb a ((ush a 1) &&& 1431655765)) 2) &&& 858993459)) + (ush (((sb a ((ush a 1) &&& 1431655765)) &&& 858993459) + ((ush (sb a ((ush a 1) &&& 1431655765)) 2) &&& 858993459)) 4)) &&& 252645135) + (ush (((((sb a ((ush a 1) &&& 1431655765)) &&& 858993459) + ((ush (sb a ((ush a 1) &&& 1431655765)) 2) &&& 858993459)) + (ush (((sb a ((ush a 1) &&& 1431655765)) &&& 858993459) + ((ush (sb a ((ush a 1) &&& 1431655765)) 2) &&& 858993459)) 4)) &&& 252645135) 8)) + (ush ((((((sb a ((ush a 1) &&& 1431655765)) &&& 858993459) + ((ush (sb a ((ush a 1) &&& 1431655765)) 2) &&& 858993459)) + (ush (((sb a ((ush a 1) &&& 1431655765)) &&& 858993459) + ((ush (sb a ((ush a 1) &&& 1431655765)) 2) &&& 858993459)) 4)) &&& 252645135) + (ush (((((sb a ((ush a 1) &&& 1431655765)) &&& 858993459) + ((ush (sb a ((ush a 1) &&& 1431655765)) 2) &&& 858993459)) + (ush (((sb a ((ush a 1) &&& 1431655765)) &&& 858993459) + ((ush (sb a ((ush a 1) &&& 1431655765)) 2) &&& 858993459)) 4)) &&& 252645135) 8)) 16)) (b := 63) dJ6_bitCount_0f7a4_51 k) ?_
  exact j_iret (pc := 52) dJ6_bitCount_0f7a4_52 ⟨mg_narI _, Or.inl rfl⟩ rfl

/-- X0_neighboursOf -/
def P_X0_neighboursOf (a : Nat) (g : mg_F) : mo := ck (a < 24) <| bd (P_J6_bitCount_0f7a4 (g 10 0 a) g) fun r2 g3 => some (r2, g3)
theorem p_X0_neighboursOf {l : Launch} {Z : mg_Zt} {a : Nat} {g : mg_F} : ∀ (r : Nat) (g' : mg_F), P_X0_neighboursOf a g = some (r, g') → mg_C l Z mX0_neighboursOf [rv Z 0 0, iv a] g (mp mX0_neighboursOf r g') := by
  refine mC_of (by decide) rfl (Nat.le_of_ble_eq_true rfl) (List.forall_mem_cons.mpr ⟨rfl, (List.forall_mem_cons.mpr ⟨rfl, (fun _ h => nomatch h)⟩)⟩) (fun K => ?_)
  unfold P_X0_neighboursOf
  refine j_lift (fun _ k => g_aload_n (pc := 0) dX0_neighboursOf_0 rfl k) ?_
  refine j_lift (fun _ k => fg_X0_neighboursOf_9 (pc := 1) dX0_neighboursOf_1 k) ?_
  refine j_lift (fun _ k => g_iload_n (pc := 4) dX0_neighboursOf_4 rfl k) ?_
  refine j_ck (fun c1 => ?_)
  refine j_lift (fun _ k => g_iaload (pc := 5) (k := 10) (i := 0) (n := 24) (show 0 < 1 by omega) rfl (by decide) c1 dX0_neighboursOf_5 k) ?_
  refine j_callSi (pc := 6) (Y' := mJ6_bitCount_0f7a4) (As := [iv (g 10 0 a)]) (st := []) (p_J6_bitCount_0f7a4) gX0_neighboursOf_J6_bitCount_0f7a4 rfl (na := 1) rfl (by decide +kernel) (by decide) (by decide) (Nat.le_of_ble_eq_true rfl) dX0_neighboursOf_6 (fun r2 g3 => ?_)
  exact j_iret (pc := 9) dX0_neighboursOf_9 ⟨mg_narI _, Or.inl rfl⟩ rfl

/-- X0_tie -/
def P_X0_tie (a b : Nat) (g : mg_F) : mo := ck (a < 24) <| ck (b < 32) <| wr (mg_up g 10 0 a ((g 10 0 a) ||| (2 ^ b))) fun g3 => ck (b < 24) <| wr (mg_up g3 10 0 b ((g3 10 0 b) ||| (2 ^ a))) fun g5 => wr (mg_up g5 0 0 2 ((g5 0 0 2) + 1)) fun g6 => some (0, g6)
theorem p_X0_tie {l : Launch} {Z : mg_Zt} {a b : Nat} {g : mg_F} : ∀ (r : Nat) (g' : mg_F), P_X0_tie a b g = some (r, g') → mg_C l Z mX0_tie [rv Z 0 0, iv a, iv b] g (mp mX0_tie r g') := by
  refine mC_of (by decide) rfl (Nat.le_of_ble_eq_true rfl) (List.forall_mem_cons.mpr ⟨rfl, (List.forall_mem_cons.mpr ⟨rfl, (List.forall_mem_cons.mpr ⟨rfl, (fun _ h => nomatch h)⟩)⟩)⟩) (fun K => ?_)
  unfold P_X0_tie
  refine j_lift (fun _ k => g_aload_n (pc := 0) dX0_tie_0 rfl k) ?_
  refine j_lift (fun _ k => fg_X0_tie_9 (pc := 1) dX0_tie_1 k) ?_
  refine j_lift (fun _ k => g_iload_n (pc := 4) dX0_tie_4 rfl k) ?_
  refine j_lift (fun _ k => g_dup2 (pc := 5) dX0_tie_5 rfl rfl k) ?_
  refine j_ck (fun c1 => ?_)
  refine j_lift (fun _ k => g_iaload (pc := 6) (k := 10) (i := 0) (n := 24) (show 0 < 1 by omega) rfl (by decide) c1 dX0_tie_6 k) ?_
  refine j_lift (fun _ k => g_iconst (pc := 7) (v := 1) dX0_tie_7 (by decide +kernel) k) ?_
  refine j_lift (fun _ k => g_iload_n (pc := 8) dX0_tie_8 rfl k) ?_
  refine j_ck (fun c2 => ?_)
  refine j_lift (fun _ k => g_ishl (pc := 9) c2 dX0_tie_9 k) ?_
  refine j_lift (fun _ k => g_ior (pc := 10) (a := g 10 0 a) (b := 2 ^ b) dX0_tie_10 k) ?_
  refine j_w (fun _ k => g_iastore (pc := 11) (k := 10) (i := 0) (n := 24) (show 0 < 1 by omega) (fun _ => rfl) (by decide) c1 dX0_tie_11 k) (fun g3 => ?_)
  refine j_lift (fun _ k => g_aload_n (pc := 12) dX0_tie_12 rfl k) ?_
  refine j_lift (fun _ k => fg_X0_tie_9 (pc := 13) dX0_tie_13 k) ?_
  refine j_lift (fun _ k => g_iload_n (pc := 16) dX0_tie_16 rfl k) ?_
  refine j_lift (fun _ k => g_dup2 (pc := 17) dX0_tie_17 rfl rfl k) ?_
  refine j_ck (fun c4 => ?_)
  refine j_lift (fun _ k => g_iaload (pc := 18) (k := 10) (i := 0) (n := 24) (show 0 < 1 by omega) rfl (by decide) c4 dX0_tie_18 k) ?_
  refine j_lift (fun _ k => g_iconst (pc := 19) (v := 1) dX0_tie_19 (by decide +kernel) k) ?_
  refine j_lift (fun _ k => g_iload_n (pc := 20) dX0_tie_20 rfl k) ?_
  refine j_lift (fun _ k => g_ishl (pc := 21) (Nat.lt_trans c1 (by decide)) dX0_tie_21 k) ?_
  refine j_lift (fun _ k => g_ior (pc := 22) (a := g3 10 0 b) (b := 2 ^ a) dX0_tie_22 k) ?_
  refine j_w (fun _ k => g_iastore (pc := 23) (k := 10) (i := 0) (n := 24) (show 0 < 1 by omega) (fun _ => rfl) (by decide) c4 dX0_tie_23 k) (fun g5 => ?_)
  refine j_lift (fun _ k => g_aload_n (pc := 24) dX0_tie_24 rfl k) ?_
  refine j_lift (fun _ k => g_dup (pc := 25) dX0_tie_25 rfl k) ?_
  refine j_lift (fun _ k => fg_X0_tie_25 (pc := 26) dX0_tie_26 k) ?_
  refine j_lift (fun _ k => g_iconst (pc := 29) (v := 1) dX0_tie_29 (by decide +kernel) k) ?_
  refine j_lift (fun _ k => g_iadd (pc := 30) (a := g5 0 0 2) (b := 1) dX0_tie_30 k) ?_
  refine j_w (fun _ k => fp_X0_tie_25 (pc := 31) dX0_tie_31 k) (fun g6 => ?_)
  exact j_ret (pc := 34) dX0_tie_34 trivial rfl

/-- X0_untie -/
def P_X0_untie (a b : Nat) (g : mg_F) : mo := ck (a < 24) <| ck (b < 32) <| wr (mg_up g 10 0 a ((g 10 0 a) &&& ((2 ^ b) ^^^ 4294967295))) fun g3 => ck (b < 24) <| wr (mg_up g3 10 0 b ((g3 10 0 b) &&& ((2 ^ a) ^^^ 4294967295))) fun g5 => wr (mg_up g5 0 0 2 (sb (g5 0 0 2) 1)) fun g6 => some (0, g6)
theorem p_X0_untie {l : Launch} {Z : mg_Zt} {a b : Nat} {g : mg_F} : ∀ (r : Nat) (g' : mg_F), P_X0_untie a b g = some (r, g') → mg_C l Z mX0_untie [rv Z 0 0, iv a, iv b] g (mp mX0_untie r g') := by
  refine mC_of (by decide) rfl (Nat.le_of_ble_eq_true rfl) (List.forall_mem_cons.mpr ⟨rfl, (List.forall_mem_cons.mpr ⟨rfl, (List.forall_mem_cons.mpr ⟨rfl, (fun _ h => nomatch h)⟩)⟩)⟩) (fun K => ?_)
  unfold P_X0_untie
  refine j_lift (fun _ k => g_aload_n (pc := 0) dX0_untie_0 rfl k) ?_
  refine j_lift (fun _ k => fg_X0_untie_9 (pc := 1) dX0_untie_1 k) ?_
  refine j_lift (fun _ k => g_iload_n (pc := 4) dX0_untie_4 rfl k) ?_
  refine j_lift (fun _ k => g_dup2 (pc := 5) dX0_untie_5 rfl rfl k) ?_
  refine j_ck (fun c1 => ?_)
  refine j_lift (fun _ k => g_iaload (pc := 6) (k := 10) (i := 0) (n := 24) (show 0 < 1 by omega) rfl (by decide) c1 dX0_untie_6 k) ?_
  refine j_lift (fun _ k => g_iconst (pc := 7) (v := 1) dX0_untie_7 (by decide +kernel) k) ?_
  refine j_lift (fun _ k => g_iload_n (pc := 8) dX0_untie_8 rfl k) ?_
  refine j_ck (fun c2 => ?_)
  refine j_lift (fun _ k => g_ishl (pc := 9) c2 dX0_untie_9 k) ?_
  refine j_lift (fun _ k => g_iconst (pc := 10) (v := 4294967295) dX0_untie_10 (by decide +kernel) k) ?_
  refine j_lift (fun _ k => g_ixor (pc := 11) (a := 2 ^ b) (b := 4294967295) dX0_untie_11 k) ?_
  refine j_lift (fun _ k => g_iand (pc := 12) (a := g 10 0 a) (b := (2 ^ b) ^^^ 4294967295) dX0_untie_12 k) ?_
  refine j_w (fun _ k => g_iastore (pc := 13) (k := 10) (i := 0) (n := 24) (show 0 < 1 by omega) (fun _ => rfl) (by decide) c1 dX0_untie_13 k) (fun g3 => ?_)
  refine j_lift (fun _ k => g_aload_n (pc := 14) dX0_untie_14 rfl k) ?_
  refine j_lift (fun _ k => fg_X0_untie_9 (pc := 15) dX0_untie_15 k) ?_
  refine j_lift (fun _ k => g_iload_n (pc := 18) dX0_untie_18 rfl k) ?_
  refine j_lift (fun _ k => g_dup2 (pc := 19) dX0_untie_19 rfl rfl k) ?_
  refine j_ck (fun c4 => ?_)
  refine j_lift (fun _ k => g_iaload (pc := 20) (k := 10) (i := 0) (n := 24) (show 0 < 1 by omega) rfl (by decide) c4 dX0_untie_20 k) ?_
  refine j_lift (fun _ k => g_iconst (pc := 21) (v := 1) dX0_untie_21 (by decide +kernel) k) ?_
  refine j_lift (fun _ k => g_iload_n (pc := 22) dX0_untie_22 rfl k) ?_
  refine j_lift (fun _ k => g_ishl (pc := 23) (Nat.lt_trans c1 (by decide)) dX0_untie_23 k) ?_
  refine j_lift (fun _ k => g_iconst (pc := 24) (v := 4294967295) dX0_untie_24 (by decide +kernel) k) ?_
  refine j_lift (fun _ k => g_ixor (pc := 25) (a := 2 ^ a) (b := 4294967295) dX0_untie_25 k) ?_
  refine j_lift (fun _ k => g_iand (pc := 26) (a := g3 10 0 b) (b := (2 ^ a) ^^^ 4294967295) dX0_untie_26 k) ?_
  refine j_w (fun _ k => g_iastore (pc := 27) (k := 10) (i := 0) (n := 24) (show 0 < 1 by omega) (fun _ => rfl) (by decide) c4 dX0_untie_27 k) (fun g5 => ?_)
  refine j_lift (fun _ k => g_aload_n (pc := 28) dX0_untie_28 rfl k) ?_
  refine j_lift (fun _ k => g_dup (pc := 29) dX0_untie_29 rfl k) ?_
  refine j_lift (fun _ k => fg_X0_untie_25 (pc := 30) dX0_untie_30 k) ?_
  refine j_lift (fun _ k => g_iconst (pc := 33) (v := 1) dX0_untie_33 (by decide +kernel) k) ?_
  refine j_lift (fun _ k => g_sb (pc := 34) (a := g5 0 0 2) (b := 1) dX0_untie_34 k) ?_
  refine j_w (fun _ k => fp_X0_untie_25 (pc := 35) dX0_untie_35 k) (fun g6 => ?_)
  exact j_ret (pc := 38) dX0_untie_38 trivial rfl

/-- X0_partOf -/
def L_X0_partOf_17 (a1 a3 : Nat) (k : Nat → Nat → mg_F → mo) : Nat → Nat → Nat → mg_F → mo
  | 0, _, _, _ => none
  | n + 1, v2, v4, g => if sv v4 < sv (g 0 0 1) then (bd (P_X4_contains v2 v4 g) fun r2 g3 => jn (α := Nat) (fun x7 g8 => L_X0_partOf_17 a1 a3 k n x7 (v4 + 1) g8) fun kj5 => if sv r2 = 0 then (kj5 v2 g3) else (ck (v4 < 24) <| kj5 (v2 ||| (g3 10 0 v4)) g3)) else (k v2 v4 g)
theorem l_X0_partOf_17 {K : mg_Kt} {Z : mg_Zt} {a1 a3 : Nat}  {k : Nat → Nat → mg_F → mo} (hk : ∀ (v2 v4 : Nat) (g : mg_F), mj K Z mX0_partOf (k v2 v4 g) 51 [rv Z 0 0, iv a1, iv v2, iv a3, iv v4] [] g) : ∀ (n : Nat) (v2 v4 : Nat) (g : mg_F), mj K Z mX0_partOf (L_X0_partOf_17 a1 a3 k n v2 v4 g) 17 [rv Z 0 0, iv a1, iv v2, iv a3, iv v4] [] g := by
  intro n
  induction n with
  | zero => intro _ _ _; exact j_none
  | succ n ih =>
    intro v2 v4 g
    unfold L_X0_partOf_17
    refine j_lift (fun _ k => g_iload (pc := 17) dX0_partOf_17 rfl k) ?_
    refine j_lift (fun _ k => g_aload_n (pc := 19) dX0_partOf_19 rfl k) ?_
    refine j_lift (fun _ k => fg_X0_partOf_21 (pc := 20) dX0_partOf_20 k) ?_
    refine j_icmp_ge (pc := 23) 51 dX0_partOf_23 (by decide) (fun h1 => ?_) (fun h1 => ?_)
    · exact hk v2 v4 g
    · refine j_lift (fun _ k => g_iload_n (pc := 26) dX0_partOf_26 rfl k) ?_
      refine j_lift (fun _ k => g_iload (pc := 27) dX0_partOf_27 rfl k) ?_
      refine j_callNi (pc := 29) (Y' := mX4_contains) (As := [iv v2, iv v4]) (st := []) (p_X4_contains) gX0_partOf_X4_contains_n28 rfl (fun _ h => h.2.2.1) (by decide +kernel) (by decide +kernel) (na := 2) rfl (by decide +kernel) (by decide) (by decide) (Nat.le_of_ble_eq_true rfl) dX0_partOf_29 (fun r2 g3 => ?_)
      refine j_jn (α := Nat) 45 (fun x7 => [rv Z 0 0, iv a1, iv x7, iv a3, iv v4]) (fun x7 => []) (fun x7 g8 => ?_) (fun kj5 hk6 => ?_)
      · refine j_lift (fun _ k => g_iinc (pc := 45) (v := v4 + 1) (ls' := [rv Z 0 0, iv a1, iv x7, iv a3, iv (v4 + 1)]) dX0_partOf_45 (Nat.le_of_ble_eq_true rfl) rfl (mg_inc _) rfl k) ?_
        refine j_lift (fun _ k => g_goto (pc := 48) 17 dX0_partOf_48 (by decide) k) ?_
        exact ih x7 (v4 + 1) g8
      · refine j_if_eq (pc := 32) 45 dX0_partOf_32 (by decide) (fun h4 => ?_) (fun h4 => ?_)
        · exact hk6 v2 g3
        · refine j_lift (fun _ k => g_iload_n (pc := 35) dX0_partOf_35 rfl k) ?_
          refine j_lift (fun _ k => g_aload_n (pc := 36) dX0_partOf_36 rfl k) ?_
          refine j_lift (fun _ k => fg_X0_partOf_9 (pc := 37) dX0_partOf_37 k) ?_
          refine j_lift (fun _ k => g_iload (pc := 40) dX0_partOf_40 rfl k) ?_
          refine j_ck (fun c9 => ?_)
          refine j_lift (fun _ k => g_iaload (pc := 42) (k := 10) (i := 0) (n := 24) (show 0 < 1 by omega) rfl (by decide) c9 dX0_partOf_42 k) ?_
          refine j_lift (fun _ k => g_ior (pc := 43) (a := v2) (b := g3 10 0 v4) dX0_partOf_43 k) ?_
          refine j_lift (fun _ k => g_istore_n (pc := 44) (ls' := [rv Z 0 0, iv a1, iv (v2 ||| (g3 10 0 v4)), iv a3, iv v4]) dX0_partOf_44 (Nat.le_of_ble_eq_true rfl) (Nat.le_of_ble_eq_true rfl) rfl k) ?_
          exact hk6 (v2 ||| (g3 10 0 v4)) g3
def L_X0_partOf_6 (a1 : Nat) (k : Nat → Nat → mg_F → mo) : Nat → Nat → Nat → mg_F → mo
  | 0, _, _, _ => none
  | n + 1, v2, v3, g => if sv v3 < sv (g 0 0 1) then (L_X0_partOf_17 a1 v3 (fun w10 w11 g12 => L_X0_partOf_6 a1 k n w10 (v3 + 1) g12) 4000 v2 0 g) else (k v2 v3 g)
theorem l_X0_partOf_6 {K : mg_Kt} {Z : mg_Zt} {a1 : Nat}  {k : Nat → Nat → mg_F → mo} (hk : ∀ (v2 v3 : Nat) (g : mg_F), mj K Z mX0_partOf (k v2 v3 g) 57 [rv Z 0 0, iv a1, iv v2, iv v3] [] g) : ∀ (n : Nat) (v2 v3 : Nat) (g : mg_F), mj K Z mX0_partOf (L_X0_partOf_6 a1 k n v2 v3 g) 6 [rv Z 0 0, iv a1, iv v2, iv v3] [] g := by
  intro n
  induction n with
  | zero => intro _ _ _; exact j_none
  | succ n ih =>
    intro v2 v3 g
    unfold L_X0_partOf_6
    refine j_lift (fun _ k => g_iload_n (pc := 6) dX0_partOf_6 rfl k) ?_
    refine j_lift (fun _ k => g_aload_n (pc := 7) dX0_partOf_7 rfl k) ?_
    refine j_lift (fun _ k => fg_X0_partOf_21 (pc := 8) dX0_partOf_8 k) ?_
    refine j_icmp_ge (pc := 11) 57 dX0_partOf_11 (by decide) (fun h1 => ?_) (fun h1 => ?_)
    · exact hk v2 v3 g
    · refine j_lift (fun _ k => g_iconst (pc := 14) (v := 0) dX0_partOf_14 (by decide +kernel) k) ?_
      refine j_lift (fun _ k => g_istore (pc := 15) (ls' := [rv Z 0 0, iv a1, iv v2, iv v3, iv 0]) dX0_partOf_15 (Nat.le_of_ble_eq_true rfl) (Nat.le_of_ble_eq_true rfl) rfl k) ?_
      refine l_X0_partOf_17  (fun w10 w11 g12 => ?_) 4000 v2 0 g
      refine j_lift (fun _ k => g_iinc (pc := 51) (v := v3 + 1) (ls' := [rv Z 0 0, iv a1, iv w10, iv (v3 + 1), iv w11]) dX0_partOf_51 (Nat.le_of_ble_eq_true rfl) rfl (mg_inc _) rfl k) ?_
      refine j_lift (fun _ k => g_goto (pc := 54) 6 dX0_partOf_54 (by decide) k) ?_
      refine j_trunc (ls := [rv Z 0 0, iv a1, iv w10, iv (v3 + 1)]) [iv w11] ?_
      exact ih w10 (v3 + 1) g12
def P_X0_partOf (a : Nat) (g : mg_F) : mo := ck (a < 32) <| L_X0_partOf_6 a (fun w13 w14 g15 => some (w13, g15)) 4000 (2 ^ a) 1 g
theorem p_X0_partOf {l : Launch} {Z : mg_Zt} {a : Nat} {g : mg_F} : ∀ (r : Nat) (g' : mg_F), P_X0_partOf a g = some (r, g') → mg_C l Z mX0_partOf [rv Z 0 0, iv a] g (mp mX0_partOf r g') := by
  refine mC_of (by decide) rfl (Nat.le_of_ble_eq_true rfl) (List.forall_mem_cons.mpr ⟨rfl, (List.forall_mem_cons.mpr ⟨rfl, (fun _ h => nomatch h)⟩)⟩) (fun K => ?_)
  unfold P_X0_partOf
  refine j_lift (fun _ k => g_iconst (pc := 0) (v := 1) dX0_partOf_0 (by decide +kernel) k) ?_
  refine j_lift (fun _ k => g_iload_n (pc := 1) dX0_partOf_1 rfl k) ?_
  refine j_ck (fun c1 => ?_)
  refine j_lift (fun _ k => g_ishl (pc := 2) c1 dX0_partOf_2 k) ?_
  refine j_lift (fun _ k => g_istore_n (pc := 3) (ls' := [rv Z 0 0, iv a, iv (2 ^ a)]) dX0_partOf_3 (Nat.le_of_ble_eq_true rfl) (Nat.le_of_ble_eq_true rfl) rfl k) ?_
  refine j_lift (fun _ k => g_iconst (pc := 4) (v := 1) dX0_partOf_4 (by decide +kernel) k) ?_
  refine j_lift (fun _ k => g_istore_n (pc := 5) (ls' := [rv Z 0 0, iv a, iv (2 ^ a), iv 1]) dX0_partOf_5 (Nat.le_of_ble_eq_true rfl) (Nat.le_of_ble_eq_true rfl) rfl k) ?_
  refine l_X0_partOf_6  (fun w13 w14 g15 => ?_) 4000 (2 ^ a) 1 g
  refine j_lift (fun _ k => g_iload_n (pc := 57) dX0_partOf_57 rfl k) ?_
  exact j_iret (pc := 58) dX0_partOf_58 ⟨mg_narI _, Or.inl rfl⟩ rfl

/-- X0_parts -/
def P_X0_parts (g : mg_F) : mo := some (sb (g 0 0 1) (g 0 0 2), g)
theorem p_X0_parts {l : Launch} {Z : mg_Zt} {g : mg_F} : ∀ (r : Nat) (g' : mg_F), P_X0_parts g = some (r, g') → mg_C l Z mX0_parts [rv Z 0 0] g (mp mX0_parts r g') := by
  refine mC_of (by decide) rfl (Nat.le_of_ble_eq_true rfl) (List.forall_mem_cons.mpr ⟨rfl, (fun _ h => nomatch h)⟩) (fun K => ?_)
  unfold P_X0_parts
  refine j_lift (fun _ k => g_aload_n (pc := 0) dX0_parts_0 rfl k) ?_
  refine j_lift (fun _ k => fg_X0_parts_21 (pc := 1) dX0_parts_1 k) ?_
  refine j_lift (fun _ k => g_aload_n (pc := 4) dX0_parts_4 rfl k) ?_
  refine j_lift (fun _ k => fg_X0_parts_25 (pc := 5) dX0_parts_5 k) ?_
  refine j_lift (fun _ k => g_sb (pc := 8) (a := g 0 0 1) (b := g 0 0 2) dX0_parts_8 k) ?_
  exact j_iret (pc := 9) dX0_parts_9 ⟨mg_narI _, Or.inl rfl⟩ rfl

/-- X1_add -/
def P_X1_add (i a b c d e : Nat) (g : mg_F) : mo := if sv (g 1 i 5) = sv (mg_cap i) then (some (0, g)) else (ck (g 1 i 5 < mg_cap i) <| wr (mg_up g 11 i (g 1 i 5) a) fun g3 => ck (g3 1 i 5 < mg_cap i) <| wr (mg_up g3 12 i (g3 1 i 5) b) fun g5 => ck (g5 1 i 5 < mg_cap i) <| wr (mg_up g5 13 i (g5 1 i 5) c) fun g7 => ck (g7 1 i 5 < mg_cap i) <| wr (mg_up g7 14 i (g7 1 i 5) d) fun g9 => ck (g9 1 i 5 < mg_cap i) <| wr (mg_up g9 15 i (g9 1 i 5) e) fun g11 => wr (mg_up g11 1 i 5 ((g11 1 i 5) + 1)) fun g12 => some (0, g12))
theorem p_X1_add {l : Launch} {Z : mg_Zt} {i a b c d e : Nat} {g : mg_F} (hi : i < 2) : ∀ (r : Nat) (g' : mg_F), P_X1_add i a b c d e g = some (r, g') → mg_C l Z mX1_add [rv Z 1 i, iv a, iv b, iv c, iv d, iv e] g (mp mX1_add r g') := by
  refine mC_of (by decide) rfl (Nat.le_of_ble_eq_true rfl) (List.forall_mem_cons.mpr ⟨rfl, (List.forall_mem_cons.mpr ⟨rfl, (List.forall_mem_cons.mpr ⟨rfl, (List.forall_mem_cons.mpr ⟨rfl, (List.forall_mem_cons.mpr ⟨rfl, (List.forall_mem_cons.mpr ⟨rfl, (fun _ h => nomatch h)⟩)⟩)⟩)⟩)⟩)⟩) (fun K => ?_)
  unfold P_X1_add
  refine j_lift (fun _ k => g_aload_n (pc := 0) dX1_add_0 rfl k) ?_
  refine j_lift (fun _ k => fg_X1_add_27 (pc := 1) hi dX1_add_1 k) ?_
  refine j_lift (fun _ k => g_aload_n (pc := 4) dX1_add_4 rfl k) ?_
  refine j_lift (fun _ k => fg_X1_add_9 (pc := 5) hi dX1_add_5 k) ?_
  refine j_lift (fun _ k => g_alen (pc := 8) (k := 11) (i := i) (n := mg_cap i) hi rfl dX1_add_8 k) ?_
  refine j_icmp_ne (pc := 9) 13 dX1_add_9 (by decide) (fun h1 => ?_) (fun h1 => ?_)
  · refine j_lift (fun _ k => g_aload_n (pc := 13) dX1_add_13 rfl k) ?_
    refine j_lift (fun _ k => fg_X1_add_9 (pc := 14) hi dX1_add_14 k) ?_
    refine j_lift (fun _ k => g_aload_n (pc := 17) dX1_add_17 rfl k) ?_
    refine j_lift (fun _ k => fg_X1_add_27 (pc := 18) hi dX1_add_18 k) ?_
    refine j_lift (fun _ k => g_iload_n (pc := 21) dX1_add_21 rfl k) ?_
    refine j_ck (fun c2 => ?_)
    refine j_w (fun _ k => g_iastore (pc := 22) (k := 11) (i := i) (n := mg_cap i) hi (fun _ => rfl) (mg_cap_lt _) c2 dX1_add_22 k) (fun g3 => ?_)
    refine j_lift (fun _ k => g_aload_n (pc := 23) dX1_add_23 rfl k) ?_
    refine j_lift (fun _ k => fg_X1_add_15 (pc := 24) hi dX1_add_24 k) ?_
    refine j_lift (fun _ k => g_aload_n (pc := 27) dX1_add_27 rfl k) ?_
    refine j_lift (fun _ k => fg_X1_add_27 (pc := 28) hi dX1_add_28 k) ?_
    refine j_lift (fun _ k => g_iload_n (pc := 31) dX1_add_31 rfl k) ?_
    refine j_ck (fun c4 => ?_)
    refine j_w (fun _ k => g_iastore (pc := 32) (k := 12) (i := i) (n := mg_cap i) hi (fun _ => rfl) (mg_cap_lt _) c4 dX1_add_32 k) (fun g5 => ?_)
    refine j_lift (fun _ k => g_aload_n (pc := 33) dX1_add_33 rfl k) ?_
    refine j_lift (fun _ k => fg_X1_add_18 (pc := 34) hi dX1_add_34 k) ?_
    refine j_lift (fun _ k => g_aload_n (pc := 37) dX1_add_37 rfl k) ?_
    refine j_lift (fun _ k => fg_X1_add_27 (pc := 38) hi dX1_add_38 k) ?_
    refine j_lift (fun _ k => g_iload_n (pc := 41) dX1_add_41 rfl k) ?_
    refine j_ck (fun c6 => ?_)
    refine j_w (fun _ k => g_iastore (pc := 42) (k := 13) (i := i) (n := mg_cap i) hi (fun _ => rfl) (mg_cap_lt _) c6 dX1_add_42 k) (fun g7 => ?_)
    refine j_lift (fun _ k => g_aload_n (pc := 43) dX1_add_43 rfl k) ?_
    refine j_lift (fun _ k => fg_X1_add_21 (pc := 44) hi dX1_add_44 k) ?_
    refine j_lift (fun _ k => g_aload_n (pc := 47) dX1_add_47 rfl k) ?_
    refine j_lift (fun _ k => fg_X1_add_27 (pc := 48) hi dX1_add_48 k) ?_
    refine j_lift (fun _ k => g_iload (pc := 51) dX1_add_51 rfl k) ?_
    refine j_ck (fun c8 => ?_)
    refine j_w (fun _ k => g_iastore (pc := 53) (k := 14) (i := i) (n := mg_cap i) hi (fun _ => rfl) (mg_cap_lt _) c8 dX1_add_53 k) (fun g9 => ?_)
    refine j_lift (fun _ k => g_aload_n (pc := 54) dX1_add_54 rfl k) ?_
    refine j_lift (fun _ k => fg_X1_add_24 (pc := 55) hi dX1_add_55 k) ?_
    refine j_lift (fun _ k => g_aload_n (pc := 58) dX1_add_58 rfl k) ?_
    refine j_lift (fun _ k => fg_X1_add_27 (pc := 59) hi dX1_add_59 k) ?_
    refine j_lift (fun _ k => g_iload (pc := 62) dX1_add_62 rfl k) ?_
    refine j_ck (fun c10 => ?_)
    refine j_w (fun _ k => g_iastore (pc := 64) (k := 15) (i := i) (n := mg_cap i) hi (fun _ => rfl) (mg_cap_lt _) c10 dX1_add_64 k) (fun g11 => ?_)
    refine j_lift (fun _ k => g_aload_n (pc := 65) dX1_add_65 rfl k) ?_
    refine j_lift (fun _ k => g_dup (pc := 66) dX1_add_66 rfl k) ?_
    refine j_lift (fun _ k => fg_X1_add_27 (pc := 67) hi dX1_add_67 k) ?_
    refine j_lift (fun _ k => g_iconst (pc := 70) (v := 1) dX1_add_70 (by decide +kernel) k) ?_
    refine j_lift (fun _ k => g_iadd (pc := 71) (a := g11 1 i 5) (b := 1) dX1_add_71 k) ?_
    refine j_w (fun _ k => fp_X1_add_27 (pc := 72) hi dX1_add_72 k) (fun g12 => ?_)
    exact j_ret (pc := 75) dX1_add_75 trivial rfl
  · exact j_ret (pc := 12) dX1_add_12 trivial rfl

/-- X1_addCopy -/
def P_X1_addCopy (i t a : Nat) (g : mg_F) : mo := ck (a < mg_cap t) <| ck (a < mg_cap t) <| ck (a < mg_cap t) <| ck (a < mg_cap t) <| ck (a < mg_cap t) <| bd (P_X1_add i (g 11 t a) (g 12 t a) (g 13 t a) (g 14 t a) (g 15 t a) g) fun _ g7 => some (0, g7)
theorem p_X1_addCopy {l : Launch} {Z : mg_Zt} {i t a : Nat} {g : mg_F} (hi : i < 2) (ht : t < 2) : ∀ (r : Nat) (g' : mg_F), P_X1_addCopy i t a g = some (r, g') → mg_C l Z mX1_addCopy [rv Z 1 i, rv Z 1 t, iv a] g (mp mX1_addCopy r g') := by
  refine mC_of (by decide) rfl (Nat.le_of_ble_eq_true rfl) (List.forall_mem_cons.mpr ⟨rfl, (List.forall_mem_cons.mpr ⟨rfl, (List.forall_mem_cons.mpr ⟨rfl, (fun _ h => nomatch h)⟩)⟩)⟩) (fun K => ?_)
  unfold P_X1_addCopy
  refine j_lift (fun _ k => g_aload_n (pc := 0) dX1_addCopy_0 rfl k) ?_
  refine j_lift (fun _ k => g_aload_n (pc := 1) dX1_addCopy_1 rfl k) ?_
  refine j_lift (fun _ k => fg_X1_addCopy_9 (pc := 2) ht dX1_addCopy_2 k) ?_
  refine j_lift (fun _ k => g_iload_n (pc := 5) dX1_addCopy_5 rfl k) ?_
  refine j_ck (fun c1 => ?_)
  refine j_lift (fun _ k => g_iaload (pc := 6) (k := 11) (i := t) (n := mg_cap t) ht rfl (mg_cap_lt _) c1 dX1_addCopy_6 k) ?_
  refine j_lift (fun _ k => g_aload_n (pc := 7) dX1_addCopy_7 rfl k) ?_
  refine j_lift (fun _ k => fg_X1_addCopy_15 (pc := 8) ht dX1_addCopy_8 k) ?_
  refine j_lift (fun _ k => g_iload_n (pc := 11) dX1_addCopy_11 rfl k) ?_
  refine j_ck (fun c2 => ?_)
  refine j_lift (fun _ k => g_iaload (pc := 12) (k := 12) (i := t) (n := mg_cap t) ht rfl (mg_cap_lt _) c2 dX1_addCopy_12 k) ?_
  refine j_lift (fun _ k => g_aload_n (pc := 13) dX1_addCopy_13 rfl k) ?_
  refine j_lift (fun _ k => fg_X1_addCopy_18 (pc := 14) ht dX1_addCopy_14 k) ?_
  refine j_lift (fun _ k => g_iload_n (pc := 17) dX1_addCopy_17 rfl k) ?_
  refine j_ck (fun c3 => ?_)
  refine j_lift (fun _ k => g_iaload (pc := 18) (k := 13) (i := t) (n := mg_cap t) ht rfl (mg_cap_lt _) c3 dX1_addCopy_18 k) ?_
  refine j_lift (fun _ k => g_aload_n (pc := 19) dX1_addCopy_19 rfl k) ?_
  refine j_lift (fun _ k => fg_X1_addCopy_21 (pc := 20) ht dX1_addCopy_20 k) ?_
  refine j_lift (fun _ k => g_iload_n (pc := 23) dX1_addCopy_23 rfl k) ?_
  refine j_ck (fun c4 => ?_)
  refine j_lift (fun _ k => g_iaload (pc := 24) (k := 14) (i := t) (n := mg_cap t) ht rfl (mg_cap_lt _) c4 dX1_addCopy_24 k) ?_
  refine j_lift (fun _ k => g_aload_n (pc := 25) dX1_addCopy_25 rfl k) ?_
  refine j_lift (fun _ k => fg_X1_addCopy_24 (pc := 26) ht dX1_addCopy_26 k) ?_
  refine j_lift (fun _ k => g_iload_n (pc := 29) dX1_addCopy_29 rfl k) ?_
  refine j_ck (fun c5 => ?_)
  refine j_lift (fun _ k => g_iaload (pc := 30) (k := 15) (i := t) (n := mg_cap t) ht rfl (mg_cap_lt _) c5 dX1_addCopy_30 k) ?_
  refine j_callVv (pc := 31) (Y' := mX1_add) (As := [iv (g 11 t a), iv (g 12 t a), iv (g 13 t a), iv (g 14 t a), iv (g 15 t a)]) (st := []) (k := 1) (i := i) (p_X1_add hi) gX1_addCopy_X1_add rfl hi rfl rfl (na := 5) rfl (by decide +kernel) (by decide) (by decide) (Nat.le_of_ble_eq_true rfl) dX1_addCopy_31 (fun _ g7 => ?_)
  exact j_ret (pc := 34) dX1_addCopy_34 trivial rfl

/-- X1_remove -/
def P_X1_remove (i a : Nat) (g : mg_F) : mo := bd (P_closeGap 11 i (mg_cap i) a (g 1 i 5) g) fun _ g2 => bd (P_closeGap 12 i (mg_cap i) a (g2 1 i 5) g2) fun _ g4 => bd (P_closeGap 13 i (mg_cap i) a (g4 1 i 5) g4) fun _ g6 => bd (P_closeGap 14 i (mg_cap i) a (g6 1 i 5) g6) fun _ g8 => bd (P_closeGap 15 i (mg_cap i) a (g8 1 i 5) g8) fun _ g10 => wr (mg_up g10 1 i 5 (sb (g10 1 i 5) 1)) fun g11 => some (0, g11)
theorem p_X1_remove {l : Launch} {Z : mg_Zt} {i a : Nat} {g : mg_F} (hi : i < 2) : ∀ (r : Nat) (g' : mg_F), P_X1_remove i a g = some (r, g') → mg_C l Z mX1_remove [rv Z 1 i, iv a] g (mp mX1_remove r g') := by
  refine mC_of (by decide) rfl (Nat.le_of_ble_eq_true rfl) (List.forall_mem_cons.mpr ⟨rfl, (List.forall_mem_cons.mpr ⟨rfl, (fun _ h => nomatch h)⟩)⟩) (fun K => ?_)
  unfold P_X1_remove
  refine j_lift (fun _ k => g_aload_n (pc := 0) dX1_remove_0 rfl k) ?_
  refine j_lift (fun _ k => fg_X1_remove_9 (pc := 1) hi dX1_remove_1 k) ?_
  refine j_lift (fun _ k => g_iload_n (pc := 4) dX1_remove_4 rfl k) ?_
  refine j_lift (fun _ k => g_aload_n (pc := 5) dX1_remove_5 rfl k) ?_
  refine j_lift (fun _ k => fg_X1_remove_27 (pc := 6) hi dX1_remove_6 k) ?_
  refine j_callNv (pc := 9) (Y' := mX4_closeGap) (As := [rv Z 11 i, iv a, iv (g 1 i 5)]) (st := []) (p_closeGap hi (fun _ => rfl) (mg_cap_lt _)) gX1_remove_X4_closeGap_n35 rfl (fun _ h => h.2.2.2.2) (by decide +kernel) (by decide +kernel) (na := 3) rfl (by decide +kernel) (by decide) (by decide) (Nat.le_of_ble_eq_true rfl) dX1_remove_9 (fun _ g2 => ?_)
  refine j_lift (fun _ k => g_aload_n (pc := 12) dX1_remove_12 rfl k) ?_
  refine j_lift (fun _ k => fg_X1_remove_15 (pc := 13) hi dX1_remove_13 k) ?_
  refine j_lift (fun _ k => g_iload_n (pc := 16) dX1_remove_16 rfl k) ?_
  refine j_lift (fun _ k => g_aload_n (pc := 17) dX1_remove_17 rfl k) ?_
  refine j_lift (fun _ k => fg_X1_remove_27 (pc := 18) hi dX1_remove_18 k) ?_
  refine j_callNv (pc := 21) (Y' := mX4_closeGap) (As := [rv Z 12 i, iv a, iv (g2 1 i 5)]) (st := []) (p_closeGap hi (fun _ => rfl) (mg_cap_lt _)) gX1_remove_X4_closeGap_n35 rfl (fun _ h => h.2.2.2.2) (by decide +kernel) (by decide +kernel) (na := 3) rfl (by decide +kernel) (by decide) (by decide) (Nat.le_of_ble_eq_true rfl) dX1_remove_21 (fun _ g4 => ?_)
  refine j_lift (fun _ k => g_aload_n (pc := 24) dX1_remove_24 rfl k) ?_
  refine j_lift (fun _ k => fg_X1_remove_18 (pc := 25) hi dX1_remove_25 k) ?_
  refine j_lift (fun _ k => g_iload_n (pc := 28) dX1_remove_28 rfl k) ?_
  refine j_lift (fun _ k => g_aload_n (pc := 29) dX1_remove_29 rfl k) ?_
  refine j_lift (fun _ k => fg_X1_remove_27 (pc := 30) hi dX1_remove_30 k) ?_
  refine j_callNv (pc := 33) (Y' := mX4_closeGap) (As := [rv Z 13 i, iv a, iv (g4 1 i 5)]) (st := []) (p_closeGap hi (fun _ => rfl) (mg_cap_lt _)) gX1_remove_X4_closeGap_n35 rfl (fun _ h => h.2.2.2.2) (by decide +kernel) (by decide +kernel) (na := 3) rfl (by decide +kernel) (by decide) (by decide) (Nat.le_of_ble_eq_true rfl) dX1_remove_33 (fun _ g6 => ?_)
  refine j_lift (fun _ k => g_aload_n (pc := 36) dX1_remove_36 rfl k) ?_
  refine j_lift (fun _ k => fg_X1_remove_21 (pc := 37) hi dX1_remove_37 k) ?_
  refine j_lift (fun _ k => g_iload_n (pc := 40) dX1_remove_40 rfl k) ?_
  refine j_lift (fun _ k => g_aload_n (pc := 41) dX1_remove_41 rfl k) ?_
  refine j_lift (fun _ k => fg_X1_remove_27 (pc := 42) hi dX1_remove_42 k) ?_
  refine j_callNv (pc := 45) (Y' := mX4_closeGap) (As := [rv Z 14 i, iv a, iv (g6 1 i 5)]) (st := []) (p_closeGap hi (fun _ => rfl) (mg_cap_lt _)) gX1_remove_X4_closeGap_n35 rfl (fun _ h => h.2.2.2.2) (by decide +kernel) (by decide +kernel) (na := 3) rfl (by decide +kernel) (by decide) (by decide) (Nat.le_of_ble_eq_true rfl) dX1_remove_45 (fun _ g8 => ?_)
  refine j_lift (fun _ k => g_aload_n (pc := 48) dX1_remove_48 rfl k) ?_
  refine j_lift (fun _ k => fg_X1_remove_24 (pc := 49) hi dX1_remove_49 k) ?_
  refine j_lift (fun _ k => g_iload_n (pc := 52) dX1_remove_52 rfl k) ?_
  refine j_lift (fun _ k => g_aload_n (pc := 53) dX1_remove_53 rfl k) ?_
  refine j_lift (fun _ k => fg_X1_remove_27 (pc := 54) hi dX1_remove_54 k) ?_
  refine j_callNv (pc := 57) (Y' := mX4_closeGap) (As := [rv Z 15 i, iv a, iv (g8 1 i 5)]) (st := []) (p_closeGap hi (fun _ => rfl) (mg_cap_lt _)) gX1_remove_X4_closeGap_n35 rfl (fun _ h => h.2.2.2.2) (by decide +kernel) (by decide +kernel) (na := 3) rfl (by decide +kernel) (by decide) (by decide) (Nat.le_of_ble_eq_true rfl) dX1_remove_57 (fun _ g10 => ?_)
  refine j_lift (fun _ k => g_aload_n (pc := 60) dX1_remove_60 rfl k) ?_
  refine j_lift (fun _ k => g_dup (pc := 61) dX1_remove_61 rfl k) ?_
  refine j_lift (fun _ k => fg_X1_remove_27 (pc := 62) hi dX1_remove_62 k) ?_
  refine j_lift (fun _ k => g_iconst (pc := 65) (v := 1) dX1_remove_65 (by decide +kernel) k) ?_
  refine j_lift (fun _ k => g_sb (pc := 66) (a := g10 1 i 5) (b := 1) dX1_remove_66 k) ?_
  refine j_w (fun _ k => fp_X1_remove_27 (pc := 67) hi dX1_remove_67 k) (fun g11 => ?_)
  exact j_ret (pc := 70) dX1_remove_70 trivial rfl

/-- X1_firstBetween -/
def L_X1_firstBetween_2 (q0 a1 a2 : Nat) (k : Nat → mg_F → mo) : Nat → Nat → mg_F → mo
  | 0, _, _ => none
  | n + 1, v3, g => if sv v3 < sv (g 1 q0 5) then (ck (v3 < mg_cap q0) <| if sv (g 12 q0 v3) = sv a1 then (ck (v3 < mg_cap q0) <| if sv (g 13 q0 v3) = sv a2 then (some (v3, g)) else (L_X1_firstBetween_2 q0 a1 a2 k n (v3 + 1) g)) else (L_X1_firstBetween_2 q0 a1 a2 k n (v3 + 1) g)) else (k v3 g)
theorem l_X1_firstBetween_2 {K : mg_Kt} {Z : mg_Zt} {q0 a1 a2 : Nat} (hq0 : q0 < 2) {k : Nat → mg_F → mo} (hk : ∀ (v3 : Nat) (g : mg_F), mj K Z mX1_firstBetween (k v3 g) 38 [rv Z 1 q0, iv a1, iv a2, iv v3] [] g) : ∀ (n : Nat) (v3 : Nat) (g : mg_F), mj K Z mX1_firstBetween (L_X1_firstBetween_2 q0 a1 a2 k n v3 g) 2 [rv Z 1 q0, iv a1, iv a2, iv v3] [] g := by
  intro n
  induction n with
  | zero => intro _ _; exact j_none
  | succ n ih =>
    intro v3 g
    unfold L_X1_firstBetween_2
    refine j_lift (fun _ k => g_iload_n (pc := 2) dX1_firstBetween_2 rfl k) ?_
    refine j_lift (fun _ k => g_aload_n (pc := 3) dX1_firstBetween_3 rfl k) ?_
    refine j_lift (fun _ k => fg_X1_firstBetween_27 (pc := 4) hq0 dX1_firstBetween_4 k) ?_
    refine j_icmp_ge (pc := 7) 38 dX1_firstBetween_7 (by decide) (fun h1 => ?_) (fun h1 => ?_)
    · exact hk v3 g
    · refine j_lift (fun _ k => g_aload_n (pc := 10) dX1_firstBetween_10 rfl k) ?_
      refine j_lift (fun _ k => fg_X1_firstBetween_15 (pc := 11) hq0 dX1_firstBetween_11 k) ?_
      refine j_lift (fun _ k => g_iload_n (pc := 14) dX1_firstBetween_14 rfl k) ?_
      refine j_ck (fun c2 => ?_)
      refine j_lift (fun _ k => g_iaload (pc := 15) (k := 12) (i := q0) (n := mg_cap q0) hq0 rfl (mg_cap_lt _) c2 dX1_firstBetween_15 k) ?_
      refine j_lift (fun _ k => g_iload_n (pc := 16) dX1_firstBetween_16 rfl k) ?_
      refine j_icmp_ne (pc := 17) 32 dX1_firstBetween_17 (by decide) (fun h3 => ?_) (fun h3 => ?_)
      · refine j_lift (fun _ k => g_iinc (pc := 32) (v := v3 + 1) (ls' := [rv Z 1 q0, iv a1, iv a2, iv (v3 + 1)]) dX1_firstBetween_32 (Nat.le_of_ble_eq_true rfl) rfl (mg_inc _) rfl k) ?_
        refine j_lift (fun _ k => g_goto (pc := 35) 2 dX1_firstBetween_35 (by decide) k) ?_
        exact ih (v3 + 1) g
      · refine j_lift (fun _ k => g_aload_n (pc := 20) dX1_firstBetween_20 rfl k) ?_
        refine j_lift (fun _ k => fg_X1_firstBetween_18 (pc := 21) hq0 dX1_firstBetween_21 k) ?_
        refine j_lift (fun _ k => g_iload_n (pc := 24) dX1_firstBetween_24 rfl k) ?_
        refine j_ck (fun c4 => ?_)
        refine j_lift (fun _ k => g_iaload (pc := 25) (k := 13) (i := q0) (n := mg_cap q0) hq0 rfl (mg_cap_lt _) c4 dX1_firstBetween_25 k) ?_
        refine j_lift (fun _ k => g_iload_n (pc := 26) dX1_firstBetween_26 rfl k) ?_
        refine j_icmp_ne (pc := 27) 32 dX1_firstBetween_27 (by decide) (fun h5 => ?_) (fun h5 => ?_)
        · refine j_lift (fun _ k => g_iinc (pc := 32) (v := v3 + 1) (ls' := [rv Z 1 q0, iv a1, iv a2, iv (v3 + 1)]) dX1_firstBetween_32 (Nat.le_of_ble_eq_true rfl) rfl (mg_inc _) rfl k) ?_
          refine j_lift (fun _ k => g_goto (pc := 35) 2 dX1_firstBetween_35 (by decide) k) ?_
          exact ih (v3 + 1) g
        · refine j_lift (fun _ k => g_iload_n (pc := 30) dX1_firstBetween_30 rfl k) ?_
          exact j_iret (pc := 31) dX1_firstBetween_31 ⟨mg_narI _, Or.inl rfl⟩ rfl
def P_X1_firstBetween (i a b : Nat) (g : mg_F) : mo := L_X1_firstBetween_2 i a b (fun w6 g7 => some (4294967294, g7)) 4000 0 g
theorem p_X1_firstBetween {l : Launch} {Z : mg_Zt} {i a b : Nat} {g : mg_F} (hi : i < 2) : ∀ (r : Nat) (g' : mg_F), P_X1_firstBetween i a b g = some (r, g') → mg_C l Z mX1_firstBetween [rv Z 1 i, iv a, iv b] g (mp mX1_firstBetween r g') := by
  refine mC_of (by decide) rfl (Nat.le_of_ble_eq_true rfl) (List.forall_mem_cons.mpr ⟨rfl, (List.forall_mem_cons.mpr ⟨rfl, (List.forall_mem_cons.mpr ⟨rfl, (fun _ h => nomatch h)⟩)⟩)⟩) (fun K => ?_)
  unfold P_X1_firstBetween
  refine j_lift (fun _ k => g_iconst (pc := 0) (v := 0) dX1_firstBetween_0 (by decide +kernel) k) ?_
  refine j_lift (fun _ k => g_istore_n (pc := 1) (ls' := [rv Z 1 i, iv a, iv b, iv 0]) dX1_firstBetween_1 (Nat.le_of_ble_eq_true rfl) (Nat.le_of_ble_eq_true rfl) rfl k) ?_
  refine l_X1_firstBetween_2 hi (fun w6 g7 => ?_) 4000 0 g
  refine j_lift (fun _ k => g_bipush (pc := 38) (v := 4294967294) dX1_firstBetween_38 (by decide +kernel) k) ?_
  exact j_iret (pc := 40) dX1_firstBetween_40 ⟨mg_narI _, Or.inl rfl⟩ rfl

/-- X1_hasBetween -/
def P_X1_hasBetween (i a b : Nat) (g : mg_F) : mo := bd (P_X1_firstBetween i a b g) fun r1 g2 => if sv r1 = sv 4294967294 then (bd (P_X1_firstBetween i b a g2) fun r4 g5 => if sv r4 = sv 4294967294 then (some (0, g5)) else (some (1, g5))) else (some (1, g2))
theorem p_X1_hasBetween {l : Launch} {Z : mg_Zt} {i a b : Nat} {g : mg_F} (hi : i < 2) : ∀ (r : Nat) (g' : mg_F), P_X1_hasBetween i a b g = some (r, g') → mg_C l Z mX1_hasBetween [rv Z 1 i, iv a, iv b] g (mp mX1_hasBetween r g') := by
  refine mC_of (by decide) rfl (Nat.le_of_ble_eq_true rfl) (List.forall_mem_cons.mpr ⟨rfl, (List.forall_mem_cons.mpr ⟨rfl, (List.forall_mem_cons.mpr ⟨rfl, (fun _ h => nomatch h)⟩)⟩)⟩) (fun K => ?_)
  unfold P_X1_hasBetween
  refine j_lift (fun _ k => g_aload_n (pc := 0) dX1_hasBetween_0 rfl k) ?_
  refine j_lift (fun _ k => g_iload_n (pc := 1) dX1_hasBetween_1 rfl k) ?_
  refine j_lift (fun _ k => g_iload_n (pc := 2) dX1_hasBetween_2 rfl k) ?_
  refine j_callVi (pc := 3) (Y' := mX1_firstBetween) (As := [iv a, iv b]) (st := []) (k := 1) (i := i) (p_X1_firstBetween hi) gX1_hasBetween_X1_firstBetween rfl hi rfl rfl (na := 2) rfl (by decide +kernel) (by decide) (by decide) (Nat.le_of_ble_eq_true rfl) dX1_hasBetween_3 (fun r1 g2 => ?_)
  refine j_lift (fun _ k => g_bipush (pc := 6) (v := 4294967294) dX1_hasBetween_6 (by decide +kernel) k) ?_
  refine j_icmp_ne (pc := 8) 22 dX1_hasBetween_8 (by decide) (fun h3 => ?_) (fun h3 => ?_)
  · refine j_lift (fun _ k => g_iconst (pc := 22) (v := 1) dX1_hasBetween_22 (by decide +kernel) k) ?_
    refine j_lift (fun _ k => g_goto (pc := 23) 27 dX1_hasBetween_23 (by decide) k) ?_
    exact j_iret (pc := 27) dX1_hasBetween_27 ⟨mg_narZ (by decide), Or.inr rfl⟩ rfl
  · refine j_lift (fun _ k => g_aload_n (pc := 11) dX1_hasBetween_11 rfl k) ?_
    refine j_lift (fun _ k => g_iload_n (pc := 12) dX1_hasBetween_12 rfl k) ?_
    refine j_lift (fun _ k => g_iload_n (pc := 13) dX1_hasBetween_13 rfl k) ?_
    refine j_callVi (pc := 14) (Y' := mX1_firstBetween) (As := [iv b, iv a]) (st := []) (k := 1) (i := i) (p_X1_firstBetween hi) gX1_hasBetween_X1_firstBetween rfl hi rfl rfl (na := 2) rfl (by decide +kernel) (by decide) (by decide) (Nat.le_of_ble_eq_true rfl) dX1_hasBetween_14 (fun r4 g5 => ?_)
    refine j_lift (fun _ k => g_bipush (pc := 17) (v := 4294967294) dX1_hasBetween_17 (by decide +kernel) k) ?_
    refine j_icmp_eq (pc := 19) 26 dX1_hasBetween_19 (by decide) (fun h6 => ?_) (fun h6 => ?_)
    · refine j_lift (fun _ k => g_iconst (pc := 26) (v := 0) dX1_hasBetween_26 (by decide +kernel) k) ?_
      exact j_iret (pc := 27) dX1_hasBetween_27 ⟨mg_narZ (by decide), Or.inr rfl⟩ rfl
    · refine j_lift (fun _ k => g_iconst (pc := 22) (v := 1) dX1_hasBetween_22 (by decide +kernel) k) ?_
      refine j_lift (fun _ k => g_goto (pc := 23) 27 dX1_hasBetween_23 (by decide) k) ?_
      exact j_iret (pc := 27) dX1_hasBetween_27 ⟨mg_narZ (by decide), Or.inr rfl⟩ rfl

/-- X1_sentBy -/
def L_X1_sentBy_4 (q0 a1 : Nat) (k : Nat → Nat → mg_F → mo) : Nat → Nat → Nat → mg_F → mo
  | 0, _, _, _ => none
  | n + 1, v2, v3, g => if sv v3 < sv (g 1 q0 5) then (ck (v3 < mg_cap q0) <| jn (α := Nat) (fun x6 g7 => L_X1_sentBy_4 q0 a1 k n x6 (v3 + 1) g7) fun kj4 => if sv (g 12 q0 v3) = sv a1 then (kj4 (v2 + 1) g) else (kj4 v2 g)) else (k v2 v3 g)
theorem l_X1_sentBy_4 {K : mg_Kt} {Z : mg_Zt} {q0 a1 : Nat} (hq0 : q0 < 2) {k : Nat → Nat → mg_F → mo} (hk : ∀ (v2 v3 : Nat) (g : mg_F), mj K Z mX1_sentBy (k v2 v3 g) 31 [rv Z 1 q0, iv a1, iv v2, iv v3] [] g) : ∀ (n : Nat) (v2 v3 : Nat) (g : mg_F), mj K Z mX1_sentBy (L_X1_sentBy_4 q0 a1 k n v2 v3 g) 4 [rv Z 1 q0, iv a1, iv v2, iv v3] [] g := by
  intro n
  induction n with
  | zero => intro _ _ _; exact j_none
  | succ n ih =>
    intro v2 v3 g
    unfold L_X1_sentBy_4
    refine j_lift (fun _ k => g_iload_n (pc := 4) dX1_sentBy_4 rfl k) ?_
    refine j_lift (fun _ k => g_aload_n (pc := 5) dX1_sentBy_5 rfl k) ?_
    refine j_lift (fun _ k => fg_X1_sentBy_27 (pc := 6) hq0 dX1_sentBy_6 k) ?_
    refine j_icmp_ge (pc := 9) 31 dX1_sentBy_9 (by decide) (fun h1 => ?_) (fun h1 => ?_)
    · exact hk v2 v3 g
    · refine j_lift (fun _ k => g_aload_n (pc := 12) dX1_sentBy_12 rfl k) ?_
      refine j_lift (fun _ k => fg_X1_sentBy_15 (pc := 13) hq0 dX1_sentBy_13 k) ?_
      refine j_lift (fun _ k => g_iload_n (pc := 16) dX1_sentBy_16 rfl k) ?_
      refine j_ck (fun c2 => ?_)
      refine j_lift (fun _ k => g_iaload (pc := 17) (k := 12) (i := q0) (n := mg_cap q0) hq0 rfl (mg_cap_lt _) c2 dX1_sentBy_17 k) ?_
      refine j_lift (fun _ k => g_iload_n (pc := 18) dX1_sentBy_18 rfl k) ?_
      refine j_jn (α := Nat) 25 (fun x6 => [rv Z 1 q0, iv a1, iv x6, iv v3]) (fun x6 => []) (fun x6 g7 => ?_) (fun kj4 hk5 => ?_)
      · refine j_lift (fun _ k => g_iinc (pc := 25) (v := v3 + 1) (ls' := [rv Z 1 q0, iv a1, iv x6, iv (v3 + 1)]) dX1_sentBy_25 (Nat.le_of_ble_eq_true rfl) rfl (mg_inc _) rfl k) ?_
        refine j_lift (fun _ k => g_goto (pc := 28) 4 dX1_sentBy_28 (by decide) k) ?_
        exact ih x6 (v3 + 1) g7
      · refine j_icmp_ne (pc := 19) 25 dX1_sentBy_19 (by decide) (fun h3 => ?_) (fun h3 => ?_)
        · exact hk5 v2 g
        · refine j_lift (fun _ k => g_iinc (pc := 22) (v := v2 + 1) (ls' := [rv Z 1 q0, iv a1, iv (v2 + 1), iv v3]) dX1_sentBy_22 (Nat.le_of_ble_eq_true rfl) rfl (mg_inc _) rfl k) ?_
          exact hk5 (v2 + 1) g
def P_X1_sentBy (i a : Nat) (g : mg_F) : mo := L_X1_sentBy_4 i a (fun w8 w9 g10 => some (w8, g10)) 4000 0 0 g
theorem p_X1_sentBy {l : Launch} {Z : mg_Zt} {i a : Nat} {g : mg_F} (hi : i < 2) : ∀ (r : Nat) (g' : mg_F), P_X1_sentBy i a g = some (r, g') → mg_C l Z mX1_sentBy [rv Z 1 i, iv a] g (mp mX1_sentBy r g') := by
  refine mC_of (by decide) rfl (Nat.le_of_ble_eq_true rfl) (List.forall_mem_cons.mpr ⟨rfl, (List.forall_mem_cons.mpr ⟨rfl, (fun _ h => nomatch h)⟩)⟩) (fun K => ?_)
  unfold P_X1_sentBy
  refine j_lift (fun _ k => g_iconst (pc := 0) (v := 0) dX1_sentBy_0 (by decide +kernel) k) ?_
  refine j_lift (fun _ k => g_istore_n (pc := 1) (ls' := [rv Z 1 i, iv a, iv 0]) dX1_sentBy_1 (Nat.le_of_ble_eq_true rfl) (Nat.le_of_ble_eq_true rfl) rfl k) ?_
  refine j_lift (fun _ k => g_iconst (pc := 2) (v := 0) dX1_sentBy_2 (by decide +kernel) k) ?_
  refine j_lift (fun _ k => g_istore_n (pc := 3) (ls' := [rv Z 1 i, iv a, iv 0, iv 0]) dX1_sentBy_3 (Nat.le_of_ble_eq_true rfl) (Nat.le_of_ble_eq_true rfl) rfl k) ?_
  refine l_X1_sentBy_4 hi (fun w8 w9 g10 => ?_) 4000 0 0 g
  refine j_lift (fun _ k => g_iload_n (pc := 31) dX1_sentBy_31 rfl k) ?_
  exact j_iret (pc := 32) dX1_sentBy_32 ⟨mg_narI _, Or.inl rfl⟩ rfl

/-- X2_placeOf -/
def L_X2_placeOf_2 (q0 a1 : Nat) (k : Nat → mg_F → mo) : Nat → Nat → mg_F → mo
  | 0, _, _ => none
  | n + 1, v2, g => if sv v2 < sv (g 2 q0 2) then (ck (v2 < 24) <| if sv (g 16 q0 v2) = sv a1 then (some (v2, g)) else (L_X2_placeOf_2 q0 a1 k n (v2 + 1) g)) else (k v2 g)
theorem l_X2_placeOf_2 {K : mg_Kt} {Z : mg_Zt} {q0 a1 : Nat} (hq0 : q0 < 24) {k : Nat → mg_F → mo} (hk : ∀ (v2 : Nat) (g : mg_F), mj K Z mX2_placeOf (k v2 g) 28 [rv Z 2 q0, iv a1, iv v2] [] g) : ∀ (n : Nat) (v2 : Nat) (g : mg_F), mj K Z mX2_placeOf (L_X2_placeOf_2 q0 a1 k n v2 g) 2 [rv Z 2 q0, iv a1, iv v2] [] g := by
  intro n
  induction n with
  | zero => intro _ _; exact j_none
  | succ n ih =>
    intro v2 g
    unfold L_X2_placeOf_2
    refine j_lift (fun _ k => g_iload_n (pc := 2) dX2_placeOf_2 rfl k) ?_
    refine j_lift (fun _ k => g_aload_n (pc := 3) dX2_placeOf_3 rfl k) ?_
    refine j_lift (fun _ k => fg_X2_placeOf_18 (pc := 4) hq0 dX2_placeOf_4 k) ?_
    refine j_icmp_ge (pc := 7) 28 dX2_placeOf_7 (by decide) (fun h1 => ?_) (fun h1 => ?_)
    · exact hk v2 g
    · refine j_lift (fun _ k => g_aload_n (pc := 10) dX2_placeOf_10 rfl k) ?_
      refine j_lift (fun _ k => fg_X2_placeOf_9 (pc := 11) hq0 dX2_placeOf_11 k) ?_
      refine j_lift (fun _ k => g_iload_n (pc := 14) dX2_placeOf_14 rfl k) ?_
      refine j_ck (fun c2 => ?_)
      refine j_lift (fun _ k => g_iaload (pc := 15) (k := 16) (i := q0) (n := 24) hq0 rfl (by decide) c2 dX2_placeOf_15 k) ?_
      refine j_lift (fun _ k => g_iload_n (pc := 16) dX2_placeOf_16 rfl k) ?_
      refine j_icmp_ne (pc := 17) 22 dX2_placeOf_17 (by decide) (fun h3 => ?_) (fun h3 => ?_)
      · refine j_lift (fun _ k => g_iinc (pc := 22) (v := v2 + 1) (ls' := [rv Z 2 q0, iv a1, iv (v2 + 1)]) dX2_placeOf_22 (Nat.le_of_ble_eq_true rfl) rfl (mg_inc _) rfl k) ?_
        refine j_lift (fun _ k => g_goto (pc := 25) 2 dX2_placeOf_25 (by decide) k) ?_
        exact ih (v2 + 1) g
      · refine j_lift (fun _ k => g_iload_n (pc := 20) dX2_placeOf_20 rfl k) ?_
        exact j_iret (pc := 21) dX2_placeOf_21 ⟨mg_narI _, Or.inl rfl⟩ rfl
def P_X2_placeOf (i a : Nat) (g : mg_F) : mo := L_X2_placeOf_2 i a (fun w4 g5 => some (4294967294, g5)) 4000 0 g
theorem p_X2_placeOf {l : Launch} {Z : mg_Zt} {i a : Nat} {g : mg_F} (hi : i < 24) : ∀ (r : Nat) (g' : mg_F), P_X2_placeOf i a g = some (r, g') → mg_C l Z mX2_placeOf [rv Z 2 i, iv a] g (mp mX2_placeOf r g') := by
  refine mC_of (by decide) rfl (Nat.le_of_ble_eq_true rfl) (List.forall_mem_cons.mpr ⟨rfl, (List.forall_mem_cons.mpr ⟨rfl, (fun _ h => nomatch h)⟩)⟩) (fun K => ?_)
  unfold P_X2_placeOf
  refine j_lift (fun _ k => g_iconst (pc := 0) (v := 0) dX2_placeOf_0 (by decide +kernel) k) ?_
  refine j_lift (fun _ k => g_istore_n (pc := 1) (ls' := [rv Z 2 i, iv a, iv 0]) dX2_placeOf_1 (Nat.le_of_ble_eq_true rfl) (Nat.le_of_ble_eq_true rfl) rfl k) ?_
  refine l_X2_placeOf_2 hi (fun w4 g5 => ?_) 4000 0 g
  refine j_lift (fun _ k => g_bipush (pc := 28) (v := 4294967294) dX2_placeOf_28 (by decide +kernel) k) ?_
  exact j_iret (pc := 30) dX2_placeOf_30 ⟨mg_narI _, Or.inl rfl⟩ rfl

/-- X2_add -/
def P_X2_add (i a b : Nat) (g : mg_F) : mo := if sv (g 2 i 2) = sv 24 then (some (0, g)) else (ck (g 2 i 2 < 24) <| wr (mg_up g 16 i (g 2 i 2) a) fun g3 => ck (g3 2 i 2 < 24) <| wr (mg_up g3 17 i (g3 2 i 2) b) fun g5 => wr (mg_up g5 2 i 2 ((g5 2 i 2) + 1)) fun g6 => some (0, g6))
theorem p_X2_add {l : Launch} {Z : mg_Zt} {i a b : Nat} {g : mg_F} (hi : i < 24) : ∀ (r : Nat) (g' : mg_F), P_X2_add i a b g = some (r, g') → mg_C l Z mX2_add [rv Z 2 i, iv a, iv b] g (mp mX2_add r g') := by
  refine mC_of (by decide) rfl (Nat.le_of_ble_eq_true rfl) (List.forall_mem_cons.mpr ⟨rfl, (List.forall_mem_cons.mpr ⟨rfl, (List.forall_mem_cons.mpr ⟨rfl, (fun _ h => nomatch h)⟩)⟩)⟩) (fun K => ?_)
  unfold P_X2_add
  refine j_lift (fun _ k => g_aload_n (pc := 0) dX2_add_0 rfl k) ?_
  refine j_lift (fun _ k => fg_X2_add_18 (pc := 1) hi dX2_add_1 k) ?_
  refine j_lift (fun _ k => g_bipush (pc := 4) (v := 24) dX2_add_4 (by decide +kernel) k) ?_
  refine j_icmp_ne (pc := 6) 10 dX2_add_6 (by decide) (fun h1 => ?_) (fun h1 => ?_)
  · refine j_lift (fun _ k => g_aload_n (pc := 10) dX2_add_10 rfl k) ?_
    refine j_lift (fun _ k => fg_X2_add_9 (pc := 11) hi dX2_add_11 k) ?_
    refine j_lift (fun _ k => g_aload_n (pc := 14) dX2_add_14 rfl k) ?_
    refine j_lift (fun _ k => fg_X2_add_18 (pc := 15) hi dX2_add_15 k) ?_
    refine j_lift (fun _ k => g_iload_n (pc := 18) dX2_add_18 rfl k) ?_
    refine j_ck (fun c2 => ?_)
    refine j_w (fun _ k => g_iastore (pc := 19) (k := 16) (i := i) (n := 24) hi (fun _ => rfl) (by decide) c2 dX2_add_19 k) (fun g3 => ?_)
    refine j_lift (fun _ k => g_aload_n (pc := 20) dX2_add_20 rfl k) ?_
    refine j_lift (fun _ k => fg_X2_add_15 (pc := 21) hi dX2_add_21 k) ?_
    refine j_lift (fun _ k => g_aload_n (pc := 24) dX2_add_24 rfl k) ?_
    refine j_lift (fun _ k => fg_X2_add_18 (pc := 25) hi dX2_add_25 k) ?_
    refine j_lift (fun _ k => g_iload_n (pc := 28) dX2_add_28 rfl k) ?_
    refine j_ck (fun c4 => ?_)
    refine j_w (fun _ k => g_iastore (pc := 29) (k := 17) (i := i) (n := 24) hi (fun _ => rfl) (by decide) c4 dX2_add_29 k) (fun g5 => ?_)
    refine j_lift (fun _ k => g_aload_n (pc := 30) dX2_add_30 rfl k) ?_
    refine j_lift (fun _ k => g_dup (pc := 31) dX2_add_31 rfl k) ?_
    refine j_lift (fun _ k => fg_X2_add_18 (pc := 32) hi dX2_add_32 k) ?_
    refine j_lift (fun _ k => g_iconst (pc := 35) (v := 1) dX2_add_35 (by decide +kernel) k) ?_
    refine j_lift (fun _ k => g_iadd (pc := 36) (a := g5 2 i 2) (b := 1) dX2_add_36 k) ?_
    refine j_w (fun _ k => fp_X2_add_18 (pc := 37) hi dX2_add_37 k) (fun g6 => ?_)
    exact j_ret (pc := 40) dX2_add_40 trivial rfl
  · exact j_ret (pc := 9) dX2_add_9 trivial rfl

/-- the queue lets in -/
def P_X2_admit (i a b : Nat) (g : mg_F) : mo := bd (P_X2_placeOf i a g) fun r1 g2 => if sv r1 = sv 4294967294 then (bd (P_X2_add i a b g2) fun _ g9 => some (0, g9)) else (ck (r1 < 24) <| ck (g2 17 i r1 < 2147483648) <| ck (b < 2147483648) <| wr (mg_up g2 17 i r1 (max (g2 17 i r1) b)) fun g7 => some (0, g7))
theorem p_X2_admit {l : Launch} {Z : mg_Zt} {i a b : Nat} {g : mg_F} (hi : i < 24) : ∀ (r : Nat) (g' : mg_F), P_X2_admit i a b g = some (r, g') → mg_C l Z mX2_admit [rv Z 2 i, iv a, iv b] g (mp mX2_admit r g') := by
  refine mC_of (by decide) rfl (Nat.le_of_ble_eq_true rfl) (List.forall_mem_cons.mpr ⟨rfl, (List.forall_mem_cons.mpr ⟨rfl, (List.forall_mem_cons.mpr ⟨rfl, (fun _ h => nomatch h)⟩)⟩)⟩) (fun K => ?_)
  unfold P_X2_admit
  refine j_lift (fun _ k => g_aload_n (pc := 0) dX2_admit_0 rfl k) ?_
  refine j_lift (fun _ k => g_iload_n (pc := 1) dX2_admit_1 rfl k) ?_
  refine j_callVi (pc := 2) (Y' := mX2_placeOf) (As := [iv a]) (st := []) (k := 2) (i := i) (p_X2_placeOf hi) gX2_admit_X2_placeOf rfl hi rfl rfl (na := 1) rfl (by decide +kernel) (by decide) (by decide) (Nat.le_of_ble_eq_true rfl) dX2_admit_2 (fun r1 g2 => ?_)
  refine j_lift (fun _ k => g_istore_n (pc := 5) (ls' := [rv Z 2 i, iv a, iv b, iv r1]) dX2_admit_5 (Nat.le_of_ble_eq_true rfl) (Nat.le_of_ble_eq_true rfl) rfl k) ?_
  refine j_lift (fun _ k => g_iload_n (pc := 6) dX2_admit_6 rfl k) ?_
  refine j_lift (fun _ k => g_bipush (pc := 7) (v := 4294967294) dX2_admit_7 (by decide +kernel) k) ?_
  refine j_icmp_ne (pc := 9) 21 dX2_admit_9 (by decide) (fun h3 => ?_) (fun h3 => ?_)
  · refine j_lift (fun _ k => g_aload_n (pc := 21) dX2_admit_21 rfl k) ?_
    refine j_lift (fun _ k => fg_X2_admit_15 (pc := 22) hi dX2_admit_22 k) ?_
    refine j_lift (fun _ k => g_iload_n (pc := 25) dX2_admit_25 rfl k) ?_
    refine j_lift (fun _ k => g_aload_n (pc := 26) dX2_admit_26 rfl k) ?_
    refine j_lift (fun _ k => fg_X2_admit_15 (pc := 27) hi dX2_admit_27 k) ?_
    refine j_lift (fun _ k => g_iload_n (pc := 30) dX2_admit_30 rfl k) ?_
    refine j_ck (fun c4 => ?_)
    refine j_lift (fun _ k => g_iaload (pc := 31) (k := 17) (i := i) (n := 24) hi rfl (by decide) c4 dX2_admit_31 k) ?_
    refine j_lift (fun _ k => g_iload_n (pc := 32) dX2_admit_32 rfl k) ?_
    refine j_ck (fun c5 => ?_)
    refine j_ck (fun c6 => ?_)
    refine j_lift (fun _ k => g_max (pc := 33) c5 c6 (by decide +kernel) (by decide +kernel) (by decide +kernel) (by decide +kernel) (by decide) (Nat.le_of_ble_eq_true rfl) dX2_admit_33 k) ?_
    refine j_w (fun _ k => g_iastore (pc := 36) (k := 17) (i := i) (n := 24) hi (fun _ => rfl) (by decide) c4 dX2_admit_36 k) (fun g7 => ?_)
    exact j_ret (pc := 37) dX2_admit_37 trivial rfl
  · refine j_lift (fun _ k => g_aload_n (pc := 12) dX2_admit_12 rfl k) ?_
    refine j_lift (fun _ k => g_iload_n (pc := 13) dX2_admit_13 rfl k) ?_
    refine j_lift (fun _ k => g_iload_n (pc := 14) dX2_admit_14 rfl k) ?_
    refine j_callVv (pc := 15) (Y' := mX2_add) (As := [iv a, iv b]) (st := []) (k := 2) (i := i) (p_X2_add hi) gX2_admit_X2_add rfl hi rfl rfl (na := 2) rfl (by decide +kernel) (by decide) (by decide) (Nat.le_of_ble_eq_true rfl) dX2_admit_15 (fun _ g9 => ?_)
    refine j_lift (fun _ k => g_goto (pc := 18) 37 dX2_admit_18 (by decide) k) ?_
    exact j_ret (pc := 37) dX2_admit_37 trivial rfl

/-- X2_serve -/
def L_X2_serve_36 (q0 a1 : Nat) (k : Nat → mg_F → mo) : Nat → Nat → mg_F → mo
  | 0, _, _ => none
  | n + 1, v2, g => if sv v2 < sv (g 2 q0 2) then (ck (v2 < 24) <| ck ((g 17 q0 v2) + 1 < 2147483648) <| wr (mg_up g 17 q0 v2 (min ((g 17 q0 v2) + 1) 1000)) fun g4 => L_X2_serve_36 q0 a1 k n (v2 + 1) g4) else (k v2 g)
theorem l_X2_serve_36 {K : mg_Kt} {Z : mg_Zt} {q0 a1 : Nat} (hq0 : q0 < 24) {k : Nat → mg_F → mo} (hk : ∀ (v2 : Nat) (g : mg_F), mj K Z mX2_serve (k v2 g) 70 [rv Z 2 q0, iv a1, iv v2] [] g) : ∀ (n : Nat) (v2 : Nat) (g : mg_F), mj K Z mX2_serve (L_X2_serve_36 q0 a1 k n v2 g) 36 [rv Z 2 q0, iv a1, iv v2] [] g := by
  intro n
  induction n with
  | zero => intro _ _; exact j_none
  | succ n ih =>
    intro v2 g
    unfold L_X2_serve_36
    refine j_lift (fun _ k => g_iload_n (pc := 36) dX2_serve_36 rfl k) ?_
    refine j_lift (fun _ k => g_aload_n (pc := 37) dX2_serve_37 rfl k) ?_
    refine j_lift (fun _ k => fg_X2_serve_18 (pc := 38) hq0 dX2_serve_38 k) ?_
    refine j_icmp_ge (pc := 41) 70 dX2_serve_41 (by decide) (fun h1 => ?_) (fun h1 => ?_)
    · exact hk v2 g
    · refine j_lift (fun _ k => g_aload_n (pc := 44) dX2_serve_44 rfl k) ?_
      refine j_lift (fun _ k => fg_X2_serve_15 (pc := 45) hq0 dX2_serve_45 k) ?_
      refine j_lift (fun _ k => g_iload_n (pc := 48) dX2_serve_48 rfl k) ?_
      refine j_lift (fun _ k => g_aload_n (pc := 49) dX2_serve_49 rfl k) ?_
      refine j_lift (fun _ k => fg_X2_serve_15 (pc := 50) hq0 dX2_serve_50 k) ?_
      refine j_lift (fun _ k => g_iload_n (pc := 53) dX2_serve_53 rfl k) ?_
      refine j_ck (fun c2 => ?_)
      refine j_lift (fun _ k => g_iaload (pc := 54) (k := 17) (i := q0) (n := 24) hq0 rfl (by decide) c2 dX2_serve_54 k) ?_
      refine j_lift (fun _ k => g_iconst (pc := 55) (v := 1) dX2_serve_55 (by decide +kernel) k) ?_
      refine j_lift (fun _ k => g_iadd (pc := 56) (a := g 17 q0 v2) (b := 1) dX2_serve_56 k) ?_
      refine j_lift (fun _ k => g_sipush (pc := 57) (v := 1000) dX2_serve_57 (by decide +kernel) k) ?_
      refine j_ck (fun c3 => ?_)
      refine j_lift (fun _ k => g_min (pc := 60) c3 (by decide) (by decide +kernel) (by decide +kernel) (by decide +kernel) (by decide +kernel) (by decide) (Nat.le_of_ble_eq_true rfl) dX2_serve_60 k) ?_
      refine j_w (fun _ k => g_iastore (pc := 63) (k := 17) (i := q0) (n := 24) hq0 (fun _ => rfl) (by decide) c2 dX2_serve_63 k) (fun g4 => ?_)
      refine j_lift (fun _ k => g_iinc (pc := 64) (v := v2 + 1) (ls' := [rv Z 2 q0, iv a1, iv (v2 + 1)]) dX2_serve_64 (Nat.le_of_ble_eq_true rfl) rfl (mg_inc _) rfl k) ?_
      refine j_lift (fun _ k => g_goto (pc := 67) 36 dX2_serve_67 (by decide) k) ?_
      exact ih (v2 + 1) g4
def P_X2_serve (i a : Nat) (g : mg_F) : mo := bd (P_closeGap 16 i 24 a (g 2 i 2) g) fun _ g2 => bd (P_closeGap 17 i 24 a (g2 2 i 2) g2) fun _ g4 => wr (mg_up g4 2 i 2 (sb (g4 2 i 2) 1)) fun g5 => L_X2_serve_36 i a (fun w6 g7 => some (0, g7)) 4000 0 g5
theorem p_X2_serve {l : Launch} {Z : mg_Zt} {i a : Nat} {g : mg_F} (hi : i < 24) : ∀ (r : Nat) (g' : mg_F), P_X2_serve i a g = some (r, g') → mg_C l Z mX2_serve [rv Z 2 i, iv a] g (mp mX2_serve r g') := by
  refine mC_of (by decide) rfl (Nat.le_of_ble_eq_true rfl) (List.forall_mem_cons.mpr ⟨rfl, (List.forall_mem_cons.mpr ⟨rfl, (fun _ h => nomatch h)⟩)⟩) (fun K => ?_)
  unfold P_X2_serve
  refine j_lift (fun _ k => g_aload_n (pc := 0) dX2_serve_0 rfl k) ?_
  refine j_lift (fun _ k => fg_X2_serve_9 (pc := 1) hi dX2_serve_1 k) ?_
  refine j_lift (fun _ k => g_iload_n (pc := 4) dX2_serve_4 rfl k) ?_
  refine j_lift (fun _ k => g_aload_n (pc := 5) dX2_serve_5 rfl k) ?_
  refine j_lift (fun _ k => fg_X2_serve_18 (pc := 6) hi dX2_serve_6 k) ?_
  refine j_callNv (pc := 9) (Y' := mX4_closeGap) (As := [rv Z 16 i, iv a, iv (g 2 i 2)]) (st := []) (p_closeGap hi (fun _ => rfl) (by decide)) gX2_serve_X4_closeGap_n36 rfl (fun _ h => h.2.2.2.1) (by decide +kernel) (by decide +kernel) (na := 3) rfl (by decide +kernel) (by decide) (by decide) (Nat.le_of_ble_eq_true rfl) dX2_serve_9 (fun _ g2 => ?_)
  refine j_lift (fun _ k => g_aload_n (pc := 12) dX2_serve_12 rfl k) ?_
  refine j_lift (fun _ k => fg_X2_serve_15 (pc := 13) hi dX2_serve_13 k) ?_
  refine j_lift (fun _ k => g_iload_n (pc := 16) dX2_serve_16 rfl k) ?_
  refine j_lift (fun _ k => g_aload_n (pc := 17) dX2_serve_17 rfl k) ?_
  refine j_lift (fun _ k => fg_X2_serve_18 (pc := 18) hi dX2_serve_18 k) ?_
  refine j_callNv (pc := 21) (Y' := mX4_closeGap) (As := [rv Z 17 i, iv a, iv (g2 2 i 2)]) (st := []) (p_closeGap hi (fun _ => rfl) (by decide)) gX2_serve_X4_closeGap_n36 rfl (fun _ h => h.2.2.2.1) (by decide +kernel) (by decide +kernel) (na := 3) rfl (by decide +kernel) (by decide) (by decide) (Nat.le_of_ble_eq_true rfl) dX2_serve_21 (fun _ g4 => ?_)
  refine j_lift (fun _ k => g_aload_n (pc := 24) dX2_serve_24 rfl k) ?_
  refine j_lift (fun _ k => g_dup (pc := 25) dX2_serve_25 rfl k) ?_
  refine j_lift (fun _ k => fg_X2_serve_18 (pc := 26) hi dX2_serve_26 k) ?_
  refine j_lift (fun _ k => g_iconst (pc := 29) (v := 1) dX2_serve_29 (by decide +kernel) k) ?_
  refine j_lift (fun _ k => g_sb (pc := 30) (a := g4 2 i 2) (b := 1) dX2_serve_30 k) ?_
  refine j_w (fun _ k => fp_X2_serve_18 (pc := 31) hi dX2_serve_31 k) (fun g5 => ?_)
  refine j_lift (fun _ k => g_iconst (pc := 34) (v := 0) dX2_serve_34 (by decide +kernel) k) ?_
  refine j_lift (fun _ k => g_istore_n (pc := 35) (ls' := [rv Z 2 i, iv a, iv 0]) dX2_serve_35 (Nat.le_of_ble_eq_true rfl) (Nat.le_of_ble_eq_true rfl) rfl k) ?_
  refine l_X2_serve_36 hi (fun w6 g7 => ?_) 4000 0 g5
  exact j_ret (pc := 70) dX2_serve_70 trivial rfl

/-- X2_greatestPlace -/
def L_X2_greatestPlace_4 (q0 : Nat) (k : Nat → Nat → mg_F → mo) : Nat → Nat → Nat → mg_F → mo
  | 0, _, _, _ => none
  | n + 1, v1, v2, g => if sv v2 < sv (g 2 q0 2) then (ck (v2 < 24) <| ck (v1 < 24) <| jn (α := Nat) (fun x7 g8 => L_X2_greatestPlace_4 q0 k n x7 (v2 + 1) g8) fun kj5 => if sv (g 17 q0 v1) < sv (g 17 q0 v2) then (kj5 v2 g) else (kj5 v1 g)) else (k v1 v2 g)
theorem l_X2_greatestPlace_4 {K : mg_Kt} {Z : mg_Zt} {q0 : Nat} (hq0 : q0 < 24) {k : Nat → Nat → mg_F → mo} (hk : ∀ (v1 v2 : Nat) (g : mg_F), mj K Z mX2_greatestPlace (k v1 v2 g) 35 [rv Z 2 q0, iv v1, iv v2] [] g) : ∀ (n : Nat) (v1 v2 : Nat) (g : mg_F), mj K Z mX2_greatestPlace (L_X2_greatestPlace_4 q0 k n v1 v2 g) 4 [rv Z 2 q0, iv v1, iv v2] [] g := by
  intro n
  induction n with
  | zero => intro _ _ _; exact j_none
  | succ n ih =>
    intro v1 v2 g
    unfold L_X2_greatestPlace_4
    refine j_lift (fun _ k => g_iload_n (pc := 4) dX2_greatestPlace_4 rfl k) ?_
    refine j_lift (fun _ k => g_aload_n (pc := 5) dX2_greatestPlace_5 rfl k) ?_
    refine j_lift (fun _ k => fg_X2_greatestPlace_18 (pc := 6) hq0 dX2_greatestPlace_6 k) ?_
    refine j_icmp_ge (pc := 9) 35 dX2_greatestPlace_9 (by decide) (fun h1 => ?_) (fun h1 => ?_)
    · exact hk v1 v2 g
    · refine j_lift (fun _ k => g_aload_n (pc := 12) dX2_greatestPlace_12 rfl k) ?_
      refine j_lift (fun _ k => fg_X2_greatestPlace_15 (pc := 13) hq0 dX2_greatestPlace_13 k) ?_
      refine j_lift (fun _ k => g_iload_n (pc := 16) dX2_greatestPlace_16 rfl k) ?_
      refine j_ck (fun c2 => ?_)
      refine j_lift (fun _ k => g_iaload (pc := 17) (k := 17) (i := q0) (n := 24) hq0 rfl (by decide) c2 dX2_greatestPlace_17 k) ?_
      refine j_lift (fun _ k => g_aload_n (pc := 18) dX2_greatestPlace_18 rfl k) ?_
      refine j_lift (fun _ k => fg_X2_greatestPlace_15 (pc := 19) hq0 dX2_greatestPlace_19 k) ?_
      refine j_lift (fun _ k => g_iload_n (pc := 22) dX2_greatestPlace_22 rfl k) ?_
      refine j_ck (fun c3 => ?_)
      refine j_lift (fun _ k => g_iaload (pc := 23) (k := 17) (i := q0) (n := 24) hq0 rfl (by decide) c3 dX2_greatestPlace_23 k) ?_
      refine j_jn (α := Nat) 29 (fun x7 => [rv Z 2 q0, iv x7, iv v2]) (fun x7 => []) (fun x7 g8 => ?_) (fun kj5 hk6 => ?_)
      · refine j_lift (fun _ k => g_iinc (pc := 29) (v := v2 + 1) (ls' := [rv Z 2 q0, iv x7, iv (v2 + 1)]) dX2_greatestPlace_29 (Nat.le_of_ble_eq_true rfl) rfl (mg_inc _) rfl k) ?_
        refine j_lift (fun _ k => g_goto (pc := 32) 4 dX2_greatestPlace_32 (by decide) k) ?_
        exact ih x7 (v2 + 1) g8
      · refine j_icmp_le (pc := 24) 29 dX2_greatestPlace_24 (by decide) (fun h4 => ?_) (fun h4 => ?_)
        · exact hk6 v1 g
        · refine j_lift (fun _ k => g_iload_n (pc := 27) dX2_greatestPlace_27 rfl k) ?_
          refine j_lift (fun _ k => g_istore_n (pc := 28) (ls' := [rv Z 2 q0, iv v2, iv v2]) dX2_greatestPlace_28 (Nat.le_of_ble_eq_true rfl) (Nat.le_of_ble_eq_true rfl) rfl k) ?_
          exact hk6 v2 g
def P_X2_greatestPlace (i : Nat) (g : mg_F) : mo := L_X2_greatestPlace_4 i (fun w9 w10 g11 => some (w9, g11)) 4000 0 1 g
theorem p_X2_greatestPlace {l : Launch} {Z : mg_Zt} {i : Nat} {g : mg_F} (hi : i < 24) : ∀ (r : Nat) (g' : mg_F), P_X2_greatestPlace i g = some (r, g') → mg_C l Z mX2_greatestPlace [rv Z 2 i] g (mp mX2_greatestPlace r g') := by
  refine mC_of (by decide) rfl (Nat.le_of_ble_eq_true rfl) (List.forall_mem_cons.mpr ⟨rfl, (fun _ h => nomatch h)⟩) (fun K => ?_)
  unfold P_X2_greatestPlace
  refine j_lift (fun _ k => g_iconst (pc := 0) (v := 0) dX2_greatestPlace_0 (by decide +kernel) k) ?_
  refine j_lift (fun _ k => g_istore_n (pc := 1) (ls' := [rv Z 2 i, iv 0]) dX2_greatestPlace_1 (Nat.le_of_ble_eq_true rfl) (Nat.le_of_ble_eq_true rfl) rfl k) ?_
  refine j_lift (fun _ k => g_iconst (pc := 2) (v := 1) dX2_greatestPlace_2 (by decide +kernel) k) ?_
  refine j_lift (fun _ k => g_istore_n (pc := 3) (ls' := [rv Z 2 i, iv 0, iv 1]) dX2_greatestPlace_3 (Nat.le_of_ble_eq_true rfl) (Nat.le_of_ble_eq_true rfl) rfl k) ?_
  refine l_X2_greatestPlace_4 hi (fun w9 w10 g11 => ?_) 4000 0 1 g
  refine j_lift (fun _ k => g_iload_n (pc := 35) dX2_greatestPlace_35 rfl k) ?_
  exact j_iret (pc := 36) dX2_greatestPlace_36 ⟨mg_narI _, Or.inl rfl⟩ rfl

/-- X2_greatestRank -/
def P_X2_greatestRank (i : Nat) (g : mg_F) : mo := bd (P_X2_greatestPlace i g) fun r1 g2 => ck (r1 < 24) <| some (g2 17 i r1, g2)
theorem p_X2_greatestRank {l : Launch} {Z : mg_Zt} {i : Nat} {g : mg_F} (hi : i < 24) : ∀ (r : Nat) (g' : mg_F), P_X2_greatestRank i g = some (r, g') → mg_C l Z mX2_greatestRank [rv Z 2 i] g (mp mX2_greatestRank r g') := by
  refine mC_of (by decide) rfl (Nat.le_of_ble_eq_true rfl) (List.forall_mem_cons.mpr ⟨rfl, (fun _ h => nomatch h)⟩) (fun K => ?_)
  unfold P_X2_greatestRank
  refine j_lift (fun _ k => g_aload_n (pc := 0) dX2_greatestRank_0 rfl k) ?_
  refine j_lift (fun _ k => fg_X2_greatestRank_15 (pc := 1) hi dX2_greatestRank_1 k) ?_
  refine j_lift (fun _ k => g_aload_n (pc := 4) dX2_greatestRank_4 rfl k) ?_
  refine j_callVi (pc := 5) (Y' := mX2_greatestPlace) (As := []) (st := [rv Z 17 i]) (k := 2) (i := i) (p_X2_greatestPlace hi) gX2_greatestRank_X2_greatestPlace rfl hi rfl rfl (na := 0) rfl (by decide +kernel) (by decide) (by decide) (Nat.le_of_ble_eq_true rfl) dX2_greatestRank_5 (fun r1 g2 => ?_)
  refine j_ck (fun c3 => ?_)
  refine j_lift (fun _ k => g_iaload (pc := 8) (k := 17) (i := i) (n := 24) hi rfl (by decide) c3 dX2_greatestRank_8 k) ?_
  exact j_iret (pc := 9) dX2_greatestRank_9 ⟨mg_narI _, Or.inl rfl⟩ rfl

/-- X3_clear -/
def P_X3_clear (i : Nat) (g : mg_F) : mo := wr (mg_up g 2 i 2 0) fun g1 => wr (mg_up g1 3 i 2 4294967294) fun g2 => wr (mg_up g2 3 i 3 0) fun g3 => wr (mg_up g3 3 i 4 0) fun g4 => wr (mg_up g4 3 i 5 0) fun g5 => wr (mg_up g5 3 i 6 0) fun g6 => wr (mg_up g6 3 i 7 0) fun g7 => wr (mg_up g7 3 i 8 0) fun g8 => wr (mg_up g8 3 i 9 0) fun g9 => wr (mg_up g9 3 i 10 0) fun g10 => wr (mg_up g10 3 i 11 0) fun g11 => some (0, g11)
theorem p_X3_clear {l : Launch} {Z : mg_Zt} {i : Nat} {g : mg_F} (hi : i < 24) : ∀ (r : Nat) (g' : mg_F), P_X3_clear i g = some (r, g') → mg_C l Z mX3_clear [rv Z 3 i] g (mp mX3_clear r g') := by
  refine mC_of (by decide) rfl (Nat.le_of_ble_eq_true rfl) (List.forall_mem_cons.mpr ⟨rfl, (fun _ h => nomatch h)⟩) (fun K => ?_)
  unfold P_X3_clear
  refine j_lift (fun _ k => g_aload_n (pc := 0) dX3_clear_0 rfl k) ?_
  refine j_lift (fun _ k => fg_X3_clear_12 (pc := 1) hi dX3_clear_1 k) ?_
  refine j_lift (fun _ k => g_iconst (pc := 4) (v := 0) dX3_clear_4 (by decide +kernel) k) ?_
  refine j_w (fun _ k => fp_X3_clear_22 (pc := 5) hi dX3_clear_5 k) (fun g1 => ?_)
  refine j_lift (fun _ k => g_aload_n (pc := 8) dX3_clear_8 rfl k) ?_
  refine j_lift (fun _ k => g_bipush (pc := 9) (v := 4294967294) dX3_clear_9 (by decide +kernel) k) ?_
  refine j_w (fun _ k => fp_X3_clear_25 (pc := 11) hi dX3_clear_11 k) (fun g2 => ?_)
  refine j_lift (fun _ k => g_aload_n (pc := 14) dX3_clear_14 rfl k) ?_
  refine j_lift (fun _ k => g_iconst (pc := 15) (v := 0) dX3_clear_15 (by decide +kernel) k) ?_
  refine j_w (fun _ k => fp_X3_clear_28 (pc := 16) hi (by decide) dX3_clear_16 k) (fun g3 => ?_)
  refine j_lift (fun _ k => g_aload_n (pc := 19) dX3_clear_19 rfl k) ?_
  refine j_lift (fun _ k => g_iconst (pc := 20) (v := 0) dX3_clear_20 (by decide +kernel) k) ?_
  refine j_w (fun _ k => fp_X3_clear_32 (pc := 21) hi dX3_clear_21 k) (fun g4 => ?_)
  refine j_lift (fun _ k => g_aload_n (pc := 24) dX3_clear_24 rfl k) ?_
  refine j_lift (fun _ k => g_iconst (pc := 25) (v := 0) dX3_clear_25 (by decide +kernel) k) ?_
  refine j_w (fun _ k => fp_X3_clear_35 (pc := 26) hi (by decide) dX3_clear_26 k) (fun g5 => ?_)
  refine j_lift (fun _ k => g_aload_n (pc := 29) dX3_clear_29 rfl k) ?_
  refine j_lift (fun _ k => g_iconst (pc := 30) (v := 0) dX3_clear_30 (by decide +kernel) k) ?_
  refine j_w (fun _ k => fp_X3_clear_38 (pc := 31) hi (by decide) dX3_clear_31 k) (fun g6 => ?_)
  refine j_lift (fun _ k => g_aload_n (pc := 34) dX3_clear_34 rfl k) ?_
  refine j_lift (fun _ k => g_iconst (pc := 35) (v := 0) dX3_clear_35 (by decide +kernel) k) ?_
  refine j_w (fun _ k => fp_X3_clear_41 (pc := 36) hi dX3_clear_36 k) (fun g7 => ?_)
  refine j_lift (fun _ k => g_aload_n (pc := 39) dX3_clear_39 rfl k) ?_
  refine j_lift (fun _ k => g_iconst (pc := 40) (v := 0) dX3_clear_40 (by decide +kernel) k) ?_
  refine j_w (fun _ k => fp_X3_clear_44 (pc := 41) hi dX3_clear_41 k) (fun g8 => ?_)
  refine j_lift (fun _ k => g_aload_n (pc := 44) dX3_clear_44 rfl k) ?_
  refine j_lift (fun _ k => g_iconst (pc := 45) (v := 0) dX3_clear_45 (by decide +kernel) k) ?_
  refine j_w (fun _ k => fp_X3_clear_47 (pc := 46) hi (by decide) dX3_clear_46 k) (fun g9 => ?_)
  refine j_lift (fun _ k => g_aload_n (pc := 49) dX3_clear_49 rfl k) ?_
  refine j_lift (fun _ k => g_iconst (pc := 50) (v := 0) dX3_clear_50 (by decide +kernel) k) ?_
  refine j_w (fun _ k => fp_X3_clear_50 (pc := 51) hi dX3_clear_51 k) (fun g10 => ?_)
  refine j_lift (fun _ k => g_aload_n (pc := 54) dX3_clear_54 rfl k) ?_
  refine j_lift (fun _ k => g_iconst (pc := 55) (v := 0) dX3_clear_55 (by decide +kernel) k) ?_
  refine j_w (fun _ k => fp_X3_clear_53 (pc := 56) hi dX3_clear_56 k) (fun g11 => ?_)
  exact j_ret (pc := 59) dX3_clear_59 trivial rfl

/-- X3_holds -/
def P_X3_holds (i : Nat) (g : mg_F) : mo := if sv (g 3 i 2) = sv i then (some (1, g)) else (some (0, g))
theorem p_X3_holds {l : Launch} {Z : mg_Zt} {i : Nat} {g : mg_F} (hi : i < 24) : ∀ (r : Nat) (g' : mg_F), P_X3_holds i g = some (r, g') → mg_C l Z mX3_holds [rv Z 3 i] g (mp mX3_holds r g') := by
  refine mC_of (by decide) rfl (Nat.le_of_ble_eq_true rfl) (List.forall_mem_cons.mpr ⟨rfl, (fun _ h => nomatch h)⟩) (fun K => ?_)
  unfold P_X3_holds
  refine j_lift (fun _ k => g_aload_n (pc := 0) dX3_holds_0 rfl k) ?_
  refine j_lift (fun _ k => fg_X3_holds_25 (pc := 1) hi dX3_holds_1 k) ?_
  refine j_lift (fun _ k => g_aload_n (pc := 4) dX3_holds_4 rfl k) ?_
  refine j_lift (fun _ k => fg_X3_holds_18 (pc := 5) hi dX3_holds_5 k) ?_
  refine j_icmp_ne (pc := 8) 15 dX3_holds_8 (by decide) (fun h1 => ?_) (fun h1 => ?_)
  · refine j_lift (fun _ k => g_iconst (pc := 15) (v := 0) dX3_holds_15 (by decide +kernel) k) ?_
    exact j_iret (pc := 16) dX3_holds_16 ⟨mg_narZ (by decide), Or.inr rfl⟩ rfl
  · refine j_lift (fun _ k => g_iconst (pc := 11) (v := 1) dX3_holds_11 (by decide +kernel) k) ?_
    refine j_lift (fun _ k => g_goto (pc := 12) 16 dX3_holds_12 (by decide) k) ?_
    exact j_iret (pc := 16) dX3_holds_16 ⟨mg_narZ (by decide), Or.inr rfl⟩ rfl

/-- X3_pointsAway -/
def P_X3_pointsAway (i : Nat) (g : mg_F) : mo := if sv (g 3 i 2) = sv i then (some (0, g)) else (if sv (g 3 i 2) = sv 4294967294 then (some (0, g)) else (some (1, g)))
theorem p_X3_pointsAway {l : Launch} {Z : mg_Zt} {i : Nat} {g : mg_F} (hi : i < 24) : ∀ (r : Nat) (g' : mg_F), P_X3_pointsAway i g = some (r, g') → mg_C l Z mX3_pointsAway [rv Z 3 i] g (mp mX3_pointsAway r g') := by
  refine mC_of (by decide) rfl (Nat.le_of_ble_eq_true rfl) (List.forall_mem_cons.mpr ⟨rfl, (fun _ h => nomatch h)⟩) (fun K => ?_)
  unfold P_X3_pointsAway
  refine j_lift (fun _ k => g_aload_n (pc := 0) dX3_pointsAway_0 rfl k) ?_
  refine j_lift (fun _ k => fg_X3_pointsAway_25 (pc := 1) hi dX3_pointsAway_1 k) ?_
  refine j_lift (fun _ k => g_aload_n (pc := 4) dX3_pointsAway_4 rfl k) ?_
  refine j_lift (fun _ k => fg_X3_pointsAway_18 (pc := 5) hi dX3_pointsAway_5 k) ?_
  refine j_icmp_eq (pc := 8) 24 dX3_pointsAway_8 (by decide) (fun h1 => ?_) (fun h1 => ?_)
  · refine j_lift (fun _ k => g_iconst (pc := 24) (v := 0) dX3_pointsAway_24 (by decide +kernel) k) ?_
    exact j_iret (pc := 25) dX3_pointsAway_25 ⟨mg_narZ (by decide), Or.inr rfl⟩ rfl
  · refine j_lift (fun _ k => g_aload_n (pc := 11) dX3_pointsAway_11 rfl k) ?_
    refine j_lift (fun _ k => fg_X3_pointsAway_25 (pc := 12) hi dX3_pointsAway_12 k) ?_
    refine j_lift (fun _ k => g_bipush (pc := 15) (v := 4294967294) dX3_pointsAway_15 (by decide +kernel) k) ?_
    refine j_icmp_eq (pc := 17) 24 dX3_pointsAway_17 (by decide) (fun h2 => ?_) (fun h2 => ?_)
    · refine j_lift (fun _ k => g_iconst (pc := 24) (v := 0) dX3_pointsAway_24 (by decide +kernel) k) ?_
      exact j_iret (pc := 25) dX3_pointsAway_25 ⟨mg_narZ (by decide), Or.inr rfl⟩ rfl
    · refine j_lift (fun _ k => g_iconst (pc := 20) (v := 1) dX3_pointsAway_20 (by decide +kernel) k) ?_
      refine j_lift (fun _ k => g_goto (pc := 21) 25 dX3_pointsAway_21 (by decide) k) ?_
      exact j_iret (pc := 25) dX3_pointsAway_25 ⟨mg_narZ (by decide), Or.inr rfl⟩ rfl

/-- X3_wants -/
def P_X3_wants (i : Nat) (g : mg_F) : mo := bd (P_X2_placeOf i i g) fun r1 g2 => if sv r1 = sv 4294967294 then (some (0, g2)) else (some (1, g2))
theorem p_X3_wants {l : Launch} {Z : mg_Zt} {i : Nat} {g : mg_F} (hi : i < 24) : ∀ (r : Nat) (g' : mg_F), P_X3_wants i g = some (r, g') → mg_C l Z mX3_wants [rv Z 3 i] g (mp mX3_wants r g') := by
  refine mC_of (by decide) rfl (Nat.le_of_ble_eq_true rfl) (List.forall_mem_cons.mpr ⟨rfl, (fun _ h => nomatch h)⟩) (fun K => ?_)
  unfold P_X3_wants
  refine j_lift (fun _ k => g_aload_n (pc := 0) dX3_wants_0 rfl k) ?_
  refine j_lift (fun _ k => fg_X3_wants_12 (pc := 1) hi dX3_wants_1 k) ?_
  refine j_lift (fun _ k => g_aload_n (pc := 4) dX3_wants_4 rfl k) ?_
  refine j_lift (fun _ k => fg_X3_wants_18 (pc := 5) hi dX3_wants_5 k) ?_
  refine j_callVi (pc := 8) (Y' := mX2_placeOf) (As := [iv i]) (st := []) (k := 2) (i := i) (p_X2_placeOf hi) gX3_wants_X2_placeOf rfl hi rfl rfl (na := 1) rfl (by decide +kernel) (by decide) (by decide) (Nat.le_of_ble_eq_true rfl) dX3_wants_8 (fun r1 g2 => ?_)
  refine j_lift (fun _ k => g_bipush (pc := 11) (v := 4294967294) dX3_wants_11 (by decide +kernel) k) ?_
  refine j_icmp_eq (pc := 13) 20 dX3_wants_13 (by decide) (fun h3 => ?_) (fun h3 => ?_)
  · refine j_lift (fun _ k => g_iconst (pc := 20) (v := 0) dX3_wants_20 (by decide +kernel) k) ?_
    exact j_iret (pc := 21) dX3_wants_21 ⟨mg_narZ (by decide), Or.inr rfl⟩ rfl
  · refine j_lift (fun _ k => g_iconst (pc := 16) (v := 1) dX3_wants_16 (by decide +kernel) k) ?_
    refine j_lift (fun _ k => g_goto (pc := 17) 21 dX3_wants_17 (by decide) k) ?_
    exact j_iret (pc := 21) dX3_wants_21 ⟨mg_narZ (by decide), Or.inr rfl⟩ rfl

/-- X3_stopPumping -/
def P_X3_stopPumping (i : Nat) (g : mg_F) : mo := wr (mg_up g 3 i 5 0) fun g1 => wr (mg_up g1 3 i 8 ((g1 3 i 8) + 1)) fun g2 => some (0, g2)
theorem p_X3_stopPumping {l : Launch} {Z : mg_Zt} {i : Nat} {g : mg_F} (hi : i < 24) : ∀ (r : Nat) (g' : mg_F), P_X3_stopPumping i g = some (r, g') → mg_C l Z mX3_stopPumping [rv Z 3 i] g (mp mX3_stopPumping r g') := by
  refine mC_of (by decide) rfl (Nat.le_of_ble_eq_true rfl) (List.forall_mem_cons.mpr ⟨rfl, (fun _ h => nomatch h)⟩) (fun K => ?_)
  unfold P_X3_stopPumping
  refine j_lift (fun _ k => g_aload_n (pc := 0) dX3_stopPumping_0 rfl k) ?_
  refine j_lift (fun _ k => g_iconst (pc := 1) (v := 0) dX3_stopPumping_1 (by decide +kernel) k) ?_
  refine j_w (fun _ k => fp_X3_stopPumping_35 (pc := 2) hi (by decide) dX3_stopPumping_2 k) (fun g1 => ?_)
  refine j_lift (fun _ k => g_aload_n (pc := 5) dX3_stopPumping_5 rfl k) ?_
  refine j_lift (fun _ k => g_dup (pc := 6) dX3_stopPumping_6 rfl k) ?_
  refine j_lift (fun _ k => fg_X3_stopPumping_44 (pc := 7) hi dX3_stopPumping_7 k) ?_
  refine j_lift (fun _ k => g_iconst (pc := 10) (v := 1) dX3_stopPumping_10 (by decide +kernel) k) ?_
  refine j_lift (fun _ k => g_iadd (pc := 11) (a := g1 3 i 8) (b := 1) dX3_stopPumping_11 k) ?_
  refine j_w (fun _ k => fp_X3_stopPumping_44 (pc := 12) hi dX3_stopPumping_12 k) (fun g2 => ?_)
  exact j_ret (pc := 15) dX3_stopPumping_15 trivial rfl

/-- X3_forget -/
def P_X3_forget (i a : Nat) (g : mg_F) : mo := if sv (g 3 i 2) = sv a then (wr (mg_up g 3 i 2 4294967294) fun g2 => some (0, g2)) else (some (0, g))
theorem p_X3_forget {l : Launch} {Z : mg_Zt} {i a : Nat} {g : mg_F} (hi : i < 24) : ∀ (r : Nat) (g' : mg_F), P_X3_forget i a g = some (r, g') → mg_C l Z mX3_forget [rv Z 3 i, iv a] g (mp mX3_forget r g') := by
  refine mC_of (by decide) rfl (Nat.le_of_ble_eq_true rfl) (List.forall_mem_cons.mpr ⟨rfl, (List.forall_mem_cons.mpr ⟨rfl, (fun _ h => nomatch h)⟩)⟩) (fun K => ?_)
  unfold P_X3_forget
  refine j_lift (fun _ k => g_aload_n (pc := 0) dX3_forget_0 rfl k) ?_
  refine j_lift (fun _ k => fg_X3_forget_25 (pc := 1) hi dX3_forget_1 k) ?_
  refine j_lift (fun _ k => g_iload_n (pc := 4) dX3_forget_4 rfl k) ?_
  refine j_icmp_ne (pc := 5) 14 dX3_forget_5 (by decide) (fun h1 => ?_) (fun h1 => ?_)
  · exact j_ret (pc := 14) dX3_forget_14 trivial rfl
  · refine j_lift (fun _ k => g_aload_n (pc := 8) dX3_forget_8 rfl k) ?_
    refine j_lift (fun _ k => g_bipush (pc := 9) (v := 4294967294) dX3_forget_9 (by decide +kernel) k) ?_
    refine j_w (fun _ k => fp_X3_forget_25 (pc := 11) hi dX3_forget_11 k) (fun g2 => ?_)
    exact j_ret (pc := 14) dX3_forget_14 trivial rfl

