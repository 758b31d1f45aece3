/-! ===== the programs of the methods, 1 ===== -/
/-- X3_greedyPlace -/
def P_X3_greedyPlace (i a : Nat) (g : mg_F) : mo := bd (P_X2_placeOf i i g) fun r1 g2 => if sv r1 = sv 4294967294 then (if sv r1 = 0 then (some (1, g2)) else (some (0, g2))) else (if sv (g2 3 i 7) < sv a then (some (r1, g2)) else (if sv (g2 2 i 2) = sv 1 then (some (r1, g2)) else (if sv r1 = 0 then (some (1, g2)) else (some (0, g2)))))
theorem p_X3_greedyPlace {l : Launch} {Z : mg_Zt} {i a : Nat} {g : mg_F} (hi : i < 24) : ∀ (r : Nat) (g' : mg_F), P_X3_greedyPlace i a g = some (r, g') → mg_C l Z mX3_greedyPlace [rv Z 3 i, iv a] g (mp mX3_greedyPlace r g') := by
  refine mC_of (by decide) rfl (Nat.le_of_ble_eq_true rfl) (List.forall_mem_cons.mpr ⟨rfl, (List.forall_mem_cons.mpr ⟨rfl, (fun _ h => nomatch h)⟩)⟩) (fun K => ?_)
  unfold P_X3_greedyPlace
  refine j_lift (fun _ k => g_aload_n (pc := 0) dX3_greedyPlace_0 rfl k) ?_
  refine j_lift (fun _ k => fg_X3_greedyPlace_12 (pc := 1) hi dX3_greedyPlace_1 k) ?_
  refine j_lift (fun _ k => g_aload_n (pc := 4) dX3_greedyPlace_4 rfl k) ?_
  refine j_lift (fun _ k => fg_X3_greedyPlace_18 (pc := 5) hi dX3_greedyPlace_5 k) ?_
  refine j_callVi (pc := 8) (Y' := mX2_placeOf) (As := [iv i]) (st := []) (k := 2) (i := i) (p_X2_placeOf hi) gX3_greedyPlace_X2_placeOf rfl hi rfl rfl (na := 1) rfl (by decide +kernel) (by decide) (by decide) (Nat.le_of_ble_eq_true rfl) dX3_greedyPlace_8 (fun r1 g2 => ?_)
  refine j_lift (fun _ k => g_istore_n (pc := 11) (ls' := [rv Z 3 i, iv a, iv r1]) dX3_greedyPlace_11 (Nat.le_of_ble_eq_true rfl) (Nat.le_of_ble_eq_true rfl) rfl k) ?_
  refine j_lift (fun _ k => g_iload_n (pc := 12) dX3_greedyPlace_12 rfl k) ?_
  refine j_lift (fun _ k => g_bipush (pc := 13) (v := 4294967294) dX3_greedyPlace_13 (by decide +kernel) k) ?_
  refine j_icmp_eq (pc := 15) 39 dX3_greedyPlace_15 (by decide) (fun h3 => ?_) (fun h3 => ?_)
  · refine j_lift (fun _ k => g_iload_n (pc := 39) dX3_greedyPlace_39 rfl k) ?_
    refine j_if_ne (pc := 40) 47 dX3_greedyPlace_40 (by decide) (fun h4 => ?_) (fun h4 => ?_)
    · refine j_lift (fun _ k => g_iconst (pc := 47) (v := 0) dX3_greedyPlace_47 (by decide +kernel) k) ?_
      exact j_iret (pc := 48) dX3_greedyPlace_48 ⟨mg_narI _, Or.inl rfl⟩ rfl
    · refine j_lift (fun _ k => g_iconst (pc := 43) (v := 1) dX3_greedyPlace_43 (by decide +kernel) k) ?_
      refine j_lift (fun _ k => g_goto (pc := 44) 48 dX3_greedyPlace_44 (by decide) k) ?_
      exact j_iret (pc := 48) dX3_greedyPlace_48 ⟨mg_narI _, Or.inl rfl⟩ rfl
  · refine j_lift (fun _ k => g_aload_n (pc := 18) dX3_greedyPlace_18 rfl k) ?_
    refine j_lift (fun _ k => fg_X3_greedyPlace_41 (pc := 19) hi dX3_greedyPlace_19 k) ?_
    refine j_lift (fun _ k => g_iload_n (pc := 22) dX3_greedyPlace_22 rfl k) ?_
    refine j_icmp_lt (pc := 23) 37 dX3_greedyPlace_23 (by decide) (fun h5 => ?_) (fun h5 => ?_)
    · refine j_lift (fun _ k => g_iload_n (pc := 37) dX3_greedyPlace_37 rfl k) ?_
      exact j_iret (pc := 38) dX3_greedyPlace_38 ⟨mg_narI _, Or.inl rfl⟩ rfl
    · refine j_lift (fun _ k => g_aload_n (pc := 26) dX3_greedyPlace_26 rfl k) ?_
      refine j_lift (fun _ k => fg_X3_greedyPlace_12 (pc := 27) hi dX3_greedyPlace_27 k) ?_
      refine j_lift (fun _ k => fg_X3_greedyPlace_22 (pc := 30) hi dX3_greedyPlace_30 k) ?_
      refine j_lift (fun _ k => g_iconst (pc := 33) (v := 1) dX3_greedyPlace_33 (by decide +kernel) k) ?_
      refine j_icmp_ne (pc := 34) 39 dX3_greedyPlace_34 (by decide) (fun h6 => ?_) (fun h6 => ?_)
      · refine j_lift (fun _ k => g_iload_n (pc := 39) dX3_greedyPlace_39 rfl k) ?_
        refine j_if_ne (pc := 40) 47 dX3_greedyPlace_40 (by decide) (fun h7 => ?_) (fun h7 => ?_)
        · refine j_lift (fun _ k => g_iconst (pc := 47) (v := 0) dX3_greedyPlace_47 (by decide +kernel) k) ?_
          exact j_iret (pc := 48) dX3_greedyPlace_48 ⟨mg_narI _, Or.inl rfl⟩ rfl
        · refine j_lift (fun _ k => g_iconst (pc := 43) (v := 1) dX3_greedyPlace_43 (by decide +kernel) k) ?_
          refine j_lift (fun _ k => g_goto (pc := 44) 48 dX3_greedyPlace_44 (by decide) k) ?_
          exact j_iret (pc := 48) dX3_greedyPlace_48 ⟨mg_narI _, Or.inl rfl⟩ rfl
      · refine j_lift (fun _ k => g_iload_n (pc := 37) dX3_greedyPlace_37 rfl k) ?_
        exact j_iret (pc := 38) dX3_greedyPlace_38 ⟨mg_narI _, Or.inl rfl⟩ rfl

/-- X3_firstPlace -/
def P_X3_firstPlace (i a b : Nat) (g : mg_F) : mo := if sv (g 2 i 2) = 0 then (some (4294967294, g)) else (if sv a = sv 1 then (bd (P_X3_greedyPlace i b g) fun r6 g7 => some (r6, g7)) else (if sv a = sv 2 then (bd (P_X2_greatestPlace i g) fun r4 g5 => some (r4, g5)) else (some (0, g))))
theorem p_X3_firstPlace {l : Launch} {Z : mg_Zt} {i a b : Nat} {g : mg_F} (hi : i < 24) : ∀ (r : Nat) (g' : mg_F), P_X3_firstPlace i a b g = some (r, g') → mg_C l Z mX3_firstPlace [rv Z 3 i, iv a, iv b] g (mp mX3_firstPlace r g') := by
  refine mC_of (by decide) rfl (Nat.le_of_ble_eq_true rfl) (List.forall_mem_cons.mpr ⟨rfl, (List.forall_mem_cons.mpr ⟨rfl, (List.forall_mem_cons.mpr ⟨rfl, (fun _ h => nomatch h)⟩)⟩)⟩) (fun K => ?_)
  unfold P_X3_firstPlace
  refine j_lift (fun _ k => g_aload_n (pc := 0) dX3_firstPlace_0 rfl k) ?_
  refine j_lift (fun _ k => fg_X3_firstPlace_12 (pc := 1) hi dX3_firstPlace_1 k) ?_
  refine j_lift (fun _ k => fg_X3_firstPlace_22 (pc := 4) hi dX3_firstPlace_4 k) ?_
  refine j_if_ne (pc := 7) 13 dX3_firstPlace_7 (by decide) (fun h1 => ?_) (fun h1 => ?_)
  · refine j_lift (fun _ k => g_iload_n (pc := 13) dX3_firstPlace_13 rfl k) ?_
    refine j_lift (fun _ k => g_iconst (pc := 14) (v := 1) dX3_firstPlace_14 (by decide +kernel) k) ?_
    refine j_icmp_ne (pc := 15) 24 dX3_firstPlace_15 (by decide) (fun h2 => ?_) (fun h2 => ?_)
    · refine j_lift (fun _ k => g_iload_n (pc := 24) dX3_firstPlace_24 rfl k) ?_
      refine j_lift (fun _ k => g_iconst (pc := 25) (v := 2) dX3_firstPlace_25 (by decide +kernel) k) ?_
      refine j_icmp_ne (pc := 26) 39 dX3_firstPlace_26 (by decide) (fun h3 => ?_) (fun h3 => ?_)
      · refine j_lift (fun _ k => g_iconst (pc := 39) (v := 0) dX3_firstPlace_39 (by decide +kernel) k) ?_
        exact j_iret (pc := 40) dX3_firstPlace_40 ⟨mg_narI _, Or.inl rfl⟩ rfl
      · refine j_lift (fun _ k => g_aload_n (pc := 29) dX3_firstPlace_29 rfl k) ?_
        refine j_lift (fun _ k => fg_X3_firstPlace_12 (pc := 30) hi dX3_firstPlace_30 k) ?_
        refine j_callVi (pc := 33) (Y' := mX2_greatestPlace) (As := []) (st := []) (k := 2) (i := i) (p_X2_greatestPlace hi) gX3_firstPlace_X2_greatestPlace rfl hi rfl rfl (na := 0) rfl (by decide +kernel) (by decide) (by decide) (Nat.le_of_ble_eq_true rfl) dX3_firstPlace_33 (fun r4 g5 => ?_)
        refine j_lift (fun _ k => g_goto (pc := 36) 40 dX3_firstPlace_36 (by decide) k) ?_
        exact j_iret (pc := 40) dX3_firstPlace_40 ⟨mg_narI _, Or.inl rfl⟩ rfl
    · refine j_lift (fun _ k => g_aload_n (pc := 18) dX3_firstPlace_18 rfl k) ?_
      refine j_lift (fun _ k => g_iload_n (pc := 19) dX3_firstPlace_19 rfl k) ?_
      refine j_callVi (pc := 20) (Y' := mX3_greedyPlace) (As := [iv b]) (st := []) (k := 3) (i := i) (p_X3_greedyPlace hi) gX3_firstPlace_X3_greedyPlace rfl hi rfl rfl (na := 1) rfl (by decide +kernel) (by decide) (by decide) (Nat.le_of_ble_eq_true rfl) dX3_firstPlace_20 (fun r6 g7 => ?_)
      exact j_iret (pc := 23) dX3_firstPlace_23 ⟨mg_narI _, Or.inl rfl⟩ rfl
  · refine j_lift (fun _ k => g_bipush (pc := 10) (v := 4294967294) dX3_firstPlace_10 (by decide +kernel) k) ?_
    exact j_iret (pc := 12) dX3_firstPlace_12 ⟨mg_narI _, Or.inl rfl⟩ rfl

/-- X4_canal -/
def P_X4_canal (a : Nat) (g : mg_F) : mo := if sv a < sv 2 then (some (4294967295, g)) else (if sv 24 < sv a then (some (4294967295, g)) else (wr (mg_up g 4 0 6 0) fun g3 => bd (P_X0_clear a g3) fun _ g5 => some (0, g5)))
theorem p_X4_canal {l : Launch} {Z : mg_Zt} {a : Nat} {g : mg_F} : ∀ (r : Nat) (g' : mg_F), P_X4_canal a g = some (r, g') → mg_C l Z mX4_canal [rv Z 4 0, iv a] g (mp mX4_canal r g') := by
  refine mC_of (by decide) rfl (Nat.le_of_ble_eq_true rfl) (List.forall_mem_cons.mpr ⟨rfl, (List.forall_mem_cons.mpr ⟨rfl, (fun _ h => nomatch h)⟩)⟩) (fun K => ?_)
  unfold P_X4_canal
  refine j_lift (fun _ k => g_iload_n (pc := 0) dX4_canal_0 rfl k) ?_
  refine j_lift (fun _ k => g_iconst (pc := 1) (v := 2) dX4_canal_1 (by decide +kernel) k) ?_
  refine j_icmp_lt (pc := 2) 11 dX4_canal_2 (by decide) (fun h1 => ?_) (fun h1 => ?_)
  · refine j_lift (fun _ k => g_iconst (pc := 11) (v := 4294967295) dX4_canal_11 (by decide +kernel) k) ?_
    exact j_iret (pc := 12) dX4_canal_12 ⟨mg_narI _, Or.inl rfl⟩ rfl
  · refine j_lift (fun _ k => g_iload_n (pc := 5) dX4_canal_5 rfl k) ?_
    refine j_lift (fun _ k => g_bipush (pc := 6) (v := 24) dX4_canal_6 (by decide +kernel) k) ?_
    refine j_icmp_le (pc := 8) 13 dX4_canal_8 (by decide) (fun h2 => ?_) (fun h2 => ?_)
    · refine j_lift (fun _ k => g_aload_n (pc := 13) dX4_canal_13 rfl k) ?_
      refine j_lift (fun _ k => g_iconst (pc := 14) (v := 0) dX4_canal_14 (by decide +kernel) k) ?_
      refine j_w (fun _ k => fp_X4_canal_55 (pc := 15) (by decide) dX4_canal_15 k) (fun g3 => ?_)
      refine j_lift (fun _ k => g_aload_n (pc := 18) dX4_canal_18 rfl k) ?_
      refine j_lift (fun _ k => fg_X4_canal_10 (pc := 19) dX4_canal_19 k) ?_
      refine j_lift (fun _ k => g_iload_n (pc := 22) dX4_canal_22 rfl k) ?_
      refine j_callVv (pc := 23) (Y' := mX0_clear) (As := [iv a]) (st := []) (k := 0) (i := 0) (p_X0_clear) gX4_canal_X0_clear rfl (show 0 < 1 by omega) rfl rfl (na := 1) rfl (by decide +kernel) (by decide) (by decide) (Nat.le_of_ble_eq_true rfl) dX4_canal_23 (fun _ g5 => ?_)
      refine j_lift (fun _ k => g_iconst (pc := 26) (v := 0) dX4_canal_26 (by decide +kernel) k) ?_
      exact j_iret (pc := 27) dX4_canal_27 ⟨mg_narI _, Or.inl rfl⟩ rfl
    · refine j_lift (fun _ k => g_iconst (pc := 11) (v := 4294967295) dX4_canal_11 (by decide +kernel) k) ?_
      exact j_iret (pc := 12) dX4_canal_12 ⟨mg_narI _, Or.inl rfl⟩ rfl

/-- X4_link -/
def P_X4_link (a b : Nat) (g : mg_F) : mo := if sv (g 4 0 6) = 0 then (bd (P_X0_has a g) fun r2 g3 => if sv r2 = 0 then (some (4294967295, g3)) else (bd (P_X0_has b g3) fun r5 g6 => if sv r5 = 0 then (some (4294967295, g6)) else (bd (P_X0_partOf a g6) fun r8 g9 => bd (P_X4_contains r8 b g9) fun r10 g11 => if sv r10 = 0 then (bd (P_X0_tie a b g11) fun _ g14 => some (g14 0 0 2, g14)) else (some (4294967295, g11))))) else (some (4294967295, g))
theorem p_X4_link {l : Launch} {Z : mg_Zt} {a b : Nat} {g : mg_F} : ∀ (r : Nat) (g' : mg_F), P_X4_link a b g = some (r, g') → mg_C l Z mX4_link [rv Z 4 0, iv a, iv b] g (mp mX4_link r g') := by
  refine mC_of (by decide) rfl (Nat.le_of_ble_eq_true rfl) (List.forall_mem_cons.mpr ⟨rfl, (List.forall_mem_cons.mpr ⟨rfl, (List.forall_mem_cons.mpr ⟨rfl, (fun _ h => nomatch h)⟩)⟩)⟩) (fun K => ?_)
  unfold P_X4_link
  refine j_lift (fun _ k => g_aload_n (pc := 0) dX4_link_0 rfl k) ?_
  refine j_lift (fun _ k => fg_X4_link_55 (pc := 1) dX4_link_1 k) ?_
  refine j_if_ne (pc := 4) 44 dX4_link_4 (by decide) (fun h1 => ?_) (fun h1 => ?_)
  · refine j_lift (fun _ k => g_iconst (pc := 44) (v := 4294967295) dX4_link_44 (by decide +kernel) k) ?_
    exact j_iret (pc := 45) dX4_link_45 ⟨mg_narI _, Or.inl rfl⟩ rfl
  · refine j_lift (fun _ k => g_aload_n (pc := 7) dX4_link_7 rfl k) ?_
    refine j_lift (fun _ k => fg_X4_link_10 (pc := 8) dX4_link_8 k) ?_
    refine j_lift (fun _ k => g_iload_n (pc := 11) dX4_link_11 rfl k) ?_
    refine j_callVi (pc := 12) (Y' := mX0_has) (As := [iv a]) (st := []) (k := 0) (i := 0) (p_X0_has) gX4_link_X0_has rfl (show 0 < 1 by omega) rfl rfl (na := 1) rfl (by decide +kernel) (by decide) (by decide) (Nat.le_of_ble_eq_true rfl) dX4_link_12 (fun r2 g3 => ?_)
    refine j_if_eq (pc := 15) 44 dX4_link_15 (by decide) (fun h4 => ?_) (fun h4 => ?_)
    · refine j_lift (fun _ k => g_iconst (pc := 44) (v := 4294967295) dX4_link_44 (by decide +kernel) k) ?_
      exact j_iret (pc := 45) dX4_link_45 ⟨mg_narI _, Or.inl rfl⟩ rfl
    · refine j_lift (fun _ k => g_aload_n (pc := 18) dX4_link_18 rfl k) ?_
      refine j_lift (fun _ k => fg_X4_link_10 (pc := 19) dX4_link_19 k) ?_
      refine j_lift (fun _ k => g_iload_n (pc := 22) dX4_link_22 rfl k) ?_
      refine j_callVi (pc := 23) (Y' := mX0_has) (As := [iv b]) (st := []) (k := 0) (i := 0) (p_X0_has) gX4_link_X0_has rfl (show 0 < 1 by omega) rfl rfl (na := 1) rfl (by decide +kernel) (by decide) (by decide) (Nat.le_of_ble_eq_true rfl) dX4_link_23 (fun r5 g6 => ?_)
      refine j_if_eq (pc := 26) 44 dX4_link_26 (by decide) (fun h7 => ?_) (fun h7 => ?_)
      · refine j_lift (fun _ k => g_iconst (pc := 44) (v := 4294967295) dX4_link_44 (by decide +kernel) k) ?_
        exact j_iret (pc := 45) dX4_link_45 ⟨mg_narI _, Or.inl rfl⟩ rfl
      · refine j_lift (fun _ k => g_aload_n (pc := 29) dX4_link_29 rfl k) ?_
        refine j_lift (fun _ k => fg_X4_link_10 (pc := 30) dX4_link_30 k) ?_
        refine j_lift (fun _ k => g_iload_n (pc := 33) dX4_link_33 rfl k) ?_
        refine j_callVi (pc := 34) (Y' := mX0_partOf) (As := [iv a]) (st := []) (k := 0) (i := 0) (p_X0_partOf) gX4_link_X0_partOf rfl (show 0 < 1 by omega) rfl rfl (na := 1) rfl (by decide +kernel) (by decide) (by decide) (Nat.le_of_ble_eq_true rfl) dX4_link_34 (fun r8 g9 => ?_)
        refine j_lift (fun _ k => g_iload_n (pc := 37) dX4_link_37 rfl k) ?_
        refine j_callSi (pc := 38) (Y' := mX4_contains) (As := [iv r8, iv b]) (st := []) (p_X4_contains) gX4_link_X4_contains rfl (na := 2) rfl (by decide +kernel) (by decide) (by decide) (Nat.le_of_ble_eq_true rfl) dX4_link_38 (fun r10 g11 => ?_)
        refine j_if_eq (pc := 41) 46 dX4_link_41 (by decide) (fun h12 => ?_) (fun h12 => ?_)
        · refine j_lift (fun _ k => g_aload_n (pc := 46) dX4_link_46 rfl k) ?_
          refine j_lift (fun _ k => fg_X4_link_10 (pc := 47) dX4_link_47 k) ?_
          refine j_lift (fun _ k => g_iload_n (pc := 50) dX4_link_50 rfl k) ?_
          refine j_lift (fun _ k => g_iload_n (pc := 51) dX4_link_51 rfl k) ?_
          refine j_callVv (pc := 52) (Y' := mX0_tie) (As := [iv a, iv b]) (st := []) (k := 0) (i := 0) (p_X0_tie) gX4_link_X0_tie rfl (show 0 < 1 by omega) rfl rfl (na := 2) rfl (by decide +kernel) (by decide) (by decide) (Nat.le_of_ble_eq_true rfl) dX4_link_52 (fun _ g14 => ?_)
          refine j_lift (fun _ k => g_aload_n (pc := 55) dX4_link_55 rfl k) ?_
          refine j_lift (fun _ k => fg_X4_link_10 (pc := 56) dX4_link_56 k) ?_
          refine j_lift (fun _ k => fg_X4_link_77 (pc := 59) dX4_link_59 k) ?_
          exact j_iret (pc := 62) dX4_link_62 ⟨mg_narI _, Or.inl rfl⟩ rfl
        · refine j_lift (fun _ k => g_iconst (pc := 44) (v := 4294967295) dX4_link_44 (by decide +kernel) k) ?_
          exact j_iret (pc := 45) dX4_link_45 ⟨mg_narI _, Or.inl rfl⟩ rfl

/-- X4_pointNeighboursTo -/
def L_X4_pointNeighboursTo_2 (a1 : Nat) (k : Nat → mg_F → mo) : Nat → Nat → mg_F → mo
  | 0, _, _ => none
  | n + 1, v2, g => if sv v2 < sv (g 0 0 1) then (bd (P_X0_linked a1 v2 g) fun r2 g3 => jn (α := Nat) (fun x7 g8 => L_X4_pointNeighboursTo_2 a1 k n (v2 + 1) g8) fun kj5 => if sv r2 = 0 then (kj5 0 g3) else (ck (v2 < 24) <| if sv (g3 3 v2 2) = sv 4294967294 then (wr (mg_up g3 3 v2 2 a1) fun g11 => kj5 0 g11) else (kj5 0 g3))) else (k v2 g)
theorem l_X4_pointNeighboursTo_2 {K : mg_Kt} {Z : mg_Zt} {a1 : Nat}  {k : Nat → mg_F → mo} (hk : ∀ (v2 : Nat) (g : mg_F), mj K Z mX4_pointNeighboursTo (k v2 g) 55 [rv Z 4 0, iv a1, iv v2] [] g) : ∀ (n : Nat) (v2 : Nat) (g : mg_F), mj K Z mX4_pointNeighboursTo (L_X4_pointNeighboursTo_2 a1 k n v2 g) 2 [rv Z 4 0, iv a1, iv v2] [] g := by
  intro n
  induction n with
  | zero => intro _ _; exact j_none
  | succ n ih =>
    intro v2 g
    unfold L_X4_pointNeighboursTo_2
    refine j_lift (fun _ k => g_iload_n (pc := 2) dX4_pointNeighboursTo_2 rfl k) ?_
    refine j_lift (fun _ k => g_aload_n (pc := 3) dX4_pointNeighboursTo_3 rfl k) ?_
    refine j_lift (fun _ k => fg_X4_pointNeighboursTo_10 (pc := 4) dX4_pointNeighboursTo_4 k) ?_
    refine j_lift (fun _ k => fg_X4_pointNeighboursTo_229 (pc := 7) dX4_pointNeighboursTo_7 k) ?_
    refine j_icmp_ge (pc := 10) 55 dX4_pointNeighboursTo_10 (by decide) (fun h1 => ?_) (fun h1 => ?_)
    · exact hk v2 g
    · refine j_lift (fun _ k => g_aload_n (pc := 13) dX4_pointNeighboursTo_13 rfl k) ?_
      refine j_lift (fun _ k => fg_X4_pointNeighboursTo_10 (pc := 14) dX4_pointNeighboursTo_14 k) ?_
      refine j_lift (fun _ k => g_iload_n (pc := 17) dX4_pointNeighboursTo_17 rfl k) ?_
      refine j_lift (fun _ k => g_iload_n (pc := 18) dX4_pointNeighboursTo_18 rfl k) ?_
      refine j_callVi (pc := 19) (Y' := mX0_linked) (As := [iv a1, iv v2]) (st := []) (k := 0) (i := 0) (p_X0_linked) gX4_pointNeighboursTo_X0_linked rfl (show 0 < 1 by omega) rfl rfl (na := 2) rfl (by decide +kernel) (by decide) (by decide) (Nat.le_of_ble_eq_true rfl) dX4_pointNeighboursTo_19 (fun r2 g3 => ?_)
      refine j_jn (α := Nat) 49 (fun _ => [rv Z 4 0, iv a1, iv v2]) (fun _ => []) (fun x7 g8 => ?_) (fun kj5 hk6 => ?_)
      · refine j_lift (fun _ k => g_iinc (pc := 49) (v := v2 + 1) (ls' := [rv Z 4 0, iv a1, iv (v2 + 1)]) dX4_pointNeighboursTo_49 (Nat.le_of_ble_eq_true rfl) rfl (mg_inc _) rfl k) ?_
        refine j_lift (fun _ k => g_goto (pc := 52) 2 dX4_pointNeighboursTo_52 (by decide) k) ?_
        exact ih (v2 + 1) g8
      · refine j_if_eq (pc := 22) 49 dX4_pointNeighboursTo_22 (by decide) (fun h4 => ?_) (fun h4 => ?_)
        · exact hk6 0 g3
        · refine j_lift (fun _ k => g_aload_n (pc := 25) dX4_pointNeighboursTo_25 rfl k) ?_
          refine j_lift (fun _ k => fg_X4_pointNeighboursTo_18 (pc := 26) dX4_pointNeighboursTo_26 k) ?_
          refine j_lift (fun _ k => g_iload_n (pc := 29) dX4_pointNeighboursTo_29 rfl k) ?_
          refine j_ck (fun c9 => ?_)
          refine j_lift (fun _ k => g_aastation (pc := 30) (a := v2) c9 dX4_pointNeighboursTo_30 k) ?_
          refine j_lift (fun _ k => fg_X4_pointNeighboursTo_258 (pc := 31) c9 dX4_pointNeighboursTo_31 k) ?_
          refine j_lift (fun _ k => g_bipush (pc := 34) (v := 4294967294) dX4_pointNeighboursTo_34 (by decide +kernel) k) ?_
          refine j_icmp_ne (pc := 36) 49 dX4_pointNeighboursTo_36 (by decide) (fun h10 => ?_) (fun h10 => ?_)
          · exact hk6 0 g3
          · refine j_lift (fun _ k => g_aload_n (pc := 39) dX4_pointNeighboursTo_39 rfl k) ?_
            refine j_lift (fun _ k => fg_X4_pointNeighboursTo_18 (pc := 40) dX4_pointNeighboursTo_40 k) ?_
            refine j_lift (fun _ k => g_iload_n (pc := 43) dX4_pointNeighboursTo_43 rfl k) ?_
            refine j_lift (fun _ k => g_aastation (pc := 44) (a := v2) c9 dX4_pointNeighboursTo_44 k) ?_
            refine j_lift (fun _ k => g_iload_n (pc := 45) dX4_pointNeighboursTo_45 rfl k) ?_
            refine j_w (fun _ k => fp_X4_pointNeighboursTo_258 (pc := 46) c9 dX4_pointNeighboursTo_46 k) (fun g11 => ?_)
            exact hk6 0 g11
def P_X4_pointNeighboursTo (a : Nat) (g : mg_F) : mo := L_X4_pointNeighboursTo_2 a (fun w12 g13 => some (0, g13)) 4000 0 g
theorem p_X4_pointNeighboursTo {l : Launch} {Z : mg_Zt} {a : Nat} {g : mg_F} : ∀ (r : Nat) (g' : mg_F), P_X4_pointNeighboursTo a g = some (r, g') → mg_C l Z mX4_pointNeighboursTo [rv Z 4 0, iv a] g (mp mX4_pointNeighboursTo r g') := by
  refine mC_of (by decide) rfl (Nat.le_of_ble_eq_true rfl) (List.forall_mem_cons.mpr ⟨rfl, (List.forall_mem_cons.mpr ⟨rfl, (fun _ h => nomatch h)⟩)⟩) (fun K => ?_)
  unfold P_X4_pointNeighboursTo
  refine j_lift (fun _ k => g_iconst (pc := 0) (v := 0) dX4_pointNeighboursTo_0 (by decide +kernel) k) ?_
  refine j_lift (fun _ k => g_istore_n (pc := 1) (ls' := [rv Z 4 0, iv a, iv 0]) dX4_pointNeighboursTo_1 (Nat.le_of_ble_eq_true rfl) (Nat.le_of_ble_eq_true rfl) rfl k) ?_
  refine l_X4_pointNeighboursTo_2  (fun w12 g13 => ?_) 4000 0 g
  exact j_ret (pc := 55) dX4_pointNeighboursTo_55 trivial rfl

/-- X4_pointAllTo -/
def L_X4_pointAllTo_25 (a1 a2 : Nat) (k : Nat → mg_F → mo) : Nat → Nat → mg_F → mo
  | 0, _, _ => none
  | n + 1, v3, g => if sv v3 < sv (g 0 0 1) then (ck (v3 < 24) <| jn (α := Nat) (fun x6 g7 => L_X4_pointAllTo_25 a1 a2 k n (v3 + 1) g7) fun kj4 => if sv (g 3 v3 2) = sv 4294967294 then (kj4 0 g) else (bd (P_X4_pointNeighboursTo v3 g) fun _ g9 => kj4 0 g9)) else (k v3 g)
theorem l_X4_pointAllTo_25 {K : mg_Kt} {Z : mg_Zt} {a1 a2 : Nat} (ha1 : a1 < 24) {k : Nat → mg_F → mo} (hk : ∀ (v3 : Nat) (g : mg_F), mj K Z mX4_pointAllTo (k v3 g) 61 [rv Z 4 0, iv a1, iv a2, iv v3] [] g) : ∀ (n : Nat) (v3 : Nat) (g : mg_F), mj K Z mX4_pointAllTo (L_X4_pointAllTo_25 a1 a2 k n v3 g) 25 [rv Z 4 0, iv a1, iv a2, iv v3] [] g := by
  intro n
  induction n with
  | zero => intro _ _; exact j_none
  | succ n ih =>
    intro v3 g
    unfold L_X4_pointAllTo_25
    refine j_lift (fun _ k => g_iload_n (pc := 25) dX4_pointAllTo_25 rfl k) ?_
    refine j_lift (fun _ k => g_aload_n (pc := 26) dX4_pointAllTo_26 rfl k) ?_
    refine j_lift (fun _ k => fg_X4_pointAllTo_10 (pc := 27) dX4_pointAllTo_27 k) ?_
    refine j_lift (fun _ k => fg_X4_pointAllTo_229 (pc := 30) dX4_pointAllTo_30 k) ?_
    refine j_icmp_ge (pc := 33) 61 dX4_pointAllTo_33 (by decide) (fun h1 => ?_) (fun h1 => ?_)
    · exact hk v3 g
    · refine j_lift (fun _ k => g_aload_n (pc := 36) dX4_pointAllTo_36 rfl k) ?_
      refine j_lift (fun _ k => fg_X4_pointAllTo_18 (pc := 37) dX4_pointAllTo_37 k) ?_
      refine j_lift (fun _ k => g_iload_n (pc := 40) dX4_pointAllTo_40 rfl k) ?_
      refine j_ck (fun c2 => ?_)
      refine j_lift (fun _ k => g_aastation (pc := 41) (a := v3) c2 dX4_pointAllTo_41 k) ?_
      refine j_lift (fun _ k => fg_X4_pointAllTo_258 (pc := 42) c2 dX4_pointAllTo_42 k) ?_
      refine j_lift (fun _ k => g_bipush (pc := 45) (v := 4294967294) dX4_pointAllTo_45 (by decide +kernel) k) ?_
      refine j_jn (α := Nat) 55 (fun _ => [rv Z 4 0, iv a1, iv a2, iv v3]) (fun _ => []) (fun x6 g7 => ?_) (fun kj4 hk5 => ?_)
      · refine j_lift (fun _ k => g_iinc (pc := 55) (v := v3 + 1) (ls' := [rv Z 4 0, iv a1, iv a2, iv (v3 + 1)]) dX4_pointAllTo_55 (Nat.le_of_ble_eq_true rfl) rfl (mg_inc _) rfl k) ?_
        refine j_lift (fun _ k => g_goto (pc := 58) 25 dX4_pointAllTo_58 (by decide) k) ?_
        exact ih (v3 + 1) g7
      · refine j_icmp_eq (pc := 47) 55 dX4_pointAllTo_47 (by decide) (fun h3 => ?_) (fun h3 => ?_)
        · exact hk5 0 g
        · refine j_lift (fun _ k => g_aload_n (pc := 50) dX4_pointAllTo_50 rfl k) ?_
          refine j_lift (fun _ k => g_iload_n (pc := 51) dX4_pointAllTo_51 rfl k) ?_
          refine j_callVv (pc := 52) (Y' := mX4_pointNeighboursTo) (As := [iv v3]) (st := []) (k := 4) (i := 0) (p_X4_pointNeighboursTo) gX4_pointAllTo_X4_pointNeighboursTo rfl (show 0 < 1 by omega) rfl rfl (na := 1) rfl (by decide +kernel) (by decide) (by decide) (Nat.le_of_ble_eq_true rfl) dX4_pointAllTo_52 (fun _ g9 => ?_)
          exact hk5 0 g9
def L_X4_pointAllTo_12 (a1 : Nat) (k : Nat → mg_F → mo) : Nat → Nat → mg_F → mo
  | 0, _, _ => none
  | n + 1, v2, g => if sv v2 < sv (g 0 0 1) then (L_X4_pointAllTo_25 a1 v2 (fun w10 g11 => L_X4_pointAllTo_12 a1 k n (v2 + 1) g11) 4000 0 g) else (k v2 g)
theorem l_X4_pointAllTo_12 {K : mg_Kt} {Z : mg_Zt} {a1 : Nat} (ha1 : a1 < 24) {k : Nat → mg_F → mo} (hk : ∀ (v2 : Nat) (g : mg_F), mj K Z mX4_pointAllTo (k v2 g) 67 [rv Z 4 0, iv a1, iv v2] [] g) : ∀ (n : Nat) (v2 : Nat) (g : mg_F), mj K Z mX4_pointAllTo (L_X4_pointAllTo_12 a1 k n v2 g) 12 [rv Z 4 0, iv a1, iv v2] [] g := by
  intro n
  induction n with
  | zero => intro _ _; exact j_none
  | succ n ih =>
    intro v2 g
    unfold L_X4_pointAllTo_12
    refine j_lift (fun _ k => g_iload_n (pc := 12) dX4_pointAllTo_12 rfl k) ?_
    refine j_lift (fun _ k => g_aload_n (pc := 13) dX4_pointAllTo_13 rfl k) ?_
    refine j_lift (fun _ k => fg_X4_pointAllTo_10 (pc := 14) dX4_pointAllTo_14 k) ?_
    refine j_lift (fun _ k => fg_X4_pointAllTo_229 (pc := 17) dX4_pointAllTo_17 k) ?_
    refine j_icmp_ge (pc := 20) 67 dX4_pointAllTo_20 (by decide) (fun h1 => ?_) (fun h1 => ?_)
    · exact hk v2 g
    · refine j_lift (fun _ k => g_iconst (pc := 23) (v := 0) dX4_pointAllTo_23 (by decide +kernel) k) ?_
      refine j_lift (fun _ k => g_istore_n (pc := 24) (ls' := [rv Z 4 0, iv a1, iv v2, iv 0]) dX4_pointAllTo_24 (Nat.le_of_ble_eq_true rfl) (Nat.le_of_ble_eq_true rfl) rfl k) ?_
      refine l_X4_pointAllTo_25 ha1 (fun w10 g11 => ?_) 4000 0 g
      refine j_lift (fun _ k => g_iinc (pc := 61) (v := v2 + 1) (ls' := [rv Z 4 0, iv a1, iv (v2 + 1), iv w10]) dX4_pointAllTo_61 (Nat.le_of_ble_eq_true rfl) rfl (mg_inc _) rfl k) ?_
      refine j_lift (fun _ k => g_goto (pc := 64) 12 dX4_pointAllTo_64 (by decide) k) ?_
      refine j_trunc (ls := [rv Z 4 0, iv a1, iv (v2 + 1)]) [iv w10] ?_
      exact ih (v2 + 1) g11
def P_X4_pointAllTo (a : Nat) (g : mg_F) : mo := ck (a < 24) <| wr (mg_up g 3 a 2 a) fun g2 => L_X4_pointAllTo_12 a (fun w12 g13 => some (0, g13)) 4000 0 g2
theorem p_X4_pointAllTo {l : Launch} {Z : mg_Zt} {a : Nat} {g : mg_F} : ∀ (r : Nat) (g' : mg_F), P_X4_pointAllTo a g = some (r, g') → mg_C l Z mX4_pointAllTo [rv Z 4 0, iv a] g (mp mX4_pointAllTo r g') := by
  refine mC_of (by decide) rfl (Nat.le_of_ble_eq_true rfl) (List.forall_mem_cons.mpr ⟨rfl, (List.forall_mem_cons.mpr ⟨rfl, (fun _ h => nomatch h)⟩)⟩) (fun K => ?_)
  unfold P_X4_pointAllTo
  refine j_lift (fun _ k => g_aload_n (pc := 0) dX4_pointAllTo_0 rfl k) ?_
  refine j_lift (fun _ k => fg_X4_pointAllTo_18 (pc := 1) dX4_pointAllTo_1 k) ?_
  refine j_lift (fun _ k => g_iload_n (pc := 4) dX4_pointAllTo_4 rfl k) ?_
  refine j_ck (fun c1 => ?_)
  refine j_lift (fun _ k => g_aastation (pc := 5) (a := a) c1 dX4_pointAllTo_5 k) ?_
  refine j_lift (fun _ k => g_iload_n (pc := 6) dX4_pointAllTo_6 rfl k) ?_
  refine j_w (fun _ k => fp_X4_pointAllTo_258 (pc := 7) c1 dX4_pointAllTo_7 k) (fun g2 => ?_)
  refine j_lift (fun _ k => g_iconst (pc := 10) (v := 0) dX4_pointAllTo_10 (by decide +kernel) k) ?_
  refine j_lift (fun _ k => g_istore_n (pc := 11) (ls' := [rv Z 4 0, iv a, iv 0]) dX4_pointAllTo_11 (Nat.le_of_ble_eq_true rfl) (Nat.le_of_ble_eq_true rfl) rfl k) ?_
  refine l_X4_pointAllTo_12 c1 (fun w12 g13 => ?_) 4000 0 g2
  exact j_ret (pc := 67) dX4_pointAllTo_67 trivial rfl

/-- X4_open -/
def L_X4_open_86 (a1 a2 a3 : Nat) (k : Nat → mg_F → mo) : Nat → Nat → mg_F → mo
  | 0, _, _ => none
  | n + 1, v4, g => if sv v4 < sv 24 then (ck (v4 < 24) <| bd (P_X3_clear v4 g) fun _ g4 => bd (P_fill 21 v4 24 0 g4) fun _ g6 => bd (P_fill 22 v4 24 0 g6) fun _ g8 => L_X4_open_86 a1 a2 a3 k n (v4 + 1) g8) else (k v4 g)
theorem l_X4_open_86 {K : mg_Kt} {Z : mg_Zt} {a1 a2 a3 : Nat}  {k : Nat → mg_F → mo} (hk : ∀ (v4 : Nat) (g : mg_F), mj K Z mX4_open (k v4 g) 131 [rv Z 4 0, iv a1, iv a2, iv a3, iv v4] [] g) : ∀ (n : Nat) (v4 : Nat) (g : mg_F), mj K Z mX4_open (L_X4_open_86 a1 a2 a3 k n v4 g) 86 [rv Z 4 0, iv a1, iv a2, iv a3, iv v4] [] g := by
  intro n
  induction n with
  | zero => intro _ _; exact j_none
  | succ n ih =>
    intro v4 g
    unfold L_X4_open_86
    refine j_lift (fun _ k => g_iload (pc := 86) dX4_open_86 rfl k) ?_
    refine j_lift (fun _ k => g_bipush (pc := 88) (v := 24) dX4_open_88 (by decide +kernel) k) ?_
    refine j_icmp_ge (pc := 90) 131 dX4_open_90 (by decide) (fun h1 => ?_) (fun h1 => ?_)
    · exact hk v4 g
    · refine j_lift (fun _ k => g_aload_n (pc := 93) dX4_open_93 rfl k) ?_
      refine j_lift (fun _ k => fg_X4_open_18 (pc := 94) dX4_open_94 k) ?_
      refine j_lift (fun _ k => g_iload (pc := 97) dX4_open_97 rfl k) ?_
      refine j_ck (fun c2 => ?_)
      refine j_lift (fun _ k => g_aastation (pc := 99) (a := v4) c2 dX4_open_99 k) ?_
      refine j_callVv (pc := 100) (Y' := mX3_clear) (As := []) (st := []) (k := 3) (i := v4) (p_X3_clear c2) gX4_open_X3_clear rfl c2 rfl rfl (na := 0) rfl (by decide +kernel) (by decide) (by decide) (Nat.le_of_ble_eq_true rfl) dX4_open_100 (fun _ g4 => ?_)
      refine j_lift (fun _ k => g_aload_n (pc := 103) dX4_open_103 rfl k) ?_
      refine j_lift (fun _ k => fg_X4_open_36 (pc := 104) dX4_open_104 k) ?_
      refine j_lift (fun _ k => g_iload (pc := 107) dX4_open_107 rfl k) ?_
      refine j_lift (fun _ k => g_aarow (pc := 109) (k := 19) (r := 21) (a := v4) (show 0 < 1 by omega) rfl c2 dX4_open_109 k) ?_
      refine j_lift (fun _ k => g_iconst (pc := 110) (v := 0) dX4_open_110 (by decide +kernel) k) ?_
      refine j_callSv (pc := 111) (Y' := mJ7_fill_53178) (As := [rv Z 21 v4, iv 0]) (st := []) (p_fill c2 (fun _ => rfl) (by decide)) gX4_open_J7_fill_53178 rfl (na := 2) rfl (by decide +kernel) (by decide) (by decide) (Nat.le_of_ble_eq_true rfl) dX4_open_111 (fun _ g6 => ?_)
      refine j_lift (fun _ k => g_aload_n (pc := 114) dX4_open_114 rfl k) ?_
      refine j_lift (fun _ k => fg_X4_open_39 (pc := 115) dX4_open_115 k) ?_
      refine j_lift (fun _ k => g_iload (pc := 118) dX4_open_118 rfl k) ?_
      refine j_lift (fun _ k => g_aarow (pc := 120) (k := 20) (r := 22) (a := v4) (show 0 < 1 by omega) rfl c2 dX4_open_120 k) ?_
      refine j_lift (fun _ k => g_iconst (pc := 121) (v := 0) dX4_open_121 (by decide +kernel) k) ?_
      refine j_callSv (pc := 122) (Y' := mJ7_fill_53178) (As := [rv Z 22 v4, iv 0]) (st := []) (p_fill c2 (fun _ => rfl) (by decide)) gX4_open_J7_fill_53178 rfl (na := 2) rfl (by decide +kernel) (by decide) (by decide) (Nat.le_of_ble_eq_true rfl) dX4_open_122 (fun _ g8 => ?_)
      refine j_lift (fun _ k => g_iinc (pc := 125) (v := v4 + 1) (ls' := [rv Z 4 0, iv a1, iv a2, iv a3, iv (v4 + 1)]) dX4_open_125 (Nat.le_of_ble_eq_true rfl) rfl (mg_inc _) rfl k) ?_
      refine j_lift (fun _ k => g_goto (pc := 128) 86 dX4_open_128 (by decide) k) ?_
      exact ih (v4 + 1) g8
def P_X4_open (a b c : Nat) (g : mg_F) : mo := if sv (g 4 0 6) = 0 then (bd (P_X0_has a g) fun r2 g3 => if sv r2 = 0 then (some (4294967295, g3)) else (bd (P_X0_parts g3) fun r5 g6 => if sv 1 < sv r5 then (some (4294967295, g6)) else (if sv b < 0 then (some (4294967295, g6)) else (if sv 2 < sv b then (some (4294967295, g6)) else (if sv c < sv 1 then (some (4294967295, g6)) else (if sv 4 < sv c then (some (4294967295, g6)) else (wr (mg_up g6 4 0 7 b) fun g12 => wr (mg_up g12 4 0 8 c) fun g13 => wr (mg_up g13 4 0 9 0) fun g14 => wr (mg_up g14 1 0 5 0) fun g15 => wr (mg_up g15 1 1 5 0) fun g16 => L_X4_open_86 a b c (fun w17 g18 => bd (P_X4_pointAllTo a g18) fun _ g20 => wr (mg_up g20 4 0 6 1) fun g21 => some (0, g21)) 4000 0 g16))))))) else (some (4294967295, g))
theorem p_X4_open {l : Launch} {Z : mg_Zt} {a b c : Nat} {g : mg_F} : ∀ (r : Nat) (g' : mg_F), P_X4_open a b c g = some (r, g') → mg_C l Z mX4_open [rv Z 4 0, iv a, iv b, iv c] g (mp mX4_open r g') := by
  refine mC_of (by decide) rfl (Nat.le_of_ble_eq_true rfl) (List.forall_mem_cons.mpr ⟨rfl, (List.forall_mem_cons.mpr ⟨rfl, (List.forall_mem_cons.mpr ⟨rfl, (List.forall_mem_cons.mpr ⟨rfl, (fun _ h => nomatch h)⟩)⟩)⟩)⟩) (fun K => ?_)
  unfold P_X4_open
  refine j_lift (fun _ k => g_aload_n (pc := 0) dX4_open_0 rfl k) ?_
  refine j_lift (fun _ k => fg_X4_open_55 (pc := 1) dX4_open_1 k) ?_
  refine j_if_ne (pc := 4) 29 dX4_open_4 (by decide) (fun h1 => ?_) (fun h1 => ?_)
  · refine j_lift (fun _ k => g_iconst (pc := 29) (v := 4294967295) dX4_open_29 (by decide +kernel) k) ?_
    exact j_iret (pc := 30) dX4_open_30 ⟨mg_narI _, Or.inl rfl⟩ rfl
  · refine j_lift (fun _ k => g_aload_n (pc := 7) dX4_open_7 rfl k) ?_
    refine j_lift (fun _ k => fg_X4_open_10 (pc := 8) dX4_open_8 k) ?_
    refine j_lift (fun _ k => g_iload_n (pc := 11) dX4_open_11 rfl k) ?_
    refine j_callVi (pc := 12) (Y' := mX0_has) (As := [iv a]) (st := []) (k := 0) (i := 0) (p_X0_has) gX4_open_X0_has rfl (show 0 < 1 by omega) rfl rfl (na := 1) rfl (by decide +kernel) (by decide) (by decide) (Nat.le_of_ble_eq_true rfl) dX4_open_12 (fun r2 g3 => ?_)
    refine j_if_eq (pc := 15) 29 dX4_open_15 (by decide) (fun h4 => ?_) (fun h4 => ?_)
    · refine j_lift (fun _ k => g_iconst (pc := 29) (v := 4294967295) dX4_open_29 (by decide +kernel) k) ?_
      exact j_iret (pc := 30) dX4_open_30 ⟨mg_narI _, Or.inl rfl⟩ rfl
    · refine j_lift (fun _ k => g_aload_n (pc := 18) dX4_open_18 rfl k) ?_
      refine j_lift (fun _ k => fg_X4_open_10 (pc := 19) dX4_open_19 k) ?_
      refine j_callVi (pc := 22) (Y' := mX0_parts) (As := []) (st := []) (k := 0) (i := 0) (p_X0_parts) gX4_open_X0_parts rfl (show 0 < 1 by omega) rfl rfl (na := 0) rfl (by decide +kernel) (by decide) (by decide) (Nat.le_of_ble_eq_true rfl) dX4_open_22 (fun r5 g6 => ?_)
      refine j_lift (fun _ k => g_iconst (pc := 25) (v := 1) dX4_open_25 (by decide +kernel) k) ?_
      refine j_icmp_le (pc := 26) 31 dX4_open_26 (by decide) (fun h7 => ?_) (fun h7 => ?_)
      · refine j_lift (fun _ k => g_iload_n (pc := 31) dX4_open_31 rfl k) ?_
        refine j_if_lt (pc := 32) 50 dX4_open_32 (by decide) (fun h8 => ?_) (fun h8 => ?_)
        · refine j_lift (fun _ k => g_iconst (pc := 50) (v := 4294967295) dX4_open_50 (by decide +kernel) k) ?_
          exact j_iret (pc := 51) dX4_open_51 ⟨mg_narI _, Or.inl rfl⟩ rfl
        · refine j_lift (fun _ k => g_iload_n (pc := 35) dX4_open_35 rfl k) ?_
          refine j_lift (fun _ k => g_iconst (pc := 36) (v := 2) dX4_open_36 (by decide +kernel) k) ?_
          refine j_icmp_gt (pc := 37) 50 dX4_open_37 (by decide) (fun h9 => ?_) (fun h9 => ?_)
          · refine j_lift (fun _ k => g_iconst (pc := 50) (v := 4294967295) dX4_open_50 (by decide +kernel) k) ?_
            exact j_iret (pc := 51) dX4_open_51 ⟨mg_narI _, Or.inl rfl⟩ rfl
          · refine j_lift (fun _ k => g_iload_n (pc := 40) dX4_open_40 rfl k) ?_
            refine j_lift (fun _ k => g_iconst (pc := 41) (v := 1) dX4_open_41 (by decide +kernel) k) ?_
            refine j_icmp_lt (pc := 42) 50 dX4_open_42 (by decide) (fun h10 => ?_) (fun h10 => ?_)
            · refine j_lift (fun _ k => g_iconst (pc := 50) (v := 4294967295) dX4_open_50 (by decide +kernel) k) ?_
              exact j_iret (pc := 51) dX4_open_51 ⟨mg_narI _, Or.inl rfl⟩ rfl
            · refine j_lift (fun _ k => g_iload_n (pc := 45) dX4_open_45 rfl k) ?_
              refine j_lift (fun _ k => g_iconst (pc := 46) (v := 4) dX4_open_46 (by decide +kernel) k) ?_
              refine j_icmp_le (pc := 47) 52 dX4_open_47 (by decide) (fun h11 => ?_) (fun h11 => ?_)
              · refine j_lift (fun _ k => g_aload_n (pc := 52) dX4_open_52 rfl k) ?_
                refine j_lift (fun _ k => g_iload_n (pc := 53) dX4_open_53 rfl k) ?_
                refine j_w (fun _ k => fp_X4_open_85 (pc := 54) dX4_open_54 k) (fun g12 => ?_)
                refine j_lift (fun _ k => g_aload_n (pc := 57) dX4_open_57 rfl k) ?_
                refine j_lift (fun _ k => g_iload_n (pc := 58) dX4_open_58 rfl k) ?_
                refine j_w (fun _ k => fp_X4_open_88 (pc := 59) dX4_open_59 k) (fun g13 => ?_)
                refine j_lift (fun _ k => g_aload_n (pc := 62) dX4_open_62 rfl k) ?_
                refine j_lift (fun _ k => g_iconst (pc := 63) (v := 0) dX4_open_63 (by decide +kernel) k) ?_
                refine j_w (fun _ k => fp_X4_open_91 (pc := 64) dX4_open_64 k) (fun g14 => ?_)
                refine j_lift (fun _ k => g_aload_n (pc := 67) dX4_open_67 rfl k) ?_
                refine j_lift (fun _ k => fg_X4_open_27 (pc := 68) dX4_open_68 k) ?_
                refine j_lift (fun _ k => g_iconst (pc := 71) (v := 0) dX4_open_71 (by decide +kernel) k) ?_
                refine j_w (fun _ k => fp_X4_open_94 (pc := 72) (show 0 < 2 by omega) dX4_open_72 k) (fun g15 => ?_)
                refine j_lift (fun _ k => g_aload_n (pc := 75) dX4_open_75 rfl k) ?_
                refine j_lift (fun _ k => fg_X4_open_31 (pc := 76) dX4_open_76 k) ?_
                refine j_lift (fun _ k => g_iconst (pc := 79) (v := 0) dX4_open_79 (by decide +kernel) k) ?_
                refine j_w (fun _ k => fp_X4_open_94 (pc := 80) (show 1 < 2 by omega) dX4_open_80 k) (fun g16 => ?_)
                refine j_lift (fun _ k => g_iconst (pc := 83) (v := 0) dX4_open_83 (by decide +kernel) k) ?_
                refine j_lift (fun _ k => g_istore (pc := 84) (ls' := [rv Z 4 0, iv a, iv b, iv c, iv 0]) dX4_open_84 (Nat.le_of_ble_eq_true rfl) (Nat.le_of_ble_eq_true rfl) rfl k) ?_
                refine l_X4_open_86  (fun w17 g18 => ?_) 4000 0 g16
                refine j_lift (fun _ k => g_aload_n (pc := 131) dX4_open_131 rfl k) ?_
                refine j_lift (fun _ k => g_iload_n (pc := 132) dX4_open_132 rfl k) ?_
                refine j_callVv (pc := 133) (Y' := mX4_pointAllTo) (As := [iv a]) (st := []) (k := 4) (i := 0) (p_X4_pointAllTo) gX4_open_X4_pointAllTo rfl (show 0 < 1 by omega) rfl rfl (na := 1) rfl (by decide +kernel) (by decide) (by decide) (Nat.le_of_ble_eq_true rfl) dX4_open_133 (fun _ g20 => ?_)
                refine j_lift (fun _ k => g_aload_n (pc := 136) dX4_open_136 rfl k) ?_
                refine j_lift (fun _ k => g_iconst (pc := 137) (v := 1) dX4_open_137 (by decide +kernel) k) ?_
                refine j_w (fun _ k => fp_X4_open_55 (pc := 138) (by decide) dX4_open_138 k) (fun g21 => ?_)
                refine j_lift (fun _ k => g_iconst (pc := 141) (v := 0) dX4_open_141 (by decide +kernel) k) ?_
                exact j_iret (pc := 142) dX4_open_142 ⟨mg_narI _, Or.inl rfl⟩ rfl
              · refine j_lift (fun _ k => g_iconst (pc := 50) (v := 4294967295) dX4_open_50 (by decide +kernel) k) ?_
                exact j_iret (pc := 51) dX4_open_51 ⟨mg_narI _, Or.inl rfl⟩ rfl
      · refine j_lift (fun _ k => g_iconst (pc := 29) (v := 4294967295) dX4_open_29 (by decide +kernel) k) ?_
        exact j_iret (pc := 30) dX4_open_30 ⟨mg_narI _, Or.inl rfl⟩ rfl

/-- X4_isStation -/
def P_X4_isStation (a : Nat) (g : mg_F) : mo := if sv (g 4 0 6) = 0 then (some (0, g)) else (bd (P_X0_has a g) fun r2 g3 => if sv r2 = 0 then (some (0, g3)) else (some (1, g3)))
theorem p_X4_isStation {l : Launch} {Z : mg_Zt} {a : Nat} {g : mg_F} : ∀ (r : Nat) (g' : mg_F), P_X4_isStation a g = some (r, g') → mg_C l Z mX4_isStation [rv Z 4 0, iv a] g (mp mX4_isStation r g') := by
  refine mC_of (by decide) rfl (Nat.le_of_ble_eq_true rfl) (List.forall_mem_cons.mpr ⟨rfl, (List.forall_mem_cons.mpr ⟨rfl, (fun _ h => nomatch h)⟩)⟩) (fun K => ?_)
  unfold P_X4_isStation
  refine j_lift (fun _ k => g_aload_n (pc := 0) dX4_isStation_0 rfl k) ?_
  refine j_lift (fun _ k => fg_X4_isStation_55 (pc := 1) dX4_isStation_1 k) ?_
  refine j_if_eq (pc := 4) 22 dX4_isStation_4 (by decide) (fun h1 => ?_) (fun h1 => ?_)
  · refine j_lift (fun _ k => g_iconst (pc := 22) (v := 0) dX4_isStation_22 (by decide +kernel) k) ?_
    exact j_iret (pc := 23) dX4_isStation_23 ⟨mg_narZ (by decide), Or.inr rfl⟩ rfl
  · refine j_lift (fun _ k => g_aload_n (pc := 7) dX4_isStation_7 rfl k) ?_
    refine j_lift (fun _ k => fg_X4_isStation_10 (pc := 8) dX4_isStation_8 k) ?_
    refine j_lift (fun _ k => g_iload_n (pc := 11) dX4_isStation_11 rfl k) ?_
    refine j_callVi (pc := 12) (Y' := mX0_has) (As := [iv a]) (st := []) (k := 0) (i := 0) (p_X0_has) gX4_isStation_X0_has rfl (show 0 < 1 by omega) rfl rfl (na := 1) rfl (by decide +kernel) (by decide) (by decide) (Nat.le_of_ble_eq_true rfl) dX4_isStation_12 (fun r2 g3 => ?_)
    refine j_if_eq (pc := 15) 22 dX4_isStation_15 (by decide) (fun h4 => ?_) (fun h4 => ?_)
    · refine j_lift (fun _ k => g_iconst (pc := 22) (v := 0) dX4_isStation_22 (by decide +kernel) k) ?_
      exact j_iret (pc := 23) dX4_isStation_23 ⟨mg_narZ (by decide), Or.inr rfl⟩ rfl
    · refine j_lift (fun _ k => g_iconst (pc := 18) (v := 1) dX4_isStation_18 (by decide +kernel) k) ?_
      refine j_lift (fun _ k => g_goto (pc := 19) 23 dX4_isStation_19 (by decide) k) ?_
      exact j_iret (pc := 23) dX4_isStation_23 ⟨mg_narZ (by decide), Or.inr rfl⟩ rfl

/-- X4_isUp -/
def P_X4_isUp (a : Nat) (g : mg_F) : mo := bd (P_X4_isStation a g) fun r1 g2 => if sv r1 = 0 then (some (0, g2)) else (ck (a < 24) <| if sv (g2 3 a 6) = 0 then (some (1, g2)) else (some (0, g2)))
theorem p_X4_isUp {l : Launch} {Z : mg_Zt} {a : Nat} {g : mg_F} : ∀ (r : Nat) (g' : mg_F), P_X4_isUp a g = some (r, g') → mg_C l Z mX4_isUp [rv Z 4 0, iv a] g (mp mX4_isUp r g') := by
  refine mC_of (by decide) rfl (Nat.le_of_ble_eq_true rfl) (List.forall_mem_cons.mpr ⟨rfl, (List.forall_mem_cons.mpr ⟨rfl, (fun _ h => nomatch h)⟩)⟩) (fun K => ?_)
  unfold P_X4_isUp
  refine j_lift (fun _ k => g_aload_n (pc := 0) dX4_isUp_0 rfl k) ?_
  refine j_lift (fun _ k => g_iload_n (pc := 1) dX4_isUp_1 rfl k) ?_
  refine j_callVi (pc := 2) (Y' := mX4_isStation) (As := [iv a]) (st := []) (k := 4) (i := 0) (p_X4_isStation) gX4_isUp_X4_isStation rfl (show 0 < 1 by omega) rfl rfl (na := 1) rfl (by decide +kernel) (by decide) (by decide) (Nat.le_of_ble_eq_true rfl) dX4_isUp_2 (fun r1 g2 => ?_)
  refine j_if_eq (pc := 5) 24 dX4_isUp_5 (by decide) (fun h3 => ?_) (fun h3 => ?_)
  · refine j_lift (fun _ k => g_iconst (pc := 24) (v := 0) dX4_isUp_24 (by decide +kernel) k) ?_
    exact j_iret (pc := 25) dX4_isUp_25 ⟨mg_narZ (by decide), Or.inr rfl⟩ rfl
  · refine j_lift (fun _ k => g_aload_n (pc := 8) dX4_isUp_8 rfl k) ?_
    refine j_lift (fun _ k => fg_X4_isUp_18 (pc := 9) dX4_isUp_9 k) ?_
    refine j_lift (fun _ k => g_iload_n (pc := 12) dX4_isUp_12 rfl k) ?_
    refine j_ck (fun c4 => ?_)
    refine j_lift (fun _ k => g_aastation (pc := 13) (a := a) c4 dX4_isUp_13 k) ?_
    refine j_lift (fun _ k => fg_X4_isUp_211 (pc := 14) c4 dX4_isUp_14 k) ?_
    refine j_if_ne (pc := 17) 24 dX4_isUp_17 (by decide) (fun h5 => ?_) (fun h5 => ?_)
    · refine j_lift (fun _ k => g_iconst (pc := 24) (v := 0) dX4_isUp_24 (by decide +kernel) k) ?_
      exact j_iret (pc := 25) dX4_isUp_25 ⟨mg_narZ (by decide), Or.inr rfl⟩ rfl
    · refine j_lift (fun _ k => g_iconst (pc := 20) (v := 1) dX4_isUp_20 (by decide +kernel) k) ?_
      refine j_lift (fun _ k => g_goto (pc := 21) 25 dX4_isUp_21 (by decide) k) ?_
      exact j_iret (pc := 25) dX4_isUp_25 ⟨mg_narZ (by decide), Or.inr rfl⟩ rfl

/-- X4_want -/
def P_X4_want (a b : Nat) (g : mg_F) : mo := bd (P_X4_isUp a g) fun r1 g2 => if sv r1 = 0 then (some (4294967295, g2)) else (if sv b < 0 then (some (4294967295, g2)) else (if sv 100 < sv b then (some (4294967295, g2)) else (ck (a < 24) <| if sv (g2 3 a 5) = 0 then (bd (P_X3_wants a g2) fun r8 g9 => if sv r8 = 0 then (bd (P_X2_add a a b g9) fun _ g12 => wr (mg_up g12 3 a 9 1) fun g13 => wr (mg_up g13 3 a 10 0) fun g14 => some (g14 2 a 2, g14)) else (some (4294967295, g9))) else (some (4294967295, g2)))))
theorem p_X4_want {l : Launch} {Z : mg_Zt} {a b : Nat} {g : mg_F} : ∀ (r : Nat) (g' : mg_F), P_X4_want a b g = some (r, g') → mg_C l Z mX4_want [rv Z 4 0, iv a, iv b] g (mp mX4_want r g') := by
  refine mC_of (by decide) rfl (Nat.le_of_ble_eq_true rfl) (List.forall_mem_cons.mpr ⟨rfl, (List.forall_mem_cons.mpr ⟨rfl, (List.forall_mem_cons.mpr ⟨rfl, (fun _ h => nomatch h)⟩)⟩)⟩) (fun K => ?_)
  unfold P_X4_want
  refine j_lift (fun _ k => g_aload_n (pc := 0) dX4_want_0 rfl k) ?_
  refine j_lift (fun _ k => g_iload_n (pc := 1) dX4_want_1 rfl k) ?_
  refine j_callVi (pc := 2) (Y' := mX4_isUp) (As := [iv a]) (st := []) (k := 4) (i := 0) (p_X4_isUp) gX4_want_X4_isUp rfl (show 0 < 1 by omega) rfl rfl (na := 1) rfl (by decide +kernel) (by decide) (by decide) (Nat.le_of_ble_eq_true rfl) dX4_want_2 (fun r1 g2 => ?_)
  refine j_if_eq (pc := 5) 18 dX4_want_5 (by decide) (fun h3 => ?_) (fun h3 => ?_)
  · refine j_lift (fun _ k => g_iconst (pc := 18) (v := 4294967295) dX4_want_18 (by decide +kernel) k) ?_
    exact j_iret (pc := 19) dX4_want_19 ⟨mg_narI _, Or.inl rfl⟩ rfl
  · refine j_lift (fun _ k => g_iload_n (pc := 8) dX4_want_8 rfl k) ?_
    refine j_if_lt (pc := 9) 18 dX4_want_9 (by decide) (fun h4 => ?_) (fun h4 => ?_)
    · refine j_lift (fun _ k => g_iconst (pc := 18) (v := 4294967295) dX4_want_18 (by decide +kernel) k) ?_
      exact j_iret (pc := 19) dX4_want_19 ⟨mg_narI _, Or.inl rfl⟩ rfl
    · refine j_lift (fun _ k => g_iload_n (pc := 12) dX4_want_12 rfl k) ?_
      refine j_lift (fun _ k => g_bipush (pc := 13) (v := 100) dX4_want_13 (by decide +kernel) k) ?_
      refine j_icmp_le (pc := 15) 20 dX4_want_15 (by decide) (fun h5 => ?_) (fun h5 => ?_)
      · refine j_lift (fun _ k => g_aload_n (pc := 20) dX4_want_20 rfl k) ?_
        refine j_lift (fun _ k => fg_X4_want_18 (pc := 21) dX4_want_21 k) ?_
        refine j_lift (fun _ k => g_iload_n (pc := 24) dX4_want_24 rfl k) ?_
        refine j_ck (fun c6 => ?_)
        refine j_lift (fun _ k => g_aastation (pc := 25) (a := a) c6 dX4_want_25 k) ?_
        refine j_lift (fun _ k => g_astore_n (pc := 26) (ls' := [rv Z 4 0, iv a, iv b, rv Z 3 a]) dX4_want_26 (Nat.le_of_ble_eq_true rfl) (Nat.le_of_ble_eq_true rfl) rfl k) ?_
        refine j_lift (fun _ k => g_aload_n (pc := 27) dX4_want_27 rfl k) ?_
        refine j_lift (fun _ k => fg_X4_want_111 (pc := 28) c6 dX4_want_28 k) ?_
        refine j_if_ne (pc := 31) 41 dX4_want_31 (by decide) (fun h7 => ?_) (fun h7 => ?_)
        · refine j_lift (fun _ k => g_iconst (pc := 41) (v := 4294967295) dX4_want_41 (by decide +kernel) k) ?_
          exact j_iret (pc := 42) dX4_want_42 ⟨mg_narI _, Or.inl rfl⟩ rfl
        · refine j_lift (fun _ k => g_aload_n (pc := 34) dX4_want_34 rfl k) ?_
          refine j_callVi (pc := 35) (Y' := mX3_wants) (As := []) (st := []) (k := 3) (i := a) (p_X3_wants c6) gX4_want_X3_wants rfl c6 rfl rfl (na := 0) rfl (by decide +kernel) (by decide) (by decide) (Nat.le_of_ble_eq_true rfl) dX4_want_35 (fun r8 g9 => ?_)
          refine j_if_eq (pc := 38) 43 dX4_want_38 (by decide) (fun h10 => ?_) (fun h10 => ?_)
          · refine j_lift (fun _ k => g_aload_n (pc := 43) dX4_want_43 rfl k) ?_
            refine j_lift (fun _ k => fg_X4_want_118 (pc := 44) c6 dX4_want_44 k) ?_
            refine j_lift (fun _ k => g_iload_n (pc := 47) dX4_want_47 rfl k) ?_
            refine j_lift (fun _ k => g_iload_n (pc := 48) dX4_want_48 rfl k) ?_
            refine j_callVv (pc := 49) (Y' := mX2_add) (As := [iv a, iv b]) (st := []) (k := 2) (i := a) (p_X2_add c6) gX4_want_X2_add rfl c6 rfl rfl (na := 2) rfl (by decide +kernel) (by decide) (by decide) (Nat.le_of_ble_eq_true rfl) dX4_want_49 (fun _ g12 => ?_)
            refine j_lift (fun _ k => g_aload_n (pc := 52) dX4_want_52 rfl k) ?_
            refine j_lift (fun _ k => g_iconst (pc := 53) (v := 1) dX4_want_53 (by decide +kernel) k) ?_
            refine j_w (fun _ k => fp_X4_want_127 (pc := 54) c6 (by decide) dX4_want_54 k) (fun g13 => ?_)
            refine j_lift (fun _ k => g_aload_n (pc := 57) dX4_want_57 rfl k) ?_
            refine j_lift (fun _ k => g_iconst (pc := 58) (v := 0) dX4_want_58 (by decide +kernel) k) ?_
            refine j_w (fun _ k => fp_X4_want_130 (pc := 59) c6 dX4_want_59 k) (fun g14 => ?_)
            refine j_lift (fun _ k => g_aload_n (pc := 62) dX4_want_62 rfl k) ?_
            refine j_lift (fun _ k => fg_X4_want_118 (pc := 63) c6 dX4_want_63 k) ?_
            refine j_lift (fun _ k => fg_X4_want_133 (pc := 66) c6 dX4_want_66 k) ?_
            exact j_iret (pc := 69) dX4_want_69 ⟨mg_narI _, Or.inl rfl⟩ rfl
          · refine j_lift (fun _ k => g_iconst (pc := 41) (v := 4294967295) dX4_want_41 (by decide +kernel) k) ?_
            exact j_iret (pc := 42) dX4_want_42 ⟨mg_narI _, Or.inl rfl⟩ rfl
      · refine j_lift (fun _ k => g_iconst (pc := 18) (v := 4294967295) dX4_want_18 (by decide +kernel) k) ?_
        exact j_iret (pc := 19) dX4_want_19 ⟨mg_narI _, Or.inl rfl⟩ rfl

/-- X4_tellOthersOfBegin -/
def L_X4_tellOthersOfBegin_2 (a1 : Nat) (k : Nat → mg_F → mo) : Nat → Nat → mg_F → mo
  | 0, _, _ => none
  | n + 1, v2, g => if sv v2 < sv (g 0 0 1) then (jn (α := Nat) (fun x5 g6 => L_X4_tellOthersOfBegin_2 a1 k n (v2 + 1) g6) fun kj3 => if sv v2 = sv a1 then (kj3 0 g) else (ck (v2 < 24) <| if sv (g 3 v2 9) = 0 then (kj3 0 g) else (wr (mg_up g 3 v2 10 ((g 3 v2 10) + 1)) fun g9 => kj3 0 g9))) else (k v2 g)
theorem l_X4_tellOthersOfBegin_2 {K : mg_Kt} {Z : mg_Zt} {a1 : Nat}  {k : Nat → mg_F → mo} (hk : ∀ (v2 : Nat) (g : mg_F), mj K Z mX4_tellOthersOfBegin (k v2 g) 51 [rv Z 4 0, iv a1, iv v2] [] g) : ∀ (n : Nat) (v2 : Nat) (g : mg_F), mj K Z mX4_tellOthersOfBegin (L_X4_tellOthersOfBegin_2 a1 k n v2 g) 2 [rv Z 4 0, iv a1, iv v2] [] g := by
  intro n
  induction n with
  | zero => intro _ _; exact j_none
  | succ n ih =>
    intro v2 g
    unfold L_X4_tellOthersOfBegin_2
    refine j_lift (fun _ k => g_iload_n (pc := 2) dX4_tellOthersOfBegin_2 rfl k) ?_
    refine j_lift (fun _ k => g_aload_n (pc := 3) dX4_tellOthersOfBegin_3 rfl k) ?_
    refine j_lift (fun _ k => fg_X4_tellOthersOfBegin_10 (pc := 4) dX4_tellOthersOfBegin_4 k) ?_
    refine j_lift (fun _ k => fg_X4_tellOthersOfBegin_229 (pc := 7) dX4_tellOthersOfBegin_7 k) ?_
    refine j_icmp_ge (pc := 10) 51 dX4_tellOthersOfBegin_10 (by decide) (fun h1 => ?_) (fun h1 => ?_)
    · exact hk v2 g
    · refine j_lift (fun _ k => g_iload_n (pc := 13) dX4_tellOthersOfBegin_13 rfl k) ?_
      refine j_lift (fun _ k => g_iload_n (pc := 14) dX4_tellOthersOfBegin_14 rfl k) ?_
      refine j_jn (α := Nat) 45 (fun _ => [rv Z 4 0, iv a1, iv v2]) (fun _ => []) (fun x5 g6 => ?_) (fun kj3 hk4 => ?_)
      · refine j_lift (fun _ k => g_iinc (pc := 45) (v := v2 + 1) (ls' := [rv Z 4 0, iv a1, iv (v2 + 1)]) dX4_tellOthersOfBegin_45 (Nat.le_of_ble_eq_true rfl) rfl (mg_inc _) rfl k) ?_
        refine j_lift (fun _ k => g_goto (pc := 48) 2 dX4_tellOthersOfBegin_48 (by decide) k) ?_
        exact ih (v2 + 1) g6
      · refine j_icmp_eq (pc := 15) 45 dX4_tellOthersOfBegin_15 (by decide) (fun h2 => ?_) (fun h2 => ?_)
        · exact hk4 0 g
        · refine j_lift (fun _ k => g_aload_n (pc := 18) dX4_tellOthersOfBegin_18 rfl k) ?_
          refine j_lift (fun _ k => fg_X4_tellOthersOfBegin_18 (pc := 19) dX4_tellOthersOfBegin_19 k) ?_
          refine j_lift (fun _ k => g_iload_n (pc := 22) dX4_tellOthersOfBegin_22 rfl k) ?_
          refine j_ck (fun c7 => ?_)
          refine j_lift (fun _ k => g_aastation (pc := 23) (a := v2) c7 dX4_tellOthersOfBegin_23 k) ?_
          refine j_lift (fun _ k => fg_X4_tellOthersOfBegin_127 (pc := 24) c7 dX4_tellOthersOfBegin_24 k) ?_
          refine j_if_eq (pc := 27) 45 dX4_tellOthersOfBegin_27 (by decide) (fun h8 => ?_) (fun h8 => ?_)
          · exact hk4 0 g
          · refine j_lift (fun _ k => g_aload_n (pc := 30) dX4_tellOthersOfBegin_30 rfl k) ?_
            refine j_lift (fun _ k => fg_X4_tellOthersOfBegin_18 (pc := 31) dX4_tellOthersOfBegin_31 k) ?_
            refine j_lift (fun _ k => g_iload_n (pc := 34) dX4_tellOthersOfBegin_34 rfl k) ?_
            refine j_lift (fun _ k => g_aastation (pc := 35) (a := v2) c7 dX4_tellOthersOfBegin_35 k) ?_
            refine j_lift (fun _ k => g_dup (pc := 36) dX4_tellOthersOfBegin_36 rfl k) ?_
            refine j_lift (fun _ k => fg_X4_tellOthersOfBegin_130 (pc := 37) c7 dX4_tellOthersOfBegin_37 k) ?_
            refine j_lift (fun _ k => g_iconst (pc := 40) (v := 1) dX4_tellOthersOfBegin_40 (by decide +kernel) k) ?_
            refine j_lift (fun _ k => g_iadd (pc := 41) (a := g 3 v2 10) (b := 1) dX4_tellOthersOfBegin_41 k) ?_
            refine j_w (fun _ k => fp_X4_tellOthersOfBegin_130 (pc := 42) c7 dX4_tellOthersOfBegin_42 k) (fun g9 => ?_)
            exact hk4 0 g9
def P_X4_tellOthersOfBegin (a : Nat) (g : mg_F) : mo := L_X4_tellOthersOfBegin_2 a (fun w10 g11 => some (0, g11)) 4000 0 g
theorem p_X4_tellOthersOfBegin {l : Launch} {Z : mg_Zt} {a : Nat} {g : mg_F} : ∀ (r : Nat) (g' : mg_F), P_X4_tellOthersOfBegin a g = some (r, g') → mg_C l Z mX4_tellOthersOfBegin [rv Z 4 0, iv a] g (mp mX4_tellOthersOfBegin r g') := by
  refine mC_of (by decide) rfl (Nat.le_of_ble_eq_true rfl) (List.forall_mem_cons.mpr ⟨rfl, (List.forall_mem_cons.mpr ⟨rfl, (fun _ h => nomatch h)⟩)⟩) (fun K => ?_)
  unfold P_X4_tellOthersOfBegin
  refine j_lift (fun _ k => g_iconst (pc := 0) (v := 0) dX4_tellOthersOfBegin_0 (by decide +kernel) k) ?_
  refine j_lift (fun _ k => g_istore_n (pc := 1) (ls' := [rv Z 4 0, iv a, iv 0]) dX4_tellOthersOfBegin_1 (Nat.le_of_ble_eq_true rfl) (Nat.le_of_ble_eq_true rfl) rfl k) ?_
  refine l_X4_tellOthersOfBegin_2  (fun w10 g11 => ?_) 4000 0 g
  exact j_ret (pc := 51) dX4_tellOthersOfBegin_51 trivial rfl

/-- X4_begin -/
def P_X4_begin (a : Nat) (g : mg_F) : mo := bd (P_X4_isUp a g) fun r1 g2 => if sv r1 = 0 then (some (4294967295, g2)) else (ck (a < 24) <| bd (P_X3_firstPlace a (g2 4 0 7) (g2 4 0 8) g2) fun r5 g6 => bd (P_X3_holds a g6) fun r7 g8 => if sv r7 = 0 then (some (4294967294, g8)) else (if sv (g8 3 a 5) = 0 then (if sv r5 = sv 4294967294 then (some (4294967294, g8)) else (ck (r5 < 24) <| if sv (g8 16 a r5) = sv a then (jn (α := Nat) (fun x17 g18 => bd (P_X2_serve a r5 g18) fun _ g20 => jn (α := Nat) (fun x24 g25 => wr (mg_up g25 3 a 5 1) fun g26 => wr (mg_up g26 4 0 9 ((g26 4 0 9) + 1)) fun g27 => bd (P_X4_tellOthersOfBegin a g27) fun _ g29 => some (0, g29)) fun kj22 => if 0 < sv (g20 2 a 2) then (wr (mg_up g20 3 a 7 ((g20 3 a 7) + 1)) fun g30 => kj22 0 g30) else (kj22 0 g20)) fun kj15 => if 0 < sv r5 then (wr (mg_up g8 3 a 11 ((g8 3 a 11) + 1)) fun g31 => kj15 0 g31) else (kj15 0 g8)) else (some (4294967294, g8)))) else (some (4294967294, g8))))
theorem p_X4_begin {l : Launch} {Z : mg_Zt} {a : Nat} {g : mg_F} : ∀ (r : Nat) (g' : mg_F), P_X4_begin a g = some (r, g') → mg_C l Z mX4_begin [rv Z 4 0, iv a] g (mp mX4_begin r g') := by
  refine mC_of (by decide) rfl (Nat.le_of_ble_eq_true rfl) (List.forall_mem_cons.mpr ⟨rfl, (List.forall_mem_cons.mpr ⟨rfl, (fun _ h => nomatch h)⟩)⟩) (fun K => ?_)
  unfold P_X4_begin
  refine j_lift (fun _ k => g_aload_n (pc := 0) dX4_begin_0 rfl k) ?_
  refine j_lift (fun _ k => g_iload_n (pc := 1) dX4_begin_1 rfl k) ?_
  refine j_callVi (pc := 2) (Y' := mX4_isUp) (As := [iv a]) (st := []) (k := 4) (i := 0) (p_X4_isUp) gX4_begin_X4_isUp rfl (show 0 < 1 by omega) rfl rfl (na := 1) rfl (by decide +kernel) (by decide) (by decide) (Nat.le_of_ble_eq_true rfl) dX4_begin_2 (fun r1 g2 => ?_)
  refine j_if_ne (pc := 5) 10 dX4_begin_5 (by decide) (fun h3 => ?_) (fun h3 => ?_)
  · refine j_lift (fun _ k => g_aload_n (pc := 10) dX4_begin_10 rfl k) ?_
    refine j_lift (fun _ k => fg_X4_begin_18 (pc := 11) dX4_begin_11 k) ?_
    refine j_lift (fun _ k => g_iload_n (pc := 14) dX4_begin_14 rfl k) ?_
    refine j_ck (fun c4 => ?_)
    refine j_lift (fun _ k => g_aastation (pc := 15) (a := a) c4 dX4_begin_15 k) ?_
    refine j_lift (fun _ k => g_astore_n (pc := 16) (ls' := [rv Z 4 0, iv a, rv Z 3 a]) dX4_begin_16 (Nat.le_of_ble_eq_true rfl) (Nat.le_of_ble_eq_true rfl) rfl k) ?_
    refine j_lift (fun _ k => g_aload_n (pc := 17) dX4_begin_17 rfl k) ?_
    refine j_lift (fun _ k => g_aload_n (pc := 18) dX4_begin_18 rfl k) ?_
    refine j_lift (fun _ k => fg_X4_begin_85 (pc := 19) dX4_begin_19 k) ?_
    refine j_lift (fun _ k => g_aload_n (pc := 22) dX4_begin_22 rfl k) ?_
    refine j_lift (fun _ k => fg_X4_begin_88 (pc := 23) dX4_begin_23 k) ?_
    refine j_callVi (pc := 26) (Y' := mX3_firstPlace) (As := [iv (g2 4 0 7), iv (g2 4 0 8)]) (st := []) (k := 3) (i := a) (p_X3_firstPlace c4) gX4_begin_X3_firstPlace rfl c4 rfl rfl (na := 2) rfl (by decide +kernel) (by decide) (by decide) (Nat.le_of_ble_eq_true rfl) dX4_begin_26 (fun r5 g6 => ?_)
    refine j_lift (fun _ k => g_istore_n (pc := 29) (ls' := [rv Z 4 0, iv a, rv Z 3 a, iv r5]) dX4_begin_29 (Nat.le_of_ble_eq_true rfl) (Nat.le_of_ble_eq_true rfl) rfl k) ?_
    refine j_lift (fun _ k => g_aload_n (pc := 30) dX4_begin_30 rfl k) ?_
    refine j_callVi (pc := 31) (Y' := mX3_holds) (As := []) (st := []) (k := 3) (i := a) (p_X3_holds c4) gX4_begin_X3_holds rfl c4 rfl rfl (na := 0) rfl (by decide +kernel) (by decide) (by decide) (Nat.le_of_ble_eq_true rfl) dX4_begin_31 (fun r7 g8 => ?_)
    refine j_if_eq (pc := 34) 63 dX4_begin_34 (by decide) (fun h9 => ?_) (fun h9 => ?_)
    · refine j_lift (fun _ k => g_bipush (pc := 63) (v := 4294967294) dX4_begin_63 (by decide +kernel) k) ?_
      exact j_iret (pc := 65) dX4_begin_65 ⟨mg_narI _, Or.inl rfl⟩ rfl
    · refine j_lift (fun _ k => g_aload_n (pc := 37) dX4_begin_37 rfl k) ?_
      refine j_lift (fun _ k => fg_X4_begin_111 (pc := 38) c4 dX4_begin_38 k) ?_
      refine j_if_ne (pc := 41) 63 dX4_begin_41 (by decide) (fun h10 => ?_) (fun h10 => ?_)
      · refine j_lift (fun _ k => g_bipush (pc := 63) (v := 4294967294) dX4_begin_63 (by decide +kernel) k) ?_
        exact j_iret (pc := 65) dX4_begin_65 ⟨mg_narI _, Or.inl rfl⟩ rfl
      · refine j_lift (fun _ k => g_iload_n (pc := 44) dX4_begin_44 rfl k) ?_
        refine j_lift (fun _ k => g_bipush (pc := 45) (v := 4294967294) dX4_begin_45 (by decide +kernel) k) ?_
        refine j_icmp_eq (pc := 47) 63 dX4_begin_47 (by decide) (fun h11 => ?_) (fun h11 => ?_)
        · refine j_lift (fun _ k => g_bipush (pc := 63) (v := 4294967294) dX4_begin_63 (by decide +kernel) k) ?_
          exact j_iret (pc := 65) dX4_begin_65 ⟨mg_narI _, Or.inl rfl⟩ rfl
        · refine j_lift (fun _ k => g_aload_n (pc := 50) dX4_begin_50 rfl k) ?_
          refine j_lift (fun _ k => fg_X4_begin_118 (pc := 51) c4 dX4_begin_51 k) ?_
          refine j_lift (fun _ k => fg_X4_begin_142 (pc := 54) c4 dX4_begin_54 k) ?_
          refine j_lift (fun _ k => g_iload_n (pc := 57) dX4_begin_57 rfl k) ?_
          refine j_ck (fun c12 => ?_)
          refine j_lift (fun _ k => g_iaload (pc := 58) (k := 16) (i := a) (n := 24) c4 rfl (by decide) c12 dX4_begin_58 k) ?_
          refine j_lift (fun _ k => g_iload_n (pc := 59) dX4_begin_59 rfl k) ?_
          refine j_icmp_eq (pc := 60) 66 dX4_begin_60 (by decide) (fun h13 => ?_) (fun h13 => ?_)
          · refine j_lift (fun _ k => g_iload_n (pc := 66) dX4_begin_66 rfl k) ?_
            refine j_jn (α := Nat) 80 (fun _ => [rv Z 4 0, iv a, rv Z 3 a, iv r5]) (fun _ => []) (fun x17 g18 => ?_) (fun kj15 hk16 => ?_)
            · refine j_lift (fun _ k => g_aload_n (pc := 80) dX4_begin_80 rfl k) ?_
              refine j_lift (fun _ k => fg_X4_begin_118 (pc := 81) c4 dX4_begin_81 k) ?_
              refine j_lift (fun _ k => g_iload_n (pc := 84) dX4_begin_84 rfl k) ?_
              refine j_callVv (pc := 85) (Y' := mX2_serve) (As := [iv r5]) (st := []) (k := 2) (i := a) (p_X2_serve c4) gX4_begin_X2_serve rfl c4 rfl rfl (na := 1) rfl (by decide +kernel) (by decide) (by decide) (Nat.le_of_ble_eq_true rfl) dX4_begin_85 (fun _ g20 => ?_)
              refine j_lift (fun _ k => g_aload_n (pc := 88) dX4_begin_88 rfl k) ?_
              refine j_lift (fun _ k => fg_X4_begin_118 (pc := 89) c4 dX4_begin_89 k) ?_
              refine j_lift (fun _ k => fg_X4_begin_133 (pc := 92) c4 dX4_begin_92 k) ?_
              refine j_jn (α := Nat) 108 (fun _ => [rv Z 4 0, iv a, rv Z 3 a, iv r5]) (fun _ => []) (fun x24 g25 => ?_) (fun kj22 hk23 => ?_)
              · refine j_lift (fun _ k => g_aload_n (pc := 108) dX4_begin_108 rfl k) ?_
                refine j_lift (fun _ k => g_iconst (pc := 109) (v := 1) dX4_begin_109 (by decide +kernel) k) ?_
                refine j_w (fun _ k => fp_X4_begin_111 (pc := 110) c4 (by decide) dX4_begin_110 k) (fun g26 => ?_)
                refine j_lift (fun _ k => g_aload_n (pc := 113) dX4_begin_113 rfl k) ?_
                refine j_lift (fun _ k => g_dup (pc := 114) dX4_begin_114 rfl k) ?_
                refine j_lift (fun _ k => fg_X4_begin_91 (pc := 115) dX4_begin_115 k) ?_
                refine j_lift (fun _ k => g_iconst (pc := 118) (v := 1) dX4_begin_118 (by decide +kernel) k) ?_
                refine j_lift (fun _ k => g_iadd (pc := 119) (a := g26 4 0 9) (b := 1) dX4_begin_119 k) ?_
                refine j_w (fun _ k => fp_X4_begin_91 (pc := 120) dX4_begin_120 k) (fun g27 => ?_)
                refine j_lift (fun _ k => g_aload_n (pc := 123) dX4_begin_123 rfl k) ?_
                refine j_lift (fun _ k => g_iload_n (pc := 124) dX4_begin_124 rfl k) ?_
                refine j_callVv (pc := 125) (Y' := mX4_tellOthersOfBegin) (As := [iv a]) (st := []) (k := 4) (i := 0) (p_X4_tellOthersOfBegin) gX4_begin_X4_tellOthersOfBegin rfl (show 0 < 1 by omega) rfl rfl (na := 1) rfl (by decide +kernel) (by decide) (by decide) (Nat.le_of_ble_eq_true rfl) dX4_begin_125 (fun _ g29 => ?_)
                refine j_lift (fun _ k => g_iconst (pc := 128) (v := 0) dX4_begin_128 (by decide +kernel) k) ?_
                exact j_iret (pc := 129) dX4_begin_129 ⟨mg_narI _, Or.inl rfl⟩ rfl
              · refine j_if_le (pc := 95) 108 dX4_begin_95 (by decide) (fun h21 => ?_) (fun h21 => ?_)
                · exact hk23 0 g20
                · refine j_lift (fun _ k => g_aload_n (pc := 98) dX4_begin_98 rfl k) ?_
                  refine j_lift (fun _ k => g_dup (pc := 99) dX4_begin_99 rfl k) ?_
                  refine j_lift (fun _ k => fg_X4_begin_152 (pc := 100) c4 dX4_begin_100 k) ?_
                  refine j_lift (fun _ k => g_iconst (pc := 103) (v := 1) dX4_begin_103 (by decide +kernel) k) ?_
                  refine j_lift (fun _ k => g_iadd (pc := 104) (a := g20 3 a 7) (b := 1) dX4_begin_104 k) ?_
                  refine j_w (fun _ k => fp_X4_begin_152 (pc := 105) c4 dX4_begin_105 k) (fun g30 => ?_)
                  exact hk23 0 g30
            · refine j_if_le (pc := 67) 80 dX4_begin_67 (by decide) (fun h14 => ?_) (fun h14 => ?_)
              · exact hk16 0 g8
              · refine j_lift (fun _ k => g_aload_n (pc := 70) dX4_begin_70 rfl k) ?_
                refine j_lift (fun _ k => g_dup (pc := 71) dX4_begin_71 rfl k) ?_
                refine j_lift (fun _ k => fg_X4_begin_146 (pc := 72) c4 dX4_begin_72 k) ?_
                refine j_lift (fun _ k => g_iconst (pc := 75) (v := 1) dX4_begin_75 (by decide +kernel) k) ?_
                refine j_lift (fun _ k => g_iadd (pc := 76) (a := g8 3 a 11) (b := 1) dX4_begin_76 k) ?_
                refine j_w (fun _ k => fp_X4_begin_146 (pc := 77) c4 dX4_begin_77 k) (fun g31 => ?_)
                exact hk16 0 g31
          · refine j_lift (fun _ k => g_bipush (pc := 63) (v := 4294967294) dX4_begin_63 (by decide +kernel) k) ?_
            exact j_iret (pc := 65) dX4_begin_65 ⟨mg_narI _, Or.inl rfl⟩ rfl
  · refine j_lift (fun _ k => g_iconst (pc := 8) (v := 4294967295) dX4_begin_8 (by decide +kernel) k) ?_
    exact j_iret (pc := 9) dX4_begin_9 ⟨mg_narI _, Or.inl rfl⟩ rfl

/-- X4_end -/
def P_X4_end (a : Nat) (g : mg_F) : mo := bd (P_X4_isStation a g) fun r1 g2 => if sv r1 = 0 then (some (4294967295, g2)) else (ck (a < 24) <| if sv (g2 3 a 5) = 0 then (some (4294967295, g2)) else (bd (P_X3_stopPumping a g2) fun _ g7 => some (g7 3 a 8, g7)))
theorem p_X4_end {l : Launch} {Z : mg_Zt} {a : Nat} {g : mg_F} : ∀ (r : Nat) (g' : mg_F), P_X4_end a g = some (r, g') → mg_C l Z mX4_end [rv Z 4 0, iv a] g (mp mX4_end r g') := by
  refine mC_of (by decide) rfl (Nat.le_of_ble_eq_true rfl) (List.forall_mem_cons.mpr ⟨rfl, (List.forall_mem_cons.mpr ⟨rfl, (fun _ h => nomatch h)⟩)⟩) (fun K => ?_)
  unfold P_X4_end
  refine j_lift (fun _ k => g_aload_n (pc := 0) dX4_end_0 rfl k) ?_
  refine j_lift (fun _ k => g_iload_n (pc := 1) dX4_end_1 rfl k) ?_
  refine j_callVi (pc := 2) (Y' := mX4_isStation) (As := [iv a]) (st := []) (k := 4) (i := 0) (p_X4_isStation) gX4_end_X4_isStation rfl (show 0 < 1 by omega) rfl rfl (na := 1) rfl (by decide +kernel) (by decide) (by decide) (Nat.le_of_ble_eq_true rfl) dX4_end_2 (fun r1 g2 => ?_)
  refine j_if_eq (pc := 5) 20 dX4_end_5 (by decide) (fun h3 => ?_) (fun h3 => ?_)
  · refine j_lift (fun _ k => g_iconst (pc := 20) (v := 4294967295) dX4_end_20 (by decide +kernel) k) ?_
    exact j_iret (pc := 21) dX4_end_21 ⟨mg_narI _, Or.inl rfl⟩ rfl
  · refine j_lift (fun _ k => g_aload_n (pc := 8) dX4_end_8 rfl k) ?_
    refine j_lift (fun _ k => fg_X4_end_18 (pc := 9) dX4_end_9 k) ?_
    refine j_lift (fun _ k => g_iload_n (pc := 12) dX4_end_12 rfl k) ?_
    refine j_ck (fun c4 => ?_)
    refine j_lift (fun _ k => g_aastation (pc := 13) (a := a) c4 dX4_end_13 k) ?_
    refine j_lift (fun _ k => fg_X4_end_111 (pc := 14) c4 dX4_end_14 k) ?_
    refine j_if_ne (pc := 17) 22 dX4_end_17 (by decide) (fun h5 => ?_) (fun h5 => ?_)
    · refine j_lift (fun _ k => g_aload_n (pc := 22) dX4_end_22 rfl k) ?_
      refine j_lift (fun _ k => fg_X4_end_18 (pc := 23) dX4_end_23 k) ?_
      refine j_lift (fun _ k => g_iload_n (pc := 26) dX4_end_26 rfl k) ?_
      refine j_lift (fun _ k => g_aastation (pc := 27) (a := a) c4 dX4_end_27 k) ?_
      refine j_callVv (pc := 28) (Y' := mX3_stopPumping) (As := []) (st := []) (k := 3) (i := a) (p_X3_stopPumping c4) gX4_end_X3_stopPumping rfl c4 rfl rfl (na := 0) rfl (by decide +kernel) (by decide) (by decide) (Nat.le_of_ble_eq_true rfl) dX4_end_28 (fun _ g7 => ?_)
      refine j_lift (fun _ k => g_aload_n (pc := 31) dX4_end_31 rfl k) ?_
      refine j_lift (fun _ k => fg_X4_end_18 (pc := 32) dX4_end_32 k) ?_
      refine j_lift (fun _ k => g_iload_n (pc := 35) dX4_end_35 rfl k) ?_
      refine j_lift (fun _ k => g_aastation (pc := 36) (a := a) c4 dX4_end_36 k) ?_
      refine j_lift (fun _ k => fg_X4_end_164 (pc := 37) c4 dX4_end_37 k) ?_
      exact j_iret (pc := 40) dX4_end_40 ⟨mg_narI _, Or.inl rfl⟩ rfl
    · refine j_lift (fun _ k => g_iconst (pc := 20) (v := 4294967295) dX4_end_20 (by decide +kernel) k) ?_
      exact j_iret (pc := 21) dX4_end_21 ⟨mg_narI _, Or.inl rfl⟩ rfl

/-- X4_canPassOn -/
def P_X4_canPassOn (t : Nat) (g : mg_F) : mo := bd (P_X3_firstPlace t (g 4 0 7) (g 4 0 8) g) fun r1 g2 => bd (P_X3_holds t g2) fun r3 g4 => if sv r3 = 0 then (some (0, g4)) else (if sv (g4 3 t 5) = 0 then (if sv r1 = sv 4294967294 then (some (0, g4)) else (ck (r1 < 24) <| if sv (g4 16 t r1) = sv t then (some (0, g4)) else (some (1, g4)))) else (some (0, g4)))
theorem p_X4_canPassOn {l : Launch} {Z : mg_Zt} {t : Nat} {g : mg_F} (ht : t < 24) : ∀ (r : Nat) (g' : mg_F), P_X4_canPassOn t g = some (r, g') → mg_C l Z mX4_canPassOn [rv Z 4 0, rv Z 3 t] g (mp mX4_canPassOn r g') := by
  refine mC_of (by decide) rfl (Nat.le_of_ble_eq_true rfl) (List.forall_mem_cons.mpr ⟨rfl, (List.forall_mem_cons.mpr ⟨rfl, (fun _ h => nomatch h)⟩)⟩) (fun K => ?_)
  unfold P_X4_canPassOn
  refine j_lift (fun _ k => g_aload_n (pc := 0) dX4_canPassOn_0 rfl k) ?_
  refine j_lift (fun _ k => g_aload_n (pc := 1) dX4_canPassOn_1 rfl k) ?_
  refine j_lift (fun _ k => fg_X4_canPassOn_85 (pc := 2) dX4_canPassOn_2 k) ?_
  refine j_lift (fun _ k => g_aload_n (pc := 5) dX4_canPassOn_5 rfl k) ?_
  refine j_lift (fun _ k => fg_X4_canPassOn_88 (pc := 6) dX4_canPassOn_6 k) ?_
  refine j_callVi (pc := 9) (Y' := mX3_firstPlace) (As := [iv (g 4 0 7), iv (g 4 0 8)]) (st := []) (k := 3) (i := t) (p_X3_firstPlace ht) gX4_canPassOn_X3_firstPlace rfl ht rfl rfl (na := 2) rfl (by decide +kernel) (by decide) (by decide) (Nat.le_of_ble_eq_true rfl) dX4_canPassOn_9 (fun r1 g2 => ?_)
  refine j_lift (fun _ k => g_istore_n (pc := 12) (ls' := [rv Z 4 0, rv Z 3 t, iv r1]) dX4_canPassOn_12 (Nat.le_of_ble_eq_true rfl) (Nat.le_of_ble_eq_true rfl) rfl k) ?_
  refine j_lift (fun _ k => g_aload_n (pc := 13) dX4_canPassOn_13 rfl k) ?_
  refine j_callVi (pc := 14) (Y' := mX3_holds) (As := []) (st := []) (k := 3) (i := t) (p_X3_holds ht) gX4_canPassOn_X3_holds rfl ht rfl rfl (na := 0) rfl (by decide +kernel) (by decide) (by decide) (Nat.le_of_ble_eq_true rfl) dX4_canPassOn_14 (fun r3 g4 => ?_)
  refine j_if_eq (pc := 17) 53 dX4_canPassOn_17 (by decide) (fun h5 => ?_) (fun h5 => ?_)
  · refine j_lift (fun _ k => g_iconst (pc := 53) (v := 0) dX4_canPassOn_53 (by decide +kernel) k) ?_
    exact j_iret (pc := 54) dX4_canPassOn_54 ⟨mg_narZ (by decide), Or.inr rfl⟩ rfl
  · refine j_lift (fun _ k => g_aload_n (pc := 20) dX4_canPassOn_20 rfl k) ?_
    refine j_lift (fun _ k => fg_X4_canPassOn_111 (pc := 21) ht dX4_canPassOn_21 k) ?_
    refine j_if_ne (pc := 24) 53 dX4_canPassOn_24 (by decide) (fun h6 => ?_) (fun h6 => ?_)
    · refine j_lift (fun _ k => g_iconst (pc := 53) (v := 0) dX4_canPassOn_53 (by decide +kernel) k) ?_
      exact j_iret (pc := 54) dX4_canPassOn_54 ⟨mg_narZ (by decide), Or.inr rfl⟩ rfl
    · refine j_lift (fun _ k => g_iload_n (pc := 27) dX4_canPassOn_27 rfl k) ?_
      refine j_lift (fun _ k => g_bipush (pc := 28) (v := 4294967294) dX4_canPassOn_28 (by decide +kernel) k) ?_
      refine j_icmp_eq (pc := 30) 53 dX4_canPassOn_30 (by decide) (fun h7 => ?_) (fun h7 => ?_)
      · refine j_lift (fun _ k => g_iconst (pc := 53) (v := 0) dX4_canPassOn_53 (by decide +kernel) k) ?_
        exact j_iret (pc := 54) dX4_canPassOn_54 ⟨mg_narZ (by decide), Or.inr rfl⟩ rfl
      · refine j_lift (fun _ k => g_aload_n (pc := 33) dX4_canPassOn_33 rfl k) ?_
        refine j_lift (fun _ k => fg_X4_canPassOn_118 (pc := 34) ht dX4_canPassOn_34 k) ?_
        refine j_lift (fun _ k => fg_X4_canPassOn_142 (pc := 37) ht dX4_canPassOn_37 k) ?_
        refine j_lift (fun _ k => g_iload_n (pc := 40) dX4_canPassOn_40 rfl k) ?_
        refine j_ck (fun c8 => ?_)
        refine j_lift (fun _ k => g_iaload (pc := 41) (k := 16) (i := t) (n := 24) ht rfl (by decide) c8 dX4_canPassOn_41 k) ?_
        refine j_lift (fun _ k => g_aload_n (pc := 42) dX4_canPassOn_42 rfl k) ?_
        refine j_lift (fun _ k => fg_X4_canPassOn_274 (pc := 43) ht dX4_canPassOn_43 k) ?_
        refine j_icmp_eq (pc := 46) 53 dX4_canPassOn_46 (by decide) (fun h9 => ?_) (fun h9 => ?_)
        · refine j_lift (fun _ k => g_iconst (pc := 53) (v := 0) dX4_canPassOn_53 (by decide +kernel) k) ?_
          exact j_iret (pc := 54) dX4_canPassOn_54 ⟨mg_narZ (by decide), Or.inr rfl⟩ rfl
        · refine j_lift (fun _ k => g_iconst (pc := 49) (v := 1) dX4_canPassOn_49 (by decide +kernel) k) ?_
          refine j_lift (fun _ k => g_goto (pc := 50) 54 dX4_canPassOn_50 (by decide) k) ?_
          exact j_iret (pc := 54) dX4_canPassOn_54 ⟨mg_narZ (by decide), Or.inr rfl⟩ rfl

/-- X4_copyFirst -/
def P_X4_copyFirst (a b : Nat) (g : mg_F) : mo := bd (P_X1_firstBetween 0 a b g) fun r1 g2 => if sv r1 = sv 4294967294 then (some (0, g2)) else (bd (P_X1_addCopy 1 0 r1 g2) fun _ g5 => some (0, g5))
theorem p_X4_copyFirst {l : Launch} {Z : mg_Zt} {a b : Nat} {g : mg_F} : ∀ (r : Nat) (g' : mg_F), P_X4_copyFirst a b g = some (r, g') → mg_C l Z mX4_copyFirst [rv Z 4 0, iv a, iv b] g (mp mX4_copyFirst r g') := by
  refine mC_of (by decide) rfl (Nat.le_of_ble_eq_true rfl) (List.forall_mem_cons.mpr ⟨rfl, (List.forall_mem_cons.mpr ⟨rfl, (List.forall_mem_cons.mpr ⟨rfl, (fun _ h => nomatch h)⟩)⟩)⟩) (fun K => ?_)
  unfold P_X4_copyFirst
  refine j_lift (fun _ k => g_aload_n (pc := 0) dX4_copyFirst_0 rfl k) ?_
  refine j_lift (fun _ k => fg_X4_copyFirst_27 (pc := 1) dX4_copyFirst_1 k) ?_
  refine j_lift (fun _ k => g_iload_n (pc := 4) dX4_copyFirst_4 rfl k) ?_
  refine j_lift (fun _ k => g_iload_n (pc := 5) dX4_copyFirst_5 rfl k) ?_
  refine j_callVi (pc := 6) (Y' := mX1_firstBetween) (As := [iv a, iv b]) (st := []) (k := 1) (i := 0) (p_X1_firstBetween (show 0 < 2 by omega)) gX4_copyFirst_X1_firstBetween rfl (show 0 < 2 by omega) rfl rfl (na := 2) rfl (by decide +kernel) (by decide) (by decide) (Nat.le_of_ble_eq_true rfl) dX4_copyFirst_6 (fun r1 g2 => ?_)
  refine j_lift (fun _ k => g_istore_n (pc := 9) (ls' := [rv Z 4 0, iv a, iv b, iv r1]) dX4_copyFirst_9 (Nat.le_of_ble_eq_true rfl) (Nat.le_of_ble_eq_true rfl) rfl k) ?_
  refine j_lift (fun _ k => g_iload_n (pc := 10) dX4_copyFirst_10 rfl k) ?_
  refine j_lift (fun _ k => g_bipush (pc := 11) (v := 4294967294) dX4_copyFirst_11 (by decide +kernel) k) ?_
  refine j_icmp_eq (pc := 13) 28 dX4_copyFirst_13 (by decide) (fun h3 => ?_) (fun h3 => ?_)
  · exact j_ret (pc := 28) dX4_copyFirst_28 trivial rfl
  · refine j_lift (fun _ k => g_aload_n (pc := 16) dX4_copyFirst_16 rfl k) ?_
    refine j_lift (fun _ k => fg_X4_copyFirst_31 (pc := 17) dX4_copyFirst_17 k) ?_
    refine j_lift (fun _ k => g_aload_n (pc := 20) dX4_copyFirst_20 rfl k) ?_
    refine j_lift (fun _ k => fg_X4_copyFirst_27 (pc := 21) dX4_copyFirst_21 k) ?_
    refine j_lift (fun _ k => g_iload_n (pc := 24) dX4_copyFirst_24 rfl k) ?_
    refine j_callVv (pc := 25) (Y' := mX1_addCopy) (As := [rv Z 1 0, iv r1]) (st := []) (k := 1) (i := 1) (p_X1_addCopy (show 1 < 2 by omega) (show 0 < 2 by omega)) gX4_copyFirst_X1_addCopy rfl (show 1 < 2 by omega) rfl rfl (na := 2) rfl (by decide +kernel) (by decide) (by decide) (Nat.le_of_ble_eq_true rfl) dX4_copyFirst_25 (fun _ g5 => ?_)
    exact j_ret (pc := 28) dX4_copyFirst_28 trivial rfl

/-- X4_send -/
def P_X4_send (a b c d : Nat) (g : mg_F) : mo := bd (P_X1_firstBetween 0 b c g) fun r1 g2 => jn (α := Nat) (fun x6 g7 => ck (b < 24) <| ck (c < 24) <| bd (P_X1_add 0 a b c (g7 21 b c) d g7) fun _ g11 => wr (mg_up g11 21 b c ((g11 21 b c) + 1)) fun g12 => if sv x6 = 0 then (some (0, g12)) else (bd (P_X4_copyFirst b c g12) fun _ g15 => some (0, g15))) fun kj4 => if sv r1 = sv 4294967294 then (kj4 1 g2) else (kj4 0 g2)
theorem p_X4_send {l : Launch} {Z : mg_Zt} {a b c d : Nat} {g : mg_F} : ∀ (r : Nat) (g' : mg_F), P_X4_send a b c d g = some (r, g') → mg_C l Z mX4_send [rv Z 4 0, iv a, iv b, iv c, iv d] g (mp mX4_send r g') := by
  refine mC_of (by decide) rfl (Nat.le_of_ble_eq_true rfl) (List.forall_mem_cons.mpr ⟨rfl, (List.forall_mem_cons.mpr ⟨rfl, (List.forall_mem_cons.mpr ⟨rfl, (List.forall_mem_cons.mpr ⟨rfl, (List.forall_mem_cons.mpr ⟨rfl, (fun _ h => nomatch h)⟩)⟩)⟩)⟩)⟩) (fun K => ?_)
  unfold P_X4_send
  refine j_lift (fun _ k => g_aload_n (pc := 0) dX4_send_0 rfl k) ?_
  refine j_lift (fun _ k => fg_X4_send_27 (pc := 1) dX4_send_1 k) ?_
  refine j_lift (fun _ k => g_iload_n (pc := 4) dX4_send_4 rfl k) ?_
  refine j_lift (fun _ k => g_iload_n (pc := 5) dX4_send_5 rfl k) ?_
  refine j_callVi (pc := 6) (Y' := mX1_firstBetween) (As := [iv b, iv c]) (st := []) (k := 1) (i := 0) (p_X1_firstBetween (show 0 < 2 by omega)) gX4_send_X1_firstBetween rfl (show 0 < 2 by omega) rfl rfl (na := 2) rfl (by decide +kernel) (by decide) (by decide) (Nat.le_of_ble_eq_true rfl) dX4_send_6 (fun r1 g2 => ?_)
  refine j_lift (fun _ k => g_bipush (pc := 9) (v := 4294967294) dX4_send_9 (by decide +kernel) k) ?_
  refine j_jn (α := Nat) 19 (fun x6 => [rv Z 4 0, iv a, iv b, iv c, iv d]) (fun x6 => [iv x6]) (fun x6 g7 => ?_) (fun kj4 hk5 => ?_)
  · refine j_lift (fun _ k => g_istore (pc := 19) (ls' := [rv Z 4 0, iv a, iv b, iv c, iv d, iv x6]) dX4_send_19 (Nat.le_of_ble_eq_true rfl) (Nat.le_of_ble_eq_true rfl) rfl k) ?_
    refine j_lift (fun _ k => g_aload_n (pc := 21) dX4_send_21 rfl k) ?_
    refine j_lift (fun _ k => fg_X4_send_27 (pc := 22) dX4_send_22 k) ?_
    refine j_lift (fun _ k => g_iload_n (pc := 25) dX4_send_25 rfl k) ?_
    refine j_lift (fun _ k => g_iload_n (pc := 26) dX4_send_26 rfl k) ?_
    refine j_lift (fun _ k => g_iload_n (pc := 27) dX4_send_27 rfl k) ?_
    refine j_lift (fun _ k => g_aload_n (pc := 28) dX4_send_28 rfl k) ?_
    refine j_lift (fun _ k => fg_X4_send_36 (pc := 29) dX4_send_29 k) ?_
    refine j_lift (fun _ k => g_iload_n (pc := 32) dX4_send_32 rfl k) ?_
    refine j_ck (fun c8 => ?_)
    refine j_lift (fun _ k => g_aarow (pc := 33) (k := 19) (r := 21) (a := b) (show 0 < 1 by omega) rfl c8 dX4_send_33 k) ?_
    refine j_lift (fun _ k => g_iload_n (pc := 34) dX4_send_34 rfl k) ?_
    refine j_ck (fun c9 => ?_)
    refine j_lift (fun _ k => g_iaload (pc := 35) (k := 21) (i := b) (n := 24) c8 rfl (by decide) c9 dX4_send_35 k) ?_
    refine j_lift (fun _ k => g_iload (pc := 36) dX4_send_36 rfl k) ?_
    refine j_callVv (pc := 38) (Y' := mX1_add) (As := [iv a, iv b, iv c, iv (g7 21 b c), iv d]) (st := []) (k := 1) (i := 0) (p_X1_add (show 0 < 2 by omega)) gX4_send_X1_add rfl (show 0 < 2 by omega) rfl rfl (na := 5) rfl (by decide +kernel) (by decide) (by decide) (Nat.le_of_ble_eq_true rfl) dX4_send_38 (fun _ g11 => ?_)
    refine j_lift (fun _ k => g_aload_n (pc := 41) dX4_send_41 rfl k) ?_
    refine j_lift (fun _ k => fg_X4_send_36 (pc := 42) dX4_send_42 k) ?_
    refine j_lift (fun _ k => g_iload_n (pc := 45) dX4_send_45 rfl k) ?_
    refine j_lift (fun _ k => g_aarow (pc := 46) (k := 19) (r := 21) (a := b) (show 0 < 1 by omega) rfl c8 dX4_send_46 k) ?_
    refine j_lift (fun _ k => g_iload_n (pc := 47) dX4_send_47 rfl k) ?_
    refine j_lift (fun _ k => g_dup2 (pc := 48) dX4_send_48 rfl rfl k) ?_
    refine j_lift (fun _ k => g_iaload (pc := 49) (k := 21) (i := b) (n := 24) c8 rfl (by decide) c9 dX4_send_49 k) ?_
    refine j_lift (fun _ k => g_iconst (pc := 50) (v := 1) dX4_send_50 (by decide +kernel) k) ?_
    refine j_lift (fun _ k => g_iadd (pc := 51) (a := g11 21 b c) (b := 1) dX4_send_51 k) ?_
    refine j_w (fun _ k => g_iastore (pc := 52) (k := 21) (i := b) (n := 24) c8 (fun _ => rfl) (by decide) c9 dX4_send_52 k) (fun g12 => ?_)
    refine j_lift (fun _ k => g_iload (pc := 53) dX4_send_53 rfl k) ?_
    refine j_if_eq (pc := 55) 64 dX4_send_55 (by decide) (fun h13 => ?_) (fun h13 => ?_)
    · exact j_ret (pc := 64) dX4_send_64 trivial rfl
    · refine j_lift (fun _ k => g_aload_n (pc := 58) dX4_send_58 rfl k) ?_
      refine j_lift (fun _ k => g_iload_n (pc := 59) dX4_send_59 rfl k) ?_
      refine j_lift (fun _ k => g_iload_n (pc := 60) dX4_send_60 rfl k) ?_
      refine j_callVv (pc := 61) (Y' := mX4_copyFirst) (As := [iv b, iv c]) (st := []) (k := 4) (i := 0) (p_X4_copyFirst) gX4_send_X4_copyFirst rfl (show 0 < 1 by omega) rfl rfl (na := 2) rfl (by decide +kernel) (by decide) (by decide) (Nat.le_of_ble_eq_true rfl) dX4_send_61 (fun _ g15 => ?_)
      exact j_ret (pc := 64) dX4_send_64 trivial rfl
  · refine j_icmp_ne (pc := 11) 18 dX4_send_11 (by decide) (fun h3 => ?_) (fun h3 => ?_)
    · refine j_lift (fun _ k => g_iconst (pc := 18) (v := 0) dX4_send_18 (by decide +kernel) k) ?_
      exact hk5 0 g2
    · refine j_lift (fun _ k => g_iconst (pc := 14) (v := 1) dX4_send_14 (by decide +kernel) k) ?_
      refine j_lift (fun _ k => g_goto (pc := 15) 19 dX4_send_15 (by decide) k) ?_
      exact hk5 1 g2

/-- X4_ask -/
def P_X4_ask (t : Nat) (g : mg_F) : mo := bd (P_X2_greatestRank t g) fun r1 g2 => wr (mg_up g2 3 t 4 r1) fun g3 => wr (mg_up g3 3 t 3 1) fun g4 => bd (P_X4_send 0 t (g4 3 t 2) (g4 3 t 4) g4) fun _ g6 => some (0, g6)
theorem p_X4_ask {l : Launch} {Z : mg_Zt} {t : Nat} {g : mg_F} (ht : t < 24) : ∀ (r : Nat) (g' : mg_F), P_X4_ask t g = some (r, g') → mg_C l Z mX4_ask [rv Z 4 0, rv Z 3 t] g (mp mX4_ask r g') := by
  refine mC_of (by decide) rfl (Nat.le_of_ble_eq_true rfl) (List.forall_mem_cons.mpr ⟨rfl, (List.forall_mem_cons.mpr ⟨rfl, (fun _ h => nomatch h)⟩)⟩) (fun K => ?_)
  unfold P_X4_ask
  refine j_lift (fun _ k => g_aload_n (pc := 0) dX4_ask_0 rfl k) ?_
  refine j_lift (fun _ k => g_aload_n (pc := 1) dX4_ask_1 rfl k) ?_
  refine j_lift (fun _ k => fg_X4_ask_118 (pc := 2) ht dX4_ask_2 k) ?_
  refine j_callVi (pc := 5) (Y' := mX2_greatestRank) (As := []) (st := [rv Z 3 t]) (k := 2) (i := t) (p_X2_greatestRank ht) gX4_ask_X2_greatestRank rfl ht rfl rfl (na := 0) rfl (by decide +kernel) (by decide) (by decide) (Nat.le_of_ble_eq_true rfl) dX4_ask_5 (fun r1 g2 => ?_)
  refine j_w (fun _ k => fp_X4_ask_187 (pc := 8) ht dX4_ask_8 k) (fun g3 => ?_)
  refine j_lift (fun _ k => g_aload_n (pc := 11) dX4_ask_11 rfl k) ?_
  refine j_lift (fun _ k => g_iconst (pc := 12) (v := 1) dX4_ask_12 (by decide +kernel) k) ?_
  refine j_w (fun _ k => fp_X4_ask_178 (pc := 13) ht (by decide) dX4_ask_13 k) (fun g4 => ?_)
  refine j_lift (fun _ k => g_aload_n (pc := 16) dX4_ask_16 rfl k) ?_
  refine j_lift (fun _ k => g_iconst (pc := 17) (v := 0) dX4_ask_17 (by decide +kernel) k) ?_
  refine j_lift (fun _ k => g_aload_n (pc := 18) dX4_ask_18 rfl k) ?_
  refine j_lift (fun _ k => fg_X4_ask_274 (pc := 19) ht dX4_ask_19 k) ?_
  refine j_lift (fun _ k => g_aload_n (pc := 22) dX4_ask_22 rfl k) ?_
  refine j_lift (fun _ k => fg_X4_ask_258 (pc := 23) ht dX4_ask_23 k) ?_
  refine j_lift (fun _ k => g_aload_n (pc := 26) dX4_ask_26 rfl k) ?_
  refine j_lift (fun _ k => fg_X4_ask_187 (pc := 27) ht dX4_ask_27 k) ?_
  refine j_callVv (pc := 30) (Y' := mX4_send) (As := [iv 0, iv t, iv (g4 3 t 2), iv (g4 3 t 4)]) (st := []) (k := 4) (i := 0) (p_X4_send) gX4_ask_X4_send rfl (show 0 < 1 by omega) rfl rfl (na := 4) rfl (by decide +kernel) (by decide) (by decide) (Nat.le_of_ble_eq_true rfl) dX4_ask_30 (fun _ g6 => ?_)
  exact j_ret (pc := 33) dX4_ask_33 trivial rfl

/-- X4_passOn -/
def P_X4_passOn (t : Nat) (g : mg_F) : mo := bd (P_X3_firstPlace t (g 4 0 7) (g 4 0 8) g) fun r1 g2 => ck (r1 < 24) <| wr (mg_up g2 3 t 2 (g2 16 t r1)) fun g4 => bd (P_X2_serve t r1 g4) fun _ g6 => wr (mg_up g6 3 t 7 0) fun g7 => bd (P_X4_send 1 t (g7 3 t 2) 0 g7) fun _ g9 => if 0 < sv (g9 2 t 2) then (bd (P_X4_ask t g9) fun _ g12 => some (0, g12)) else (some (0, g9))
theorem p_X4_passOn {l : Launch} {Z : mg_Zt} {t : Nat} {g : mg_F} (ht : t < 24) : ∀ (r : Nat) (g' : mg_F), P_X4_passOn t g = some (r, g') → mg_C l Z mX4_passOn [rv Z 4 0, rv Z 3 t] g (mp mX4_passOn r g') := by
  refine mC_of (by decide) rfl (Nat.le_of_ble_eq_true rfl) (List.forall_mem_cons.mpr ⟨rfl, (List.forall_mem_cons.mpr ⟨rfl, (fun _ h => nomatch h)⟩)⟩) (fun K => ?_)
  unfold P_X4_passOn
  refine j_lift (fun _ k => g_aload_n (pc := 0) dX4_passOn_0 rfl k) ?_
  refine j_lift (fun _ k => g_aload_n (pc := 1) dX4_passOn_1 rfl k) ?_
  refine j_lift (fun _ k => fg_X4_passOn_85 (pc := 2) dX4_passOn_2 k) ?_
  refine j_lift (fun _ k => g_aload_n (pc := 5) dX4_passOn_5 rfl k) ?_
  refine j_lift (fun _ k => fg_X4_passOn_88 (pc := 6) dX4_passOn_6 k) ?_
  refine j_callVi (pc := 9) (Y' := mX3_firstPlace) (As := [iv (g 4 0 7), iv (g 4 0 8)]) (st := []) (k := 3) (i := t) (p_X3_firstPlace ht) gX4_passOn_X3_firstPlace rfl ht rfl rfl (na := 2) rfl (by decide +kernel) (by decide) (by decide) (Nat.le_of_ble_eq_true rfl) dX4_passOn_9 (fun r1 g2 => ?_)
  refine j_lift (fun _ k => g_istore_n (pc := 12) (ls' := [rv Z 4 0, rv Z 3 t, iv r1]) dX4_passOn_12 (Nat.le_of_ble_eq_true rfl) (Nat.le_of_ble_eq_true rfl) rfl k) ?_
  refine j_lift (fun _ k => g_aload_n (pc := 13) dX4_passOn_13 rfl k) ?_
  refine j_lift (fun _ k => g_aload_n (pc := 14) dX4_passOn_14 rfl k) ?_
  refine j_lift (fun _ k => fg_X4_passOn_118 (pc := 15) ht dX4_passOn_15 k) ?_
  refine j_lift (fun _ k => fg_X4_passOn_142 (pc := 18) ht dX4_passOn_18 k) ?_
  refine j_lift (fun _ k => g_iload_n (pc := 21) dX4_passOn_21 rfl k) ?_
  refine j_ck (fun c3 => ?_)
  refine j_lift (fun _ k => g_iaload (pc := 22) (k := 16) (i := t) (n := 24) ht rfl (by decide) c3 dX4_passOn_22 k) ?_
  refine j_w (fun _ k => fp_X4_passOn_258 (pc := 23) ht dX4_passOn_23 k) (fun g4 => ?_)
  refine j_lift (fun _ k => g_aload_n (pc := 26) dX4_passOn_26 rfl k) ?_
  refine j_lift (fun _ k => fg_X4_passOn_118 (pc := 27) ht dX4_passOn_27 k) ?_
  refine j_lift (fun _ k => g_iload_n (pc := 30) dX4_passOn_30 rfl k) ?_
  refine j_callVv (pc := 31) (Y' := mX2_serve) (As := [iv r1]) (st := []) (k := 2) (i := t) (p_X2_serve ht) gX4_passOn_X2_serve rfl ht rfl rfl (na := 1) rfl (by decide +kernel) (by decide) (by decide) (Nat.le_of_ble_eq_true rfl) dX4_passOn_31 (fun _ g6 => ?_)
  refine j_lift (fun _ k => g_aload_n (pc := 34) dX4_passOn_34 rfl k) ?_
  refine j_lift (fun _ k => g_iconst (pc := 35) (v := 0) dX4_passOn_35 (by decide +kernel) k) ?_
  refine j_w (fun _ k => fp_X4_passOn_152 (pc := 36) ht dX4_passOn_36 k) (fun g7 => ?_)
  refine j_lift (fun _ k => g_aload_n (pc := 39) dX4_passOn_39 rfl k) ?_
  refine j_lift (fun _ k => g_iconst (pc := 40) (v := 1) dX4_passOn_40 (by decide +kernel) k) ?_
  refine j_lift (fun _ k => g_aload_n (pc := 41) dX4_passOn_41 rfl k) ?_
  refine j_lift (fun _ k => fg_X4_passOn_274 (pc := 42) ht dX4_passOn_42 k) ?_
  refine j_lift (fun _ k => g_aload_n (pc := 45) dX4_passOn_45 rfl k) ?_
  refine j_lift (fun _ k => fg_X4_passOn_258 (pc := 46) ht dX4_passOn_46 k) ?_
  refine j_lift (fun _ k => g_iconst (pc := 49) (v := 0) dX4_passOn_49 (by decide +kernel) k) ?_
  refine j_callVv (pc := 50) (Y' := mX4_send) (As := [iv 1, iv t, iv (g7 3 t 2), iv 0]) (st := []) (k := 4) (i := 0) (p_X4_send) gX4_passOn_X4_send rfl (show 0 < 1 by omega) rfl rfl (na := 4) rfl (by decide +kernel) (by decide) (by decide) (Nat.le_of_ble_eq_true rfl) dX4_passOn_50 (fun _ g9 => ?_)
  refine j_lift (fun _ k => g_aload_n (pc := 53) dX4_passOn_53 rfl k) ?_
  refine j_lift (fun _ k => fg_X4_passOn_118 (pc := 54) ht dX4_passOn_54 k) ?_
  refine j_lift (fun _ k => fg_X4_passOn_133 (pc := 57) ht dX4_passOn_57 k) ?_
  refine j_if_le (pc := 60) 68 dX4_passOn_60 (by decide) (fun h10 => ?_) (fun h10 => ?_)
  · exact j_ret (pc := 68) dX4_passOn_68 trivial rfl
  · refine j_lift (fun _ k => g_aload_n (pc := 63) dX4_passOn_63 rfl k) ?_
    refine j_lift (fun _ k => g_aload_n (pc := 64) dX4_passOn_64 rfl k) ?_
    refine j_callVv (pc := 65) (Y' := mX4_ask) (As := [rv Z 3 t]) (st := []) (k := 4) (i := 0) (p_X4_ask ht) gX4_passOn_X4_ask rfl (show 0 < 1 by omega) rfl rfl (na := 1) rfl (by decide +kernel) (by decide) (by decide) (Nat.le_of_ble_eq_true rfl) dX4_passOn_65 (fun _ g12 => ?_)
    exact j_ret (pc := 68) dX4_passOn_68 trivial rfl

/-- X4_step -/
def P_X4_step (a : Nat) (g : mg_F) : mo := bd (P_X4_isUp a g) fun r1 g2 => if sv r1 = 0 then (some (4294967295, g2)) else (ck (a < 24) <| bd (P_X4_canPassOn a g2) fun r5 g6 => if sv r5 = 0 then (bd (P_X3_pointsAway a g6) fun r8 g9 => if sv r8 = 0 then (some (0, g9)) else (if sv (g9 2 a 2) = 0 then (some (0, g9)) else (if sv (g9 3 a 3) = 0 then (bd (P_X4_ask a g9) fun _ g20 => some (2, g20)) else (if sv (g9 4 0 7) = sv 2 then (bd (P_X2_greatestRank a g9) fun r14 g15 => if sv (g15 3 a 4) < sv r14 then (bd (P_X4_ask a g15) fun _ g18 => some (3, g18)) else (some (0, g15))) else (some (0, g9)))))) else (bd (P_X4_passOn a g6) fun _ g22 => some (1, g22)))
theorem p_X4_step {l : Launch} {Z : mg_Zt} {a : Nat} {g : mg_F} : ∀ (r : Nat) (g' : mg_F), P_X4_step a g = some (r, g') → mg_C l Z mX4_step [rv Z 4 0, iv a] g (mp mX4_step r g') := by
  refine mC_of (by decide) rfl (Nat.le_of_ble_eq_true rfl) (List.forall_mem_cons.mpr ⟨rfl, (List.forall_mem_cons.mpr ⟨rfl, (fun _ h => nomatch h)⟩)⟩) (fun K => ?_)
  unfold P_X4_step
  refine j_lift (fun _ k => g_aload_n (pc := 0) dX4_step_0 rfl k) ?_
  refine j_lift (fun _ k => g_iload_n (pc := 1) dX4_step_1 rfl k) ?_
  refine j_callVi (pc := 2) (Y' := mX4_isUp) (As := [iv a]) (st := []) (k := 4) (i := 0) (p_X4_isUp) gX4_step_X4_isUp rfl (show 0 < 1 by omega) rfl rfl (na := 1) rfl (by decide +kernel) (by decide) (by decide) (Nat.le_of_ble_eq_true rfl) dX4_step_2 (fun r1 g2 => ?_)
  refine j_if_ne (pc := 5) 10 dX4_step_5 (by decide) (fun h3 => ?_) (fun h3 => ?_)
  · refine j_lift (fun _ k => g_aload_n (pc := 10) dX4_step_10 rfl k) ?_
    refine j_lift (fun _ k => fg_X4_step_18 (pc := 11) dX4_step_11 k) ?_
    refine j_lift (fun _ k => g_iload_n (pc := 14) dX4_step_14 rfl k) ?_
    refine j_ck (fun c4 => ?_)
    refine j_lift (fun _ k => g_aastation (pc := 15) (a := a) c4 dX4_step_15 k) ?_
    refine j_lift (fun _ k => g_astore_n (pc := 16) (ls' := [rv Z 4 0, iv a, rv Z 3 a]) dX4_step_16 (Nat.le_of_ble_eq_true rfl) (Nat.le_of_ble_eq_true rfl) rfl k) ?_
    refine j_lift (fun _ k => g_aload_n (pc := 17) dX4_step_17 rfl k) ?_
    refine j_lift (fun _ k => g_aload_n (pc := 18) dX4_step_18 rfl k) ?_
    refine j_callVi (pc := 19) (Y' := mX4_canPassOn) (As := [rv Z 3 a]) (st := []) (k := 4) (i := 0) (p_X4_canPassOn c4) gX4_step_X4_canPassOn rfl (show 0 < 1 by omega) rfl rfl (na := 1) rfl (by decide +kernel) (by decide) (by decide) (Nat.le_of_ble_eq_true rfl) dX4_step_19 (fun r5 g6 => ?_)
    refine j_if_eq (pc := 22) 32 dX4_step_22 (by decide) (fun h7 => ?_) (fun h7 => ?_)
    · refine j_lift (fun _ k => g_aload_n (pc := 32) dX4_step_32 rfl k) ?_
      refine j_callVi (pc := 33) (Y' := mX3_pointsAway) (As := []) (st := []) (k := 3) (i := a) (p_X3_pointsAway c4) gX4_step_X3_pointsAway rfl c4 rfl rfl (na := 0) rfl (by decide +kernel) (by decide) (by decide) (Nat.le_of_ble_eq_true rfl) dX4_step_33 (fun r8 g9 => ?_)
      refine j_if_eq (pc := 36) 49 dX4_step_36 (by decide) (fun h10 => ?_) (fun h10 => ?_)
      · refine j_lift (fun _ k => g_iconst (pc := 49) (v := 0) dX4_step_49 (by decide +kernel) k) ?_
        exact j_iret (pc := 50) dX4_step_50 ⟨mg_narI _, Or.inl rfl⟩ rfl
      · refine j_lift (fun _ k => g_aload_n (pc := 39) dX4_step_39 rfl k) ?_
        refine j_lift (fun _ k => fg_X4_step_118 (pc := 40) c4 dX4_step_40 k) ?_
        refine j_lift (fun _ k => fg_X4_step_133 (pc := 43) c4 dX4_step_43 k) ?_
        refine j_if_ne (pc := 46) 51 dX4_step_46 (by decide) (fun h11 => ?_) (fun h11 => ?_)
        · refine j_lift (fun _ k => g_aload_n (pc := 51) dX4_step_51 rfl k) ?_
          refine j_lift (fun _ k => fg_X4_step_178 (pc := 52) c4 dX4_step_52 k) ?_
          refine j_if_ne (pc := 55) 65 dX4_step_55 (by decide) (fun h12 => ?_) (fun h12 => ?_)
          · refine j_lift (fun _ k => g_aload_n (pc := 65) dX4_step_65 rfl k) ?_
            refine j_lift (fun _ k => fg_X4_step_85 (pc := 66) dX4_step_66 k) ?_
            refine j_lift (fun _ k => g_iconst (pc := 69) (v := 2) dX4_step_69 (by decide +kernel) k) ?_
            refine j_icmp_ne (pc := 70) 94 dX4_step_70 (by decide) (fun h13 => ?_) (fun h13 => ?_)
            · refine j_lift (fun _ k => g_iconst (pc := 94) (v := 0) dX4_step_94 (by decide +kernel) k) ?_
              exact j_iret (pc := 95) dX4_step_95 ⟨mg_narI _, Or.inl rfl⟩ rfl
            · refine j_lift (fun _ k => g_aload_n (pc := 73) dX4_step_73 rfl k) ?_
              refine j_lift (fun _ k => fg_X4_step_118 (pc := 74) c4 dX4_step_74 k) ?_
              refine j_callVi (pc := 77) (Y' := mX2_greatestRank) (As := []) (st := []) (k := 2) (i := a) (p_X2_greatestRank c4) gX4_step_X2_greatestRank rfl c4 rfl rfl (na := 0) rfl (by decide +kernel) (by decide) (by decide) (Nat.le_of_ble_eq_true rfl) dX4_step_77 (fun r14 g15 => ?_)
              refine j_lift (fun _ k => g_aload_n (pc := 80) dX4_step_80 rfl k) ?_
              refine j_lift (fun _ k => fg_X4_step_187 (pc := 81) c4 dX4_step_81 k) ?_
              refine j_icmp_le (pc := 84) 94 dX4_step_84 (by decide) (fun h16 => ?_) (fun h16 => ?_)
              · refine j_lift (fun _ k => g_iconst (pc := 94) (v := 0) dX4_step_94 (by decide +kernel) k) ?_
                exact j_iret (pc := 95) dX4_step_95 ⟨mg_narI _, Or.inl rfl⟩ rfl
              · refine j_lift (fun _ k => g_aload_n (pc := 87) dX4_step_87 rfl k) ?_
                refine j_lift (fun _ k => g_aload_n (pc := 88) dX4_step_88 rfl k) ?_
                refine j_callVv (pc := 89) (Y' := mX4_ask) (As := [rv Z 3 a]) (st := []) (k := 4) (i := 0) (p_X4_ask c4) gX4_step_X4_ask rfl (show 0 < 1 by omega) rfl rfl (na := 1) rfl (by decide +kernel) (by decide) (by decide) (Nat.le_of_ble_eq_true rfl) dX4_step_89 (fun _ g18 => ?_)
                refine j_lift (fun _ k => g_iconst (pc := 92) (v := 3) dX4_step_92 (by decide +kernel) k) ?_
                exact j_iret (pc := 93) dX4_step_93 ⟨mg_narI _, Or.inl rfl⟩ rfl
          · refine j_lift (fun _ k => g_aload_n (pc := 58) dX4_step_58 rfl k) ?_
            refine j_lift (fun _ k => g_aload_n (pc := 59) dX4_step_59 rfl k) ?_
            refine j_callVv (pc := 60) (Y' := mX4_ask) (As := [rv Z 3 a]) (st := []) (k := 4) (i := 0) (p_X4_ask c4) gX4_step_X4_ask rfl (show 0 < 1 by omega) rfl rfl (na := 1) rfl (by decide +kernel) (by decide) (by decide) (Nat.le_of_ble_eq_true rfl) dX4_step_60 (fun _ g20 => ?_)
            refine j_lift (fun _ k => g_iconst (pc := 63) (v := 2) dX4_step_63 (by decide +kernel) k) ?_
            exact j_iret (pc := 64) dX4_step_64 ⟨mg_narI _, Or.inl rfl⟩ rfl
        · refine j_lift (fun _ k => g_iconst (pc := 49) (v := 0) dX4_step_49 (by decide +kernel) k) ?_
          exact j_iret (pc := 50) dX4_step_50 ⟨mg_narI _, Or.inl rfl⟩ rfl
    · refine j_lift (fun _ k => g_aload_n (pc := 25) dX4_step_25 rfl k) ?_
      refine j_lift (fun _ k => g_aload_n (pc := 26) dX4_step_26 rfl k) ?_
      refine j_callVv (pc := 27) (Y' := mX4_passOn) (As := [rv Z 3 a]) (st := []) (k := 4) (i := 0) (p_X4_passOn c4) gX4_step_X4_passOn rfl (show 0 < 1 by omega) rfl rfl (na := 1) rfl (by decide +kernel) (by decide) (by decide) (Nat.le_of_ble_eq_true rfl) dX4_step_27 (fun _ g22 => ?_)
      refine j_lift (fun _ k => g_iconst (pc := 30) (v := 1) dX4_step_30 (by decide +kernel) k) ?_
      exact j_iret (pc := 31) dX4_step_31 ⟨mg_narI _, Or.inl rfl⟩ rfl
  · refine j_lift (fun _ k => g_iconst (pc := 8) (v := 4294967295) dX4_step_8 (by decide +kernel) k) ?_
    exact j_iret (pc := 9) dX4_step_9 ⟨mg_narI _, Or.inl rfl⟩ rfl

