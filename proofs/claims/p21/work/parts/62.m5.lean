/-! ===== the programs of the methods, 5 ===== -/
/-- X5_want -/
def P_X5_want (a b : Nat) (g : mg_F) : mo := bd (P_X5_isUp a g) fun r1 g2 => if sv r1 = 0 then (some (4294967295, g2)) else (if sv b < 0 then (some (4294967295, g2)) else (if sv 100 < sv b then (some (4294967295, g2)) else (ck (a < 24) <| if sv (g2 38 0 a) = 0 then (bd (P_X5_placeOf a a g2) fun r8 g9 => if sv r8 < 0 then (bd (P_X5_come a a b g9) fun _ g12 => wr (mg_up g12 43 0 a 0) fun g13 => some (g13 46 0 a, g13)) else (some (4294967295, g9))) else (some (4294967295, g2)))))
theorem p_X5_want {l : Launch} {Z : mg_Zt} {a b : Nat} {g : mg_F} (hb : Z.2.2.1 = true) : ∀ (r : Nat) (g' : mg_F), P_X5_want a b g = some (r, g') → mg_C l Z mX5_want [rv Z 5 0, iv a, iv b] g (mp mX5_want r g') := by
  refine mC_of (by decide) rfl (Nat.le_of_ble_eq_true rfl) (List.forall_mem_cons.mpr ⟨rfl, (List.forall_mem_cons.mpr ⟨rfl, (List.forall_mem_cons.mpr ⟨rfl, (fun _ h => nomatch h)⟩)⟩)⟩) (fun K => ?_)
  unfold P_X5_want
  refine j_lift (fun _ k => g_aload_n (pc := 0) dX5_want_0 rfl k) ?_
  refine j_lift (fun _ k => g_iload_n (pc := 1) dX5_want_1 rfl k) ?_
  refine j_callVi (pc := 2) (Y' := mX5_isUp) (As := [iv a]) (st := []) (k := 5) (i := 0) (p_X5_isUp hb) gX5_want_X5_isUp rfl (by rw [hb]; decide) rfl rfl (na := 1) rfl (by decide +kernel) (by decide) (by decide) (Nat.le_of_ble_eq_true rfl) dX5_want_2 (fun r1 g2 => ?_)
  refine j_if_eq (pc := 5) 36 dX5_want_5 (by decide) (fun h3 => ?_) (fun h3 => ?_)
  · refine j_lift (fun _ k => g_iconst (pc := 36) (v := 4294967295) dX5_want_36 (by decide +kernel) k) ?_
    exact j_iret (pc := 37) dX5_want_37 ⟨mg_narI _, Or.inl rfl⟩ rfl
  · refine j_lift (fun _ k => g_iload_n (pc := 8) dX5_want_8 rfl k) ?_
    refine j_if_lt (pc := 9) 36 dX5_want_9 (by decide) (fun h4 => ?_) (fun h4 => ?_)
    · refine j_lift (fun _ k => g_iconst (pc := 36) (v := 4294967295) dX5_want_36 (by decide +kernel) k) ?_
      exact j_iret (pc := 37) dX5_want_37 ⟨mg_narI _, Or.inl rfl⟩ rfl
    · refine j_lift (fun _ k => g_iload_n (pc := 12) dX5_want_12 rfl k) ?_
      refine j_lift (fun _ k => g_bipush (pc := 13) (v := 100) dX5_want_13 (by decide +kernel) k) ?_
      refine j_icmp_gt (pc := 15) 36 dX5_want_15 (by decide) (fun h5 => ?_) (fun h5 => ?_)
      · refine j_lift (fun _ k => g_iconst (pc := 36) (v := 4294967295) dX5_want_36 (by decide +kernel) k) ?_
        exact j_iret (pc := 37) dX5_want_37 ⟨mg_narI _, Or.inl rfl⟩ rfl
      · refine j_lift (fun _ k => g_aload_n (pc := 18) dX5_want_18 rfl k) ?_
        refine j_lift (fun _ k => fg_X5_want_20 (pc := 19) hb dX5_want_19 k) ?_
        refine j_lift (fun _ k => g_iload_n (pc := 22) dX5_want_22 rfl k) ?_
        refine j_ck (fun c6 => ?_)
        refine j_lift (fun _ k => g_baload (pc := 23) (k := 38) (i := 0) (n := 24) (by rw [hb]; decide) rfl (by decide) c6 dX5_want_23 k) ?_
        refine j_if_ne (pc := 24) 36 dX5_want_24 (by decide) (fun h7 => ?_) (fun h7 => ?_)
        · refine j_lift (fun _ k => g_iconst (pc := 36) (v := 4294967295) dX5_want_36 (by decide +kernel) k) ?_
          exact j_iret (pc := 37) dX5_want_37 ⟨mg_narI _, Or.inl rfl⟩ rfl
        · refine j_lift (fun _ k => g_aload_n (pc := 27) dX5_want_27 rfl k) ?_
          refine j_lift (fun _ k => g_iload_n (pc := 28) dX5_want_28 rfl k) ?_
          refine j_lift (fun _ k => g_iload_n (pc := 29) dX5_want_29 rfl k) ?_
          refine j_callVi (pc := 30) (Y' := mX5_placeOf) (As := [iv a, iv a]) (st := []) (k := 5) (i := 0) (p_X5_placeOf hb) gX5_want_X5_placeOf rfl (by rw [hb]; decide) rfl rfl (na := 2) rfl (by decide +kernel) (by decide) (by decide) (Nat.le_of_ble_eq_true rfl) dX5_want_30 (fun r8 g9 => ?_)
          refine j_if_lt (pc := 33) 38 dX5_want_33 (by decide) (fun h10 => ?_) (fun h10 => ?_)
          · refine j_lift (fun _ k => g_aload_n (pc := 38) dX5_want_38 rfl k) ?_
            refine j_lift (fun _ k => g_iload_n (pc := 39) dX5_want_39 rfl k) ?_
            refine j_lift (fun _ k => g_iload_n (pc := 40) dX5_want_40 rfl k) ?_
            refine j_lift (fun _ k => g_iload_n (pc := 41) dX5_want_41 rfl k) ?_
            refine j_callVv (pc := 42) (Y' := mX5_come) (As := [iv a, iv a, iv b]) (st := []) (k := 5) (i := 0) (p_X5_come hb) gX5_want_X5_come rfl (by rw [hb]; decide) rfl rfl (na := 3) rfl (by decide +kernel) (by decide) (by decide) (Nat.le_of_ble_eq_true rfl) dX5_want_42 (fun _ g12 => ?_)
            refine j_lift (fun _ k => g_aload_n (pc := 45) dX5_want_45 rfl k) ?_
            refine j_lift (fun _ k => fg_X5_want_35 (pc := 46) hb dX5_want_46 k) ?_
            refine j_lift (fun _ k => g_iload_n (pc := 49) dX5_want_49 rfl k) ?_
            refine j_lift (fun _ k => g_iconst (pc := 50) (v := 0) dX5_want_50 (by decide +kernel) k) ?_
            refine j_w (fun _ k => g_iastore (pc := 51) (k := 43) (i := 0) (n := 24) (by rw [hb]; decide) (fun _ => rfl) (by decide) c6 dX5_want_51 k) (fun g13 => ?_)
            refine j_lift (fun _ k => g_aload_n (pc := 52) dX5_want_52 rfl k) ?_
            refine j_lift (fun _ k => fg_X5_want_41 (pc := 53) hb dX5_want_53 k) ?_
            refine j_lift (fun _ k => g_iload_n (pc := 56) dX5_want_56 rfl k) ?_
            refine j_lift (fun _ k => g_iaload (pc := 57) (k := 46) (i := 0) (n := 24) (by rw [hb]; decide) rfl (by decide) c6 dX5_want_57 k) ?_
            exact j_iret (pc := 58) dX5_want_58 ⟨mg_narI _, Or.inl rfl⟩ rfl
          · refine j_lift (fun _ k => g_iconst (pc := 36) (v := 4294967295) dX5_want_36 (by decide +kernel) k) ?_
            exact j_iret (pc := 37) dX5_want_37 ⟨mg_narI _, Or.inl rfl⟩ rfl

/-- X5_begin -/
def L_X5_begin_133 (a1 a2 : Nat) (k : Nat → mg_F → mo) : Nat → Nat → mg_F → mo
  | 0, _, _ => none
  | n + 1, v3, g => if sv v3 < sv (g 5 0 0) then (ck (v3 < 24) <| jn (α := Nat) (fun x6 g7 => wr (mg_up g7 43 0 v3 ((g 43 0 v3) + x6)) fun g8 => L_X5_begin_133 a1 a2 k n (v3 + 1) g8) fun kj4 => if sv v3 = sv a1 then (kj4 0 g) else (bd (P_X5_placeOf v3 v3 g) fun r9 g10 => if sv r9 < 0 then (kj4 0 g10) else (kj4 1 g10))) else (k v3 g)
theorem l_X5_begin_133 {K : mg_Kt} {Z : mg_Zt} (hb : Z.2.2.1 = true) {a1 a2 : Nat} (ha1 : a1 < 24) {k : Nat → mg_F → mo} (hk : ∀ (v3 : Nat) (g : mg_F), mj K Z mX5_begin (k v3 g) 175 [rv Z 5 0, iv a1, iv a2, iv v3] [] g) : ∀ (n : Nat) (v3 : Nat) (g : mg_F), mj K Z mX5_begin (L_X5_begin_133 a1 a2 k n v3 g) 133 [rv Z 5 0, iv a1, iv a2, iv v3] [] g := by
  intro n
  induction n with
  | zero => intro _ _; exact j_none
  | succ n ih =>
    intro v3 g
    unfold L_X5_begin_133
    refine j_lift (fun _ k => g_iload_n (pc := 133) dX5_begin_133 rfl k) ?_
    refine j_lift (fun _ k => g_aload_n (pc := 134) dX5_begin_134 rfl k) ?_
    refine j_lift (fun _ k => fg_X5_begin_101 (pc := 135) hb dX5_begin_135 k) ?_
    refine j_icmp_ge (pc := 138) 175 dX5_begin_138 (by decide) (fun h1 => ?_) (fun h1 => ?_)
    · exact hk v3 g
    · refine j_lift (fun _ k => g_aload_n (pc := 141) dX5_begin_141 rfl k) ?_
      refine j_lift (fun _ k => fg_X5_begin_35 (pc := 142) hb dX5_begin_142 k) ?_
      refine j_lift (fun _ k => g_iload_n (pc := 145) dX5_begin_145 rfl k) ?_
      refine j_lift (fun _ k => g_dup2 (pc := 146) dX5_begin_146 rfl rfl k) ?_
      refine j_ck (fun c2 => ?_)
      refine j_lift (fun _ k => g_iaload (pc := 147) (k := 43) (i := 0) (n := 24) (by rw [hb]; decide) rfl (by decide) c2 dX5_begin_147 k) ?_
      refine j_lift (fun _ k => g_iload_n (pc := 148) dX5_begin_148 rfl k) ?_
      refine j_lift (fun _ k => g_iload_n (pc := 149) dX5_begin_149 rfl k) ?_
      refine j_jn (α := Nat) 167 (fun x6 => [rv Z 5 0, iv a1, iv a2, iv v3]) (fun x6 => [iv x6, iv (g 43 0 v3), iv v3, rv Z 43 0]) (fun x6 g7 => ?_) (fun kj4 hk5 => ?_)
      · refine j_lift (fun _ k => g_iadd (pc := 167) (a := g 43 0 v3) (b := x6) dX5_begin_167 k) ?_
        refine j_w (fun _ k => g_iastore (pc := 168) (k := 43) (i := 0) (n := 24) (by rw [hb]; decide) (fun _ => rfl) (by decide) c2 dX5_begin_168 k) (fun g8 => ?_)
        refine j_lift (fun _ k => g_iinc (pc := 169) (v := v3 + 1) (ls' := [rv Z 5 0, iv a1, iv a2, iv (v3 + 1)]) dX5_begin_169 (Nat.le_of_ble_eq_true rfl) rfl (mg_inc _) rfl k) ?_
        refine j_lift (fun _ k => g_goto (pc := 172) 133 dX5_begin_172 (by decide) k) ?_
        exact ih (v3 + 1) g8
      · refine j_icmp_eq (pc := 150) 166 dX5_begin_150 (by decide) (fun h3 => ?_) (fun h3 => ?_)
        · refine j_lift (fun _ k => g_iconst (pc := 166) (v := 0) dX5_begin_166 (by decide +kernel) k) ?_
          exact hk5 0 g
        · refine j_lift (fun _ k => g_aload_n (pc := 153) dX5_begin_153 rfl k) ?_
          refine j_lift (fun _ k => g_iload_n (pc := 154) dX5_begin_154 rfl k) ?_
          refine j_lift (fun _ k => g_iload_n (pc := 155) dX5_begin_155 rfl k) ?_
          refine j_callVi (pc := 156) (Y' := mX5_placeOf) (As := [iv v3, iv v3]) (st := [iv (g 43 0 v3), iv v3, rv Z 43 0]) (k := 5) (i := 0) (p_X5_placeOf hb) gX5_begin_X5_placeOf rfl (by rw [hb]; decide) rfl rfl (na := 2) rfl (by decide +kernel) (by decide) (by decide) (Nat.le_of_ble_eq_true rfl) dX5_begin_156 (fun r9 g10 => ?_)
          refine j_if_lt (pc := 159) 166 dX5_begin_159 (by decide) (fun h11 => ?_) (fun h11 => ?_)
          · refine j_lift (fun _ k => g_iconst (pc := 166) (v := 0) dX5_begin_166 (by decide +kernel) k) ?_
            exact hk5 0 g10
          · refine j_lift (fun _ k => g_iconst (pc := 162) (v := 1) dX5_begin_162 (by decide +kernel) k) ?_
            refine j_lift (fun _ k => g_goto (pc := 163) 167 dX5_begin_163 (by decide) k) ?_
            exact hk5 1 g10
def P_X5_begin (a : Nat) (g : mg_F) : mo := bd (P_X5_isUp a g) fun r1 g2 => if sv r1 = 0 then (some (4294967295, g2)) else (ck (a < 24) <| if sv (g2 36 0 a) = sv a then (if sv (g2 38 0 a) = 0 then (if sv (g2 46 0 a) = 0 then (some (4294967294, g2)) else (bd (P_X5_firstOf a g2) fun r8 g9 => bd (P_X5_entry a r8 g9) fun r10 g11 => ck (r10 < 576) <| if sv (g11 47 0 r10) = sv a then (bd (P_X5_placeOf a a g11) fun r14 g15 => jn (α := Nat) (fun x19 g20 => wr (mg_up g20 44 0 a ((g15 44 0 a) + x19)) fun g21 => bd (P_X5_leave a r14 g21) fun _ g23 => jn (α := Nat) (fun x27 g28 => wr (mg_up g28 40 0 a ((g23 40 0 a) + x27)) fun g29 => wr (mg_up g29 38 0 a 1) fun g30 => wr (mg_up g30 5 0 15 ((g30 5 0 15) + 1)) fun g31 => L_X5_begin_133 a r14 (fun w32 g33 => some (0, g33)) 4000 0 g31) fun kj25 => if 0 < sv (g23 46 0 a) then (kj25 1 g23) else (kj25 0 g23)) fun kj17 => if 0 < sv r14 then (kj17 1 g15) else (kj17 0 g15)) else (some (4294967294, g11)))) else (some (4294967294, g2))) else (some (4294967294, g2)))
theorem p_X5_begin {l : Launch} {Z : mg_Zt} {a : Nat} {g : mg_F} (hb : Z.2.2.1 = true) : ∀ (r : Nat) (g' : mg_F), P_X5_begin a g = some (r, g') → mg_C l Z mX5_begin [rv Z 5 0, iv a] g (mp mX5_begin r g') := by
  refine mC_of (by decide) rfl (Nat.le_of_ble_eq_true rfl) (List.forall_mem_cons.mpr ⟨rfl, (List.forall_mem_cons.mpr ⟨rfl, (fun _ h => nomatch h)⟩)⟩) (fun K => ?_)
  unfold P_X5_begin
  refine j_lift (fun _ k => g_aload_n (pc := 0) dX5_begin_0 rfl k) ?_
  refine j_lift (fun _ k => g_iload_n (pc := 1) dX5_begin_1 rfl k) ?_
  refine j_callVi (pc := 2) (Y' := mX5_isUp) (As := [iv a]) (st := []) (k := 5) (i := 0) (p_X5_isUp hb) gX5_begin_X5_isUp rfl (by rw [hb]; decide) rfl rfl (na := 1) rfl (by decide +kernel) (by decide) (by decide) (Nat.le_of_ble_eq_true rfl) dX5_begin_2 (fun r1 g2 => ?_)
  refine j_if_ne (pc := 5) 10 dX5_begin_5 (by decide) (fun h3 => ?_) (fun h3 => ?_)
  · refine j_lift (fun _ k => g_aload_n (pc := 10) dX5_begin_10 rfl k) ?_
    refine j_lift (fun _ k => fg_X5_begin_13 (pc := 11) hb dX5_begin_11 k) ?_
    refine j_lift (fun _ k => g_iload_n (pc := 14) dX5_begin_14 rfl k) ?_
    refine j_ck (fun c4 => ?_)
    refine j_lift (fun _ k => g_iaload (pc := 15) (k := 36) (i := 0) (n := 24) (by rw [hb]; decide) rfl (by decide) c4 dX5_begin_15 k) ?_
    refine j_lift (fun _ k => g_iload_n (pc := 16) dX5_begin_16 rfl k) ?_
    refine j_icmp_ne (pc := 17) 57 dX5_begin_17 (by decide) (fun h5 => ?_) (fun h5 => ?_)
    · refine j_lift (fun _ k => g_bipush (pc := 57) (v := 4294967294) dX5_begin_57 (by decide +kernel) k) ?_
      exact j_iret (pc := 59) dX5_begin_59 ⟨mg_narI _, Or.inl rfl⟩ rfl
    · refine j_lift (fun _ k => g_aload_n (pc := 20) dX5_begin_20 rfl k) ?_
      refine j_lift (fun _ k => fg_X5_begin_20 (pc := 21) hb dX5_begin_21 k) ?_
      refine j_lift (fun _ k => g_iload_n (pc := 24) dX5_begin_24 rfl k) ?_
      refine j_lift (fun _ k => g_baload (pc := 25) (k := 38) (i := 0) (n := 24) (by rw [hb]; decide) rfl (by decide) c4 dX5_begin_25 k) ?_
      refine j_if_ne (pc := 26) 57 dX5_begin_26 (by decide) (fun h6 => ?_) (fun h6 => ?_)
      · refine j_lift (fun _ k => g_bipush (pc := 57) (v := 4294967294) dX5_begin_57 (by decide +kernel) k) ?_
        exact j_iret (pc := 59) dX5_begin_59 ⟨mg_narI _, Or.inl rfl⟩ rfl
      · refine j_lift (fun _ k => g_aload_n (pc := 29) dX5_begin_29 rfl k) ?_
        refine j_lift (fun _ k => fg_X5_begin_41 (pc := 30) hb dX5_begin_30 k) ?_
        refine j_lift (fun _ k => g_iload_n (pc := 33) dX5_begin_33 rfl k) ?_
        refine j_lift (fun _ k => g_iaload (pc := 34) (k := 46) (i := 0) (n := 24) (by rw [hb]; decide) rfl (by decide) c4 dX5_begin_34 k) ?_
        refine j_if_eq (pc := 35) 57 dX5_begin_35 (by decide) (fun h7 => ?_) (fun h7 => ?_)
        · refine j_lift (fun _ k => g_bipush (pc := 57) (v := 4294967294) dX5_begin_57 (by decide +kernel) k) ?_
          exact j_iret (pc := 59) dX5_begin_59 ⟨mg_narI _, Or.inl rfl⟩ rfl
        · refine j_lift (fun _ k => g_aload_n (pc := 38) dX5_begin_38 rfl k) ?_
          refine j_lift (fun _ k => fg_X5_begin_44 (pc := 39) hb dX5_begin_39 k) ?_
          refine j_lift (fun _ k => g_aload_n (pc := 42) dX5_begin_42 rfl k) ?_
          refine j_lift (fun _ k => g_iload_n (pc := 43) dX5_begin_43 rfl k) ?_
          refine j_lift (fun _ k => g_aload_n (pc := 44) dX5_begin_44 rfl k) ?_
          refine j_lift (fun _ k => g_iload_n (pc := 45) dX5_begin_45 rfl k) ?_
          refine j_callVi (pc := 46) (Y' := mX5_firstOf) (As := [iv a]) (st := [iv a, rv Z 5 0, rv Z 47 0]) (k := 5) (i := 0) (p_X5_firstOf hb) gX5_begin_X5_firstOf rfl (by rw [hb]; decide) rfl rfl (na := 1) rfl (by decide +kernel) (by decide) (by decide) (Nat.le_of_ble_eq_true rfl) dX5_begin_46 (fun r8 g9 => ?_)
          refine j_callVi (pc := 49) (Y' := mX5_entry) (As := [iv a, iv r8]) (st := [rv Z 47 0]) (k := 5) (i := 0) (p_X5_entry hb) gX5_begin_X5_entry rfl (by rw [hb]; decide) rfl rfl (na := 2) rfl (by decide +kernel) (by decide) (by decide) (Nat.le_of_ble_eq_true rfl) dX5_begin_49 (fun r10 g11 => ?_)
          refine j_ck (fun c12 => ?_)
          refine j_lift (fun _ k => g_iaload (pc := 52) (k := 47) (i := 0) (n := 576) (by rw [hb]; decide) rfl (by decide) c12 dX5_begin_52 k) ?_
          refine j_lift (fun _ k => g_iload_n (pc := 53) dX5_begin_53 rfl k) ?_
          refine j_icmp_eq (pc := 54) 60 dX5_begin_54 (by decide) (fun h13 => ?_) (fun h13 => ?_)
          · refine j_lift (fun _ k => g_aload_n (pc := 60) dX5_begin_60 rfl k) ?_
            refine j_lift (fun _ k => g_iload_n (pc := 61) dX5_begin_61 rfl k) ?_
            refine j_lift (fun _ k => g_iload_n (pc := 62) dX5_begin_62 rfl k) ?_
            refine j_callVi (pc := 63) (Y' := mX5_placeOf) (As := [iv a, iv a]) (st := []) (k := 5) (i := 0) (p_X5_placeOf hb) gX5_begin_X5_placeOf rfl (by rw [hb]; decide) rfl rfl (na := 2) rfl (by decide +kernel) (by decide) (by decide) (Nat.le_of_ble_eq_true rfl) dX5_begin_63 (fun r14 g15 => ?_)
            refine j_lift (fun _ k => g_istore_n (pc := 66) (ls' := [rv Z 5 0, iv a, iv r14]) dX5_begin_66 (Nat.le_of_ble_eq_true rfl) (Nat.le_of_ble_eq_true rfl) rfl k) ?_
            refine j_lift (fun _ k => g_aload_n (pc := 67) dX5_begin_67 rfl k) ?_
            refine j_lift (fun _ k => fg_X5_begin_38 (pc := 68) hb dX5_begin_68 k) ?_
            refine j_lift (fun _ k => g_iload_n (pc := 71) dX5_begin_71 rfl k) ?_
            refine j_lift (fun _ k => g_dup2 (pc := 72) dX5_begin_72 rfl rfl k) ?_
            refine j_lift (fun _ k => g_iaload (pc := 73) (k := 44) (i := 0) (n := 24) (by rw [hb]; decide) rfl (by decide) c4 dX5_begin_73 k) ?_
            refine j_lift (fun _ k => g_iload_n (pc := 74) dX5_begin_74 rfl k) ?_
            refine j_jn (α := Nat) 83 (fun x19 => [rv Z 5 0, iv a, iv r14]) (fun x19 => [iv x19, iv (g15 44 0 a), iv a, rv Z 44 0]) (fun x19 g20 => ?_) (fun kj17 hk18 => ?_)
            · refine j_lift (fun _ k => g_iadd (pc := 83) (a := g15 44 0 a) (b := x19) dX5_begin_83 k) ?_
              refine j_w (fun _ k => g_iastore (pc := 84) (k := 44) (i := 0) (n := 24) (by rw [hb]; decide) (fun _ => rfl) (by decide) c4 dX5_begin_84 k) (fun g21 => ?_)
              refine j_lift (fun _ k => g_aload_n (pc := 85) dX5_begin_85 rfl k) ?_
              refine j_lift (fun _ k => g_iload_n (pc := 86) dX5_begin_86 rfl k) ?_
              refine j_lift (fun _ k => g_iload_n (pc := 87) dX5_begin_87 rfl k) ?_
              refine j_callVv (pc := 88) (Y' := mX5_leave) (As := [iv a, iv r14]) (st := []) (k := 5) (i := 0) (p_X5_leave hb) gX5_begin_X5_leave rfl (by rw [hb]; decide) rfl rfl (na := 2) rfl (by decide +kernel) (by decide) (by decide) (Nat.le_of_ble_eq_true rfl) dX5_begin_88 (fun _ g23 => ?_)
              refine j_lift (fun _ k => g_aload_n (pc := 91) dX5_begin_91 rfl k) ?_
              refine j_lift (fun _ k => fg_X5_begin_26 (pc := 92) hb dX5_begin_92 k) ?_
              refine j_lift (fun _ k => g_iload_n (pc := 95) dX5_begin_95 rfl k) ?_
              refine j_lift (fun _ k => g_dup2 (pc := 96) dX5_begin_96 rfl rfl k) ?_
              refine j_lift (fun _ k => g_iaload (pc := 97) (k := 40) (i := 0) (n := 24) (by rw [hb]; decide) rfl (by decide) c4 dX5_begin_97 k) ?_
              refine j_lift (fun _ k => g_aload_n (pc := 98) dX5_begin_98 rfl k) ?_
              refine j_lift (fun _ k => fg_X5_begin_41 (pc := 99) hb dX5_begin_99 k) ?_
              refine j_lift (fun _ k => g_iload_n (pc := 102) dX5_begin_102 rfl k) ?_
              refine j_lift (fun _ k => g_iaload (pc := 103) (k := 46) (i := 0) (n := 24) (by rw [hb]; decide) rfl (by decide) c4 dX5_begin_103 k) ?_
              refine j_jn (α := Nat) 112 (fun x27 => [rv Z 5 0, iv a, iv r14]) (fun x27 => [iv x27, iv (g23 40 0 a), iv a, rv Z 40 0]) (fun x27 g28 => ?_) (fun kj25 hk26 => ?_)
              · refine j_lift (fun _ k => g_iadd (pc := 112) (a := g23 40 0 a) (b := x27) dX5_begin_112 k) ?_
                refine j_w (fun _ k => g_iastore (pc := 113) (k := 40) (i := 0) (n := 24) (by rw [hb]; decide) (fun _ => rfl) (by decide) c4 dX5_begin_113 k) (fun g29 => ?_)
                refine j_lift (fun _ k => g_aload_n (pc := 114) dX5_begin_114 rfl k) ?_
                refine j_lift (fun _ k => fg_X5_begin_20 (pc := 115) hb dX5_begin_115 k) ?_
                refine j_lift (fun _ k => g_iload_n (pc := 118) dX5_begin_118 rfl k) ?_
                refine j_lift (fun _ k => g_iconst (pc := 119) (v := 1) dX5_begin_119 (by decide +kernel) k) ?_
                refine j_w (fun _ k => g_bastore (pc := 120) (k := 38) (i := 0) (n := 24) (by rw [hb]; decide) (fun _ => rfl) (by decide) c4 (by decide) dX5_begin_120 k) (fun g30 => ?_)
                refine j_lift (fun _ k => g_aload_n (pc := 121) dX5_begin_121 rfl k) ?_
                refine j_lift (fun _ k => g_dup (pc := 122) dX5_begin_122 rfl k) ?_
                refine j_lift (fun _ k => fg_X5_begin_130 (pc := 123) hb dX5_begin_123 k) ?_
                refine j_lift (fun _ k => g_iconst (pc := 126) (v := 1) dX5_begin_126 (by decide +kernel) k) ?_
                refine j_lift (fun _ k => g_iadd (pc := 127) (a := g30 5 0 15) (b := 1) dX5_begin_127 k) ?_
                refine j_w (fun _ k => fp_X5_begin_130 (pc := 128) hb dX5_begin_128 k) (fun g31 => ?_)
                refine j_lift (fun _ k => g_iconst (pc := 131) (v := 0) dX5_begin_131 (by decide +kernel) k) ?_
                refine j_lift (fun _ k => g_istore_n (pc := 132) (ls' := [rv Z 5 0, iv a, iv r14, iv 0]) dX5_begin_132 (Nat.le_of_ble_eq_true rfl) (Nat.le_of_ble_eq_true rfl) rfl k) ?_
                refine l_X5_begin_133 hb c4 (fun w32 g33 => ?_) 4000 0 g31
                refine j_lift (fun _ k => g_iconst (pc := 175) (v := 0) dX5_begin_175 (by decide +kernel) k) ?_
                exact j_iret (pc := 176) dX5_begin_176 ⟨mg_narI _, Or.inl rfl⟩ rfl
              · refine j_if_le (pc := 104) 111 dX5_begin_104 (by decide) (fun h24 => ?_) (fun h24 => ?_)
                · refine j_lift (fun _ k => g_iconst (pc := 111) (v := 0) dX5_begin_111 (by decide +kernel) k) ?_
                  exact hk26 0 g23
                · refine j_lift (fun _ k => g_iconst (pc := 107) (v := 1) dX5_begin_107 (by decide +kernel) k) ?_
                  refine j_lift (fun _ k => g_goto (pc := 108) 112 dX5_begin_108 (by decide) k) ?_
                  exact hk26 1 g23
            · refine j_if_le (pc := 75) 82 dX5_begin_75 (by decide) (fun h16 => ?_) (fun h16 => ?_)
              · refine j_lift (fun _ k => g_iconst (pc := 82) (v := 0) dX5_begin_82 (by decide +kernel) k) ?_
                exact hk18 0 g15
              · refine j_lift (fun _ k => g_iconst (pc := 78) (v := 1) dX5_begin_78 (by decide +kernel) k) ?_
                refine j_lift (fun _ k => g_goto (pc := 79) 83 dX5_begin_79 (by decide) k) ?_
                exact hk18 1 g15
          · refine j_lift (fun _ k => g_bipush (pc := 57) (v := 4294967294) dX5_begin_57 (by decide +kernel) k) ?_
            exact j_iret (pc := 59) dX5_begin_59 ⟨mg_narI _, Or.inl rfl⟩ rfl
  · refine j_lift (fun _ k => g_iconst (pc := 8) (v := 4294967295) dX5_begin_8 (by decide +kernel) k) ?_
    exact j_iret (pc := 9) dX5_begin_9 ⟨mg_narI _, Or.inl rfl⟩ rfl

/-- X5_stop -/
def P_X5_stop (a : Nat) (g : mg_F) : mo := ck (a < 24) <| jn (α := Nat) (fun x5 g6 => wr (mg_up g6 42 0 a ((g 42 0 a) + x5)) fun g7 => wr (mg_up g7 38 0 a 0) fun g8 => some (0, g8)) fun kj3 => if sv (g 38 0 a) = 0 then (kj3 0 g) else (kj3 1 g)
theorem p_X5_stop {l : Launch} {Z : mg_Zt} {a : Nat} {g : mg_F} (hb : Z.2.2.1 = true) : ∀ (r : Nat) (g' : mg_F), P_X5_stop a g = some (r, g') → mg_C l Z mX5_stop [rv Z 5 0, iv a] g (mp mX5_stop r g') := by
  refine mC_of (by decide) rfl (Nat.le_of_ble_eq_true rfl) (List.forall_mem_cons.mpr ⟨rfl, (List.forall_mem_cons.mpr ⟨rfl, (fun _ h => nomatch h)⟩)⟩) (fun K => ?_)
  unfold P_X5_stop
  refine j_lift (fun _ k => g_aload_n (pc := 0) dX5_stop_0 rfl k) ?_
  refine j_lift (fun _ k => fg_X5_stop_32 (pc := 1) hb dX5_stop_1 k) ?_
  refine j_lift (fun _ k => g_iload_n (pc := 4) dX5_stop_4 rfl k) ?_
  refine j_lift (fun _ k => g_dup2 (pc := 5) dX5_stop_5 rfl rfl k) ?_
  refine j_ck (fun c1 => ?_)
  refine j_lift (fun _ k => g_iaload (pc := 6) (k := 42) (i := 0) (n := 24) (by rw [hb]; decide) rfl (by decide) c1 dX5_stop_6 k) ?_
  refine j_lift (fun _ k => g_aload_n (pc := 7) dX5_stop_7 rfl k) ?_
  refine j_lift (fun _ k => fg_X5_stop_20 (pc := 8) hb dX5_stop_8 k) ?_
  refine j_lift (fun _ k => g_iload_n (pc := 11) dX5_stop_11 rfl k) ?_
  refine j_lift (fun _ k => g_baload (pc := 12) (k := 38) (i := 0) (n := 24) (by rw [hb]; decide) rfl (by decide) c1 dX5_stop_12 k) ?_
  refine j_jn (α := Nat) 21 (fun x5 => [rv Z 5 0, iv a]) (fun x5 => [iv x5, iv (g 42 0 a), iv a, rv Z 42 0]) (fun x5 g6 => ?_) (fun kj3 hk4 => ?_)
  · refine j_lift (fun _ k => g_iadd (pc := 21) (a := g 42 0 a) (b := x5) dX5_stop_21 k) ?_
    refine j_w (fun _ k => g_iastore (pc := 22) (k := 42) (i := 0) (n := 24) (by rw [hb]; decide) (fun _ => rfl) (by decide) c1 dX5_stop_22 k) (fun g7 => ?_)
    refine j_lift (fun _ k => g_aload_n (pc := 23) dX5_stop_23 rfl k) ?_
    refine j_lift (fun _ k => fg_X5_stop_20 (pc := 24) hb dX5_stop_24 k) ?_
    refine j_lift (fun _ k => g_iload_n (pc := 27) dX5_stop_27 rfl k) ?_
    refine j_lift (fun _ k => g_iconst (pc := 28) (v := 0) dX5_stop_28 (by decide +kernel) k) ?_
    refine j_w (fun _ k => g_bastore (pc := 29) (k := 38) (i := 0) (n := 24) (by rw [hb]; decide) (fun _ => rfl) (by decide) c1 (by decide) dX5_stop_29 k) (fun g8 => ?_)
    exact j_ret (pc := 30) dX5_stop_30 trivial rfl
  · refine j_if_eq (pc := 13) 20 dX5_stop_13 (by decide) (fun h2 => ?_) (fun h2 => ?_)
    · refine j_lift (fun _ k => g_iconst (pc := 20) (v := 0) dX5_stop_20 (by decide +kernel) k) ?_
      exact hk4 0 g
    · refine j_lift (fun _ k => g_iconst (pc := 16) (v := 1) dX5_stop_16 (by decide +kernel) k) ?_
      refine j_lift (fun _ k => g_goto (pc := 17) 21 dX5_stop_17 (by decide) k) ?_
      exact hk4 1 g

/-- X5_end -/
def P_X5_end (a : Nat) (g : mg_F) : mo := if sv (g 5 0 1) = 0 then (some (4294967295, g)) else (bd (P_X5_isStation a g) fun r2 g3 => if sv r2 = 0 then (some (4294967295, g3)) else (ck (a < 24) <| if sv (g3 38 0 a) = 0 then (some (4294967295, g3)) else (bd (P_X5_stop a g3) fun _ g8 => some (g8 42 0 a, g8))))
theorem p_X5_end {l : Launch} {Z : mg_Zt} {a : Nat} {g : mg_F} (hb : Z.2.2.1 = true) : ∀ (r : Nat) (g' : mg_F), P_X5_end a g = some (r, g') → mg_C l Z mX5_end [rv Z 5 0, iv a] g (mp mX5_end r g') := by
  refine mC_of (by decide) rfl (Nat.le_of_ble_eq_true rfl) (List.forall_mem_cons.mpr ⟨rfl, (List.forall_mem_cons.mpr ⟨rfl, (fun _ h => nomatch h)⟩)⟩) (fun K => ?_)
  unfold P_X5_end
  refine j_lift (fun _ k => g_aload_n (pc := 0) dX5_end_0 rfl k) ?_
  refine j_lift (fun _ k => fg_X5_end_105 (pc := 1) hb dX5_end_1 k) ?_
  refine j_if_eq (pc := 4) 24 dX5_end_4 (by decide) (fun h1 => ?_) (fun h1 => ?_)
  · refine j_lift (fun _ k => g_iconst (pc := 24) (v := 4294967295) dX5_end_24 (by decide +kernel) k) ?_
    exact j_iret (pc := 25) dX5_end_25 ⟨mg_narI _, Or.inl rfl⟩ rfl
  · refine j_lift (fun _ k => g_aload_n (pc := 7) dX5_end_7 rfl k) ?_
    refine j_lift (fun _ k => g_iload_n (pc := 8) dX5_end_8 rfl k) ?_
    refine j_callVi (pc := 9) (Y' := mX5_isStation) (As := [iv a]) (st := []) (k := 5) (i := 0) (p_X5_isStation hb) gX5_end_X5_isStation rfl (by rw [hb]; decide) rfl rfl (na := 1) rfl (by decide +kernel) (by decide) (by decide) (Nat.le_of_ble_eq_true rfl) dX5_end_9 (fun r2 g3 => ?_)
    refine j_if_eq (pc := 12) 24 dX5_end_12 (by decide) (fun h4 => ?_) (fun h4 => ?_)
    · refine j_lift (fun _ k => g_iconst (pc := 24) (v := 4294967295) dX5_end_24 (by decide +kernel) k) ?_
      exact j_iret (pc := 25) dX5_end_25 ⟨mg_narI _, Or.inl rfl⟩ rfl
    · refine j_lift (fun _ k => g_aload_n (pc := 15) dX5_end_15 rfl k) ?_
      refine j_lift (fun _ k => fg_X5_end_20 (pc := 16) hb dX5_end_16 k) ?_
      refine j_lift (fun _ k => g_iload_n (pc := 19) dX5_end_19 rfl k) ?_
      refine j_ck (fun c5 => ?_)
      refine j_lift (fun _ k => g_baload (pc := 20) (k := 38) (i := 0) (n := 24) (by rw [hb]; decide) rfl (by decide) c5 dX5_end_20 k) ?_
      refine j_if_ne (pc := 21) 26 dX5_end_21 (by decide) (fun h6 => ?_) (fun h6 => ?_)
      · refine j_lift (fun _ k => g_aload_n (pc := 26) dX5_end_26 rfl k) ?_
        refine j_lift (fun _ k => g_iload_n (pc := 27) dX5_end_27 rfl k) ?_
        refine j_callVv (pc := 28) (Y' := mX5_stop) (As := [iv a]) (st := []) (k := 5) (i := 0) (p_X5_stop hb) gX5_end_X5_stop rfl (by rw [hb]; decide) rfl rfl (na := 1) rfl (by decide +kernel) (by decide) (by decide) (Nat.le_of_ble_eq_true rfl) dX5_end_28 (fun _ g8 => ?_)
        refine j_lift (fun _ k => g_aload_n (pc := 31) dX5_end_31 rfl k) ?_
        refine j_lift (fun _ k => fg_X5_end_32 (pc := 32) hb dX5_end_32 k) ?_
        refine j_lift (fun _ k => g_iload_n (pc := 35) dX5_end_35 rfl k) ?_
        refine j_lift (fun _ k => g_iaload (pc := 36) (k := 42) (i := 0) (n := 24) (by rw [hb]; decide) rfl (by decide) c5 dX5_end_36 k) ?_
        exact j_iret (pc := 37) dX5_end_37 ⟨mg_narI _, Or.inl rfl⟩ rfl
      · refine j_lift (fun _ k => g_iconst (pc := 24) (v := 4294967295) dX5_end_24 (by decide +kernel) k) ?_
        exact j_iret (pc := 25) dX5_end_25 ⟨mg_narI _, Or.inl rfl⟩ rfl

/-- X5_step -/
def P_X5_step (a : Nat) (g : mg_F) : mo := bd (P_X5_isUp a g) fun r1 g2 => if sv r1 = 0 then (some (4294967295, g2)) else (ck (a < 24) <| if sv (g2 46 0 a) = 0 then (some (0, g2)) else (if sv (g2 36 0 a) = sv a then (bd (P_X5_firstOf a g2) fun r25 g26 => bd (P_X5_entry a r25 g26) fun r27 g28 => ck (r27 < 576) <| if sv (g28 38 0 a) = 0 then (if sv (g28 47 0 r27) = sv a then (some (0, g28)) else (bd (P_X5_leave a r25 g28) fun _ g33 => wr (mg_up g33 40 0 a 0) fun g34 => wr (mg_up g34 36 0 a (g28 47 0 r27)) fun g35 => bd (P_X5_write ((24 * a) + (g28 47 0 r27)) 1 0 g35) fun _ g37 => if 0 < sv (g37 46 0 a) then (bd (P_X5_writeAsk a g37) fun _ g40 => some (1, g40)) else (some (1, g37)))) else (some (0, g28))) else (if sv (g2 36 0 a) = sv 4294967294 then (if sv (g2 36 0 a) = sv 4294967294 then (some (0, g2)) else (if sv (g2 5 0 2) = sv 2 then (bd (P_X5_greatest a g2) fun r10 g11 => if sv (g11 41 0 a) < sv r10 then (bd (P_X5_writeAsk a g11) fun _ g14 => some (3, g14)) else (some (0, g11))) else (some (0, g2)))) else (if sv (g2 37 0 a) = 0 then (bd (P_X5_writeAsk a g2) fun _ g24 => some (2, g24)) else (if sv (g2 36 0 a) = sv 4294967294 then (some (0, g2)) else (if sv (g2 5 0 2) = sv 2 then (bd (P_X5_greatest a g2) fun r18 g19 => if sv (g19 41 0 a) < sv r18 then (bd (P_X5_writeAsk a g19) fun _ g22 => some (3, g22)) else (some (0, g19))) else (some (0, g2))))))))
theorem p_X5_step {l : Launch} {Z : mg_Zt} {a : Nat} {g : mg_F} (hb : Z.2.2.1 = true) : ∀ (r : Nat) (g' : mg_F), P_X5_step a g = some (r, g') → mg_C l Z mX5_step [rv Z 5 0, iv a] g (mp mX5_step r g') := by
  refine mC_of (by decide) rfl (Nat.le_of_ble_eq_true rfl) (List.forall_mem_cons.mpr ⟨rfl, (List.forall_mem_cons.mpr ⟨rfl, (fun _ h => nomatch h)⟩)⟩) (fun K => ?_)
  unfold P_X5_step
  refine j_lift (fun _ k => g_aload_n (pc := 0) dX5_step_0 rfl k) ?_
  refine j_lift (fun _ k => g_iload_n (pc := 1) dX5_step_1 rfl k) ?_
  refine j_callVi (pc := 2) (Y' := mX5_isUp) (As := [iv a]) (st := []) (k := 5) (i := 0) (p_X5_isUp hb) gX5_step_X5_isUp rfl (by rw [hb]; decide) rfl rfl (na := 1) rfl (by decide +kernel) (by decide) (by decide) (Nat.le_of_ble_eq_true rfl) dX5_step_2 (fun r1 g2 => ?_)
  refine j_if_ne (pc := 5) 10 dX5_step_5 (by decide) (fun h3 => ?_) (fun h3 => ?_)
  · refine j_lift (fun _ k => g_aload_n (pc := 10) dX5_step_10 rfl k) ?_
    refine j_lift (fun _ k => fg_X5_step_41 (pc := 11) hb dX5_step_11 k) ?_
    refine j_lift (fun _ k => g_iload_n (pc := 14) dX5_step_14 rfl k) ?_
    refine j_ck (fun c4 => ?_)
    refine j_lift (fun _ k => g_iaload (pc := 15) (k := 46) (i := 0) (n := 24) (by rw [hb]; decide) rfl (by decide) c4 dX5_step_15 k) ?_
    refine j_if_ne (pc := 16) 21 dX5_step_16 (by decide) (fun h5 => ?_) (fun h5 => ?_)
    · refine j_lift (fun _ k => g_aload_n (pc := 21) dX5_step_21 rfl k) ?_
      refine j_lift (fun _ k => fg_X5_step_13 (pc := 22) hb dX5_step_22 k) ?_
      refine j_lift (fun _ k => g_iload_n (pc := 25) dX5_step_25 rfl k) ?_
      refine j_lift (fun _ k => g_iaload (pc := 26) (k := 36) (i := 0) (n := 24) (by rw [hb]; decide) rfl (by decide) c4 dX5_step_26 k) ?_
      refine j_lift (fun _ k => g_istore_n (pc := 27) (ls' := [rv Z 5 0, iv a, iv (g2 36 0 a)]) dX5_step_27 (Nat.le_of_ble_eq_true rfl) (Nat.le_of_ble_eq_true rfl) rfl k) ?_
      refine j_lift (fun _ k => g_iload_n (pc := 28) dX5_step_28 rfl k) ?_
      refine j_lift (fun _ k => g_iload_n (pc := 29) dX5_step_29 rfl k) ?_
      refine j_icmp_ne (pc := 30) 119 dX5_step_30 (by decide) (fun h6 => ?_) (fun h6 => ?_)
      · refine j_lift (fun _ k => g_iload_n (pc := 119) dX5_step_119 rfl k) ?_
        refine j_lift (fun _ k => g_bipush (pc := 120) (v := 4294967294) dX5_step_120 (by decide +kernel) k) ?_
        refine j_icmp_eq (pc := 122) 141 dX5_step_122 (by decide) (fun h7 => ?_) (fun h7 => ?_)
        · refine j_lift (fun _ k => g_iload_n (pc := 141) dX5_step_141 rfl k) ?_
          refine j_lift (fun _ k => g_bipush (pc := 142) (v := 4294967294) dX5_step_142 (by decide +kernel) k) ?_
          refine j_icmp_eq (pc := 144) 176 dX5_step_144 (by decide) (fun h8 => ?_) (fun h8 => ?_)
          · refine j_lift (fun _ k => g_iconst (pc := 176) (v := 0) dX5_step_176 (by decide +kernel) k) ?_
            exact j_iret (pc := 177) dX5_step_177 ⟨mg_narI _, Or.inl rfl⟩ rfl
          · refine j_lift (fun _ k => g_aload_n (pc := 147) dX5_step_147 rfl k) ?_
            refine j_lift (fun _ k => fg_X5_step_124 (pc := 148) hb dX5_step_148 k) ?_
            refine j_lift (fun _ k => g_iconst (pc := 151) (v := 2) dX5_step_151 (by decide +kernel) k) ?_
            refine j_icmp_ne (pc := 152) 176 dX5_step_152 (by decide) (fun h9 => ?_) (fun h9 => ?_)
            · refine j_lift (fun _ k => g_iconst (pc := 176) (v := 0) dX5_step_176 (by decide +kernel) k) ?_
              exact j_iret (pc := 177) dX5_step_177 ⟨mg_narI _, Or.inl rfl⟩ rfl
            · refine j_lift (fun _ k => g_aload_n (pc := 155) dX5_step_155 rfl k) ?_
              refine j_lift (fun _ k => g_iload_n (pc := 156) dX5_step_156 rfl k) ?_
              refine j_callVi (pc := 157) (Y' := mX5_greatest) (As := [iv a]) (st := []) (k := 5) (i := 0) (p_X5_greatest hb) gX5_step_X5_greatest rfl (by rw [hb]; decide) rfl rfl (na := 1) rfl (by decide +kernel) (by decide) (by decide) (Nat.le_of_ble_eq_true rfl) dX5_step_157 (fun r10 g11 => ?_)
              refine j_lift (fun _ k => g_aload_n (pc := 160) dX5_step_160 rfl k) ?_
              refine j_lift (fun _ k => fg_X5_step_29 (pc := 161) hb dX5_step_161 k) ?_
              refine j_lift (fun _ k => g_iload_n (pc := 164) dX5_step_164 rfl k) ?_
              refine j_lift (fun _ k => g_iaload (pc := 165) (k := 41) (i := 0) (n := 24) (by rw [hb]; decide) rfl (by decide) c4 dX5_step_165 k) ?_
              refine j_icmp_le (pc := 166) 176 dX5_step_166 (by decide) (fun h12 => ?_) (fun h12 => ?_)
              · refine j_lift (fun _ k => g_iconst (pc := 176) (v := 0) dX5_step_176 (by decide +kernel) k) ?_
                exact j_iret (pc := 177) dX5_step_177 ⟨mg_narI _, Or.inl rfl⟩ rfl
              · refine j_lift (fun _ k => g_aload_n (pc := 169) dX5_step_169 rfl k) ?_
                refine j_lift (fun _ k => g_iload_n (pc := 170) dX5_step_170 rfl k) ?_
                refine j_callVv (pc := 171) (Y' := mX5_writeAsk) (As := [iv a]) (st := []) (k := 5) (i := 0) (p_X5_writeAsk hb) gX5_step_X5_writeAsk rfl (by rw [hb]; decide) rfl rfl (na := 1) rfl (by decide +kernel) (by decide) (by decide) (Nat.le_of_ble_eq_true rfl) dX5_step_171 (fun _ g14 => ?_)
                refine j_lift (fun _ k => g_iconst (pc := 174) (v := 3) dX5_step_174 (by decide +kernel) k) ?_
                exact j_iret (pc := 175) dX5_step_175 ⟨mg_narI _, Or.inl rfl⟩ rfl
        · refine j_lift (fun _ k => g_aload_n (pc := 125) dX5_step_125 rfl k) ?_
          refine j_lift (fun _ k => fg_X5_step_17 (pc := 126) hb dX5_step_126 k) ?_
          refine j_lift (fun _ k => g_iload_n (pc := 129) dX5_step_129 rfl k) ?_
          refine j_lift (fun _ k => g_baload (pc := 130) (k := 37) (i := 0) (n := 24) (by rw [hb]; decide) rfl (by decide) c4 dX5_step_130 k) ?_
          refine j_if_ne (pc := 131) 141 dX5_step_131 (by decide) (fun h15 => ?_) (fun h15 => ?_)
          · refine j_lift (fun _ k => g_iload_n (pc := 141) dX5_step_141 rfl k) ?_
            refine j_lift (fun _ k => g_bipush (pc := 142) (v := 4294967294) dX5_step_142 (by decide +kernel) k) ?_
            refine j_icmp_eq (pc := 144) 176 dX5_step_144 (by decide) (fun h16 => ?_) (fun h16 => ?_)
            · refine j_lift (fun _ k => g_iconst (pc := 176) (v := 0) dX5_step_176 (by decide +kernel) k) ?_
              exact j_iret (pc := 177) dX5_step_177 ⟨mg_narI _, Or.inl rfl⟩ rfl
            · refine j_lift (fun _ k => g_aload_n (pc := 147) dX5_step_147 rfl k) ?_
              refine j_lift (fun _ k => fg_X5_step_124 (pc := 148) hb dX5_step_148 k) ?_
              refine j_lift (fun _ k => g_iconst (pc := 151) (v := 2) dX5_step_151 (by decide +kernel) k) ?_
              refine j_icmp_ne (pc := 152) 176 dX5_step_152 (by decide) (fun h17 => ?_) (fun h17 => ?_)
              · refine j_lift (fun _ k => g_iconst (pc := 176) (v := 0) dX5_step_176 (by decide +kernel) k) ?_
                exact j_iret (pc := 177) dX5_step_177 ⟨mg_narI _, Or.inl rfl⟩ rfl
              · refine j_lift (fun _ k => g_aload_n (pc := 155) dX5_step_155 rfl k) ?_
                refine j_lift (fun _ k => g_iload_n (pc := 156) dX5_step_156 rfl k) ?_
                refine j_callVi (pc := 157) (Y' := mX5_greatest) (As := [iv a]) (st := []) (k := 5) (i := 0) (p_X5_greatest hb) gX5_step_X5_greatest rfl (by rw [hb]; decide) rfl rfl (na := 1) rfl (by decide +kernel) (by decide) (by decide) (Nat.le_of_ble_eq_true rfl) dX5_step_157 (fun r18 g19 => ?_)
                refine j_lift (fun _ k => g_aload_n (pc := 160) dX5_step_160 rfl k) ?_
                refine j_lift (fun _ k => fg_X5_step_29 (pc := 161) hb dX5_step_161 k) ?_
                refine j_lift (fun _ k => g_iload_n (pc := 164) dX5_step_164 rfl k) ?_
                refine j_lift (fun _ k => g_iaload (pc := 165) (k := 41) (i := 0) (n := 24) (by rw [hb]; decide) rfl (by decide) c4 dX5_step_165 k) ?_
                refine j_icmp_le (pc := 166) 176 dX5_step_166 (by decide) (fun h20 => ?_) (fun h20 => ?_)
                · refine j_lift (fun _ k => g_iconst (pc := 176) (v := 0) dX5_step_176 (by decide +kernel) k) ?_
                  exact j_iret (pc := 177) dX5_step_177 ⟨mg_narI _, Or.inl rfl⟩ rfl
                · refine j_lift (fun _ k => g_aload_n (pc := 169) dX5_step_169 rfl k) ?_
                  refine j_lift (fun _ k => g_iload_n (pc := 170) dX5_step_170 rfl k) ?_
                  refine j_callVv (pc := 171) (Y' := mX5_writeAsk) (As := [iv a]) (st := []) (k := 5) (i := 0) (p_X5_writeAsk hb) gX5_step_X5_writeAsk rfl (by rw [hb]; decide) rfl rfl (na := 1) rfl (by decide +kernel) (by decide) (by decide) (Nat.le_of_ble_eq_true rfl) dX5_step_171 (fun _ g22 => ?_)
                  refine j_lift (fun _ k => g_iconst (pc := 174) (v := 3) dX5_step_174 (by decide +kernel) k) ?_
                  exact j_iret (pc := 175) dX5_step_175 ⟨mg_narI _, Or.inl rfl⟩ rfl
          · refine j_lift (fun _ k => g_aload_n (pc := 134) dX5_step_134 rfl k) ?_
            refine j_lift (fun _ k => g_iload_n (pc := 135) dX5_step_135 rfl k) ?_
            refine j_callVv (pc := 136) (Y' := mX5_writeAsk) (As := [iv a]) (st := []) (k := 5) (i := 0) (p_X5_writeAsk hb) gX5_step_X5_writeAsk rfl (by rw [hb]; decide) rfl rfl (na := 1) rfl (by decide +kernel) (by decide) (by decide) (Nat.le_of_ble_eq_true rfl) dX5_step_136 (fun _ g24 => ?_)
            refine j_lift (fun _ k => g_iconst (pc := 139) (v := 2) dX5_step_139 (by decide +kernel) k) ?_
            exact j_iret (pc := 140) dX5_step_140 ⟨mg_narI _, Or.inl rfl⟩ rfl
      · refine j_lift (fun _ k => g_aload_n (pc := 33) dX5_step_33 rfl k) ?_
        refine j_lift (fun _ k => g_iload_n (pc := 34) dX5_step_34 rfl k) ?_
        refine j_callVi (pc := 35) (Y' := mX5_firstOf) (As := [iv a]) (st := []) (k := 5) (i := 0) (p_X5_firstOf hb) gX5_step_X5_firstOf rfl (by rw [hb]; decide) rfl rfl (na := 1) rfl (by decide +kernel) (by decide) (by decide) (Nat.le_of_ble_eq_true rfl) dX5_step_35 (fun r25 g26 => ?_)
        refine j_lift (fun _ k => g_istore_n (pc := 38) (ls' := [rv Z 5 0, iv a, iv (g2 36 0 a), iv r25]) dX5_step_38 (Nat.le_of_ble_eq_true rfl) (Nat.le_of_ble_eq_true rfl) rfl k) ?_
        refine j_lift (fun _ k => g_aload_n (pc := 39) dX5_step_39 rfl k) ?_
        refine j_lift (fun _ k => fg_X5_step_44 (pc := 40) hb dX5_step_40 k) ?_
        refine j_lift (fun _ k => g_aload_n (pc := 43) dX5_step_43 rfl k) ?_
        refine j_lift (fun _ k => g_iload_n (pc := 44) dX5_step_44 rfl k) ?_
        refine j_lift (fun _ k => g_iload_n (pc := 45) dX5_step_45 rfl k) ?_
        refine j_callVi (pc := 46) (Y' := mX5_entry) (As := [iv a, iv r25]) (st := [rv Z 47 0]) (k := 5) (i := 0) (p_X5_entry hb) gX5_step_X5_entry rfl (by rw [hb]; decide) rfl rfl (na := 2) rfl (by decide +kernel) (by decide) (by decide) (Nat.le_of_ble_eq_true rfl) dX5_step_46 (fun r27 g28 => ?_)
        refine j_ck (fun c29 => ?_)
        refine j_lift (fun _ k => g_iaload (pc := 49) (k := 47) (i := 0) (n := 576) (by rw [hb]; decide) rfl (by decide) c29 dX5_step_49 k) ?_
        refine j_lift (fun _ k => g_istore (pc := 50) (ls' := [rv Z 5 0, iv a, iv (g2 36 0 a), iv r25, iv (g28 47 0 r27)]) dX5_step_50 (Nat.le_of_ble_eq_true rfl) (Nat.le_of_ble_eq_true rfl) rfl k) ?_
        refine j_lift (fun _ k => g_aload_n (pc := 52) dX5_step_52 rfl k) ?_
        refine j_lift (fun _ k => fg_X5_step_20 (pc := 53) hb dX5_step_53 k) ?_
        refine j_lift (fun _ k => g_iload_n (pc := 56) dX5_step_56 rfl k) ?_
        refine j_lift (fun _ k => g_baload (pc := 57) (k := 38) (i := 0) (n := 24) (by rw [hb]; decide) rfl (by decide) c4 dX5_step_57 k) ?_
        refine j_if_ne (pc := 58) 67 dX5_step_58 (by decide) (fun h30 => ?_) (fun h30 => ?_)
        · refine j_lift (fun _ k => g_iconst (pc := 67) (v := 0) dX5_step_67 (by decide +kernel) k) ?_
          exact j_iret (pc := 68) dX5_step_68 ⟨mg_narI _, Or.inl rfl⟩ rfl
        · refine j_lift (fun _ k => g_iload (pc := 61) dX5_step_61 rfl k) ?_
          refine j_lift (fun _ k => g_iload_n (pc := 63) dX5_step_63 rfl k) ?_
          refine j_icmp_ne (pc := 64) 69 dX5_step_64 (by decide) (fun h31 => ?_) (fun h31 => ?_)
          · refine j_lift (fun _ k => g_aload_n (pc := 69) dX5_step_69 rfl k) ?_
            refine j_lift (fun _ k => g_iload_n (pc := 70) dX5_step_70 rfl k) ?_
            refine j_lift (fun _ k => g_iload_n (pc := 71) dX5_step_71 rfl k) ?_
            refine j_callVv (pc := 72) (Y' := mX5_leave) (As := [iv a, iv r25]) (st := []) (k := 5) (i := 0) (p_X5_leave hb) gX5_step_X5_leave rfl (by rw [hb]; decide) rfl rfl (na := 2) rfl (by decide +kernel) (by decide) (by decide) (Nat.le_of_ble_eq_true rfl) dX5_step_72 (fun _ g33 => ?_)
            refine j_lift (fun _ k => g_aload_n (pc := 75) dX5_step_75 rfl k) ?_
            refine j_lift (fun _ k => fg_X5_step_26 (pc := 76) hb dX5_step_76 k) ?_
            refine j_lift (fun _ k => g_iload_n (pc := 79) dX5_step_79 rfl k) ?_
            refine j_lift (fun _ k => g_iconst (pc := 80) (v := 0) dX5_step_80 (by decide +kernel) k) ?_
            refine j_w (fun _ k => g_iastore (pc := 81) (k := 40) (i := 0) (n := 24) (by rw [hb]; decide) (fun _ => rfl) (by decide) c4 dX5_step_81 k) (fun g34 => ?_)
            refine j_lift (fun _ k => g_aload_n (pc := 82) dX5_step_82 rfl k) ?_
            refine j_lift (fun _ k => fg_X5_step_13 (pc := 83) hb dX5_step_83 k) ?_
            refine j_lift (fun _ k => g_iload_n (pc := 86) dX5_step_86 rfl k) ?_
            refine j_lift (fun _ k => g_iload (pc := 87) dX5_step_87 rfl k) ?_
            refine j_w (fun _ k => g_iastore (pc := 89) (k := 36) (i := 0) (n := 24) (by rw [hb]; decide) (fun _ => rfl) (by decide) c4 dX5_step_89 k) (fun g35 => ?_)
            refine j_lift (fun _ k => g_aload_n (pc := 90) dX5_step_90 rfl k) ?_
            refine j_lift (fun _ k => g_bipush (pc := 91) (v := 24) dX5_step_91 (by decide +kernel) k) ?_
            refine j_lift (fun _ k => g_iload_n (pc := 93) dX5_step_93 rfl k) ?_
            refine j_lift (fun _ k => g_imul (pc := 94) (a := 24) (b := a) dX5_step_94 k) ?_
            refine j_lift (fun _ k => g_iload (pc := 95) dX5_step_95 rfl k) ?_
            refine j_lift (fun _ k => g_iadd (pc := 97) (a := 24 * a) (b := g28 47 0 r27) dX5_step_97 k) ?_
            refine j_lift (fun _ k => g_iconst (pc := 98) (v := 1) dX5_step_98 (by decide +kernel) k) ?_
            refine j_lift (fun _ k => g_iconst (pc := 99) (v := 0) dX5_step_99 (by decide +kernel) k) ?_
            refine j_callVv (pc := 100) (Y' := mX5_write) (As := [iv ((24 * a) + (g28 47 0 r27)), iv 1, iv 0]) (st := []) (k := 5) (i := 0) (p_X5_write hb) gX5_step_X5_write rfl (by rw [hb]; decide) rfl rfl (na := 3) rfl (by decide +kernel) (by decide) (by decide) (Nat.le_of_ble_eq_true rfl) dX5_step_100 (fun _ g37 => ?_)
            refine j_lift (fun _ k => g_aload_n (pc := 103) dX5_step_103 rfl k) ?_
            refine j_lift (fun _ k => fg_X5_step_41 (pc := 104) hb dX5_step_104 k) ?_
            refine j_lift (fun _ k => g_iload_n (pc := 107) dX5_step_107 rfl k) ?_
            refine j_lift (fun _ k => g_iaload (pc := 108) (k := 46) (i := 0) (n := 24) (by rw [hb]; decide) rfl (by decide) c4 dX5_step_108 k) ?_
            refine j_if_le (pc := 109) 117 dX5_step_109 (by decide) (fun h38 => ?_) (fun h38 => ?_)
            · refine j_lift (fun _ k => g_iconst (pc := 117) (v := 1) dX5_step_117 (by decide +kernel) k) ?_
              exact j_iret (pc := 118) dX5_step_118 ⟨mg_narI _, Or.inl rfl⟩ rfl
            · refine j_lift (fun _ k => g_aload_n (pc := 112) dX5_step_112 rfl k) ?_
              refine j_lift (fun _ k => g_iload_n (pc := 113) dX5_step_113 rfl k) ?_
              refine j_callVv (pc := 114) (Y' := mX5_writeAsk) (As := [iv a]) (st := []) (k := 5) (i := 0) (p_X5_writeAsk hb) gX5_step_X5_writeAsk rfl (by rw [hb]; decide) rfl rfl (na := 1) rfl (by decide +kernel) (by decide) (by decide) (Nat.le_of_ble_eq_true rfl) dX5_step_114 (fun _ g40 => ?_)
              refine j_lift (fun _ k => g_iconst (pc := 117) (v := 1) dX5_step_117 (by decide +kernel) k) ?_
              exact j_iret (pc := 118) dX5_step_118 ⟨mg_narI _, Or.inl rfl⟩ rfl
          · refine j_lift (fun _ k => g_iconst (pc := 67) (v := 0) dX5_step_67 (by decide +kernel) k) ?_
            exact j_iret (pc := 68) dX5_step_68 ⟨mg_narI _, Or.inl rfl⟩ rfl
    · refine j_lift (fun _ k => g_iconst (pc := 19) (v := 0) dX5_step_19 (by decide +kernel) k) ?_
      exact j_iret (pc := 20) dX5_step_20 ⟨mg_narI _, Or.inl rfl⟩ rfl
  · refine j_lift (fun _ k => g_iconst (pc := 8) (v := 4294967295) dX5_step_8 (by decide +kernel) k) ?_
    exact j_iret (pc := 9) dX5_step_9 ⟨mg_narI _, Or.inl rfl⟩ rfl

/-- X5_deliver -/
def P_X5_deliver (a : Nat) (g : mg_F) : mo := if sv (g 5 0 1) = 0 then (some (4294967295, g)) else (if sv a < 0 then (some (4294967295, g)) else (if sv a < sv (g 5 0 26) then (ck (a < 60) <| ck (a < 60) <| ck (a < 60) <| ck (a < 60) <| bd (P_X5_dropCopy a g) fun _ g9 => ck (g 57 0 a < 2147483648) <| ck (g 57 0 a < 2147483648) <| ck ((g 57 0 a) % 24 < 24) <| if sv (g9 39 0 ((g 57 0 a) % 24)) = 0 then (if sv (g 58 0 a) = sv 2 then (bd (P_X5_firstLetter ((24 * ((g 57 0 a) % 24)) + ((g 57 0 a) / 24)) g9) fun r33 g34 => if sv r33 < 0 then (some (4, g34)) else (ck (r33 < 3000) <| if sv (g34 55 0 r33) = sv (g 60 0 a) then (bd (P_X5_dropLetter r33 g34) fun _ g39 => bd (P_X5_sendFirst ((24 * ((g 57 0 a) % 24)) + ((g 57 0 a) / 24)) g39) fun _ g41 => some (3, g41)) else (some (4, g34)))) else (ck (g 57 0 a < 576) <| if sv (g 60 0 a) < sv (g9 50 0 (g 57 0 a)) then (bd (P_X5_send ((24 * ((g 57 0 a) % 24)) + ((g 57 0 a) / 24)) 2 0 (g 60 0 a) g9) fun _ g32 => some (2, g32)) else (ck (g 57 0 a < 576) <| ck (g 57 0 a < 576) <| wr (mg_up g9 50 0 (g 57 0 a) ((g9 50 0 (g 57 0 a)) + 1)) fun g19 => jn (α := Nat) (fun x23 g24 => bd (P_X5_send ((24 * ((g 57 0 a) % 24)) + ((g 57 0 a) / 24)) 2 0 (g 60 0 a) g24) fun _ g26 => some (1, g26)) fun kj21 => if sv (g 58 0 a) = 0 then (bd (P_X5_come ((g 57 0 a) % 24) ((g 57 0 a) / 24) (g 59 0 a) g19) fun _ g30 => kj21 0 g30) else (wr (mg_up g19 36 0 ((g 57 0 a) % 24) ((g 57 0 a) % 24)) fun g27 => wr (mg_up g27 37 0 ((g 57 0 a) % 24) 0) fun g28 => kj21 0 g28)))) else (some (0, g9))) else (some (4294967295, g))))
theorem p_X5_deliver {l : Launch} {Z : mg_Zt} {a : Nat} {g : mg_F} (hb : Z.2.2.1 = true) : ∀ (r : Nat) (g' : mg_F), P_X5_deliver a g = some (r, g') → mg_C l Z mX5_deliver [rv Z 5 0, iv a] g (mp mX5_deliver r g') := by
  refine mC_of (by decide) rfl (Nat.le_of_ble_eq_true rfl) (List.forall_mem_cons.mpr ⟨rfl, (List.forall_mem_cons.mpr ⟨rfl, (fun _ h => nomatch h)⟩)⟩) (fun K => ?_)
  unfold P_X5_deliver
  refine j_lift (fun _ k => g_aload_n (pc := 0) dX5_deliver_0 rfl k) ?_
  refine j_lift (fun _ k => fg_X5_deliver_105 (pc := 1) hb dX5_deliver_1 k) ?_
  refine j_if_eq (pc := 4) 19 dX5_deliver_4 (by decide) (fun h1 => ?_) (fun h1 => ?_)
  · refine j_lift (fun _ k => g_iconst (pc := 19) (v := 4294967295) dX5_deliver_19 (by decide +kernel) k) ?_
    exact j_iret (pc := 20) dX5_deliver_20 ⟨mg_narI _, Or.inl rfl⟩ rfl
  · refine j_lift (fun _ k => g_iload_n (pc := 7) dX5_deliver_7 rfl k) ?_
    refine j_if_lt (pc := 8) 19 dX5_deliver_8 (by decide) (fun h2 => ?_) (fun h2 => ?_)
    · refine j_lift (fun _ k => g_iconst (pc := 19) (v := 4294967295) dX5_deliver_19 (by decide +kernel) k) ?_
      exact j_iret (pc := 20) dX5_deliver_20 ⟨mg_narI _, Or.inl rfl⟩ rfl
    · refine j_lift (fun _ k => g_iload_n (pc := 11) dX5_deliver_11 rfl k) ?_
      refine j_lift (fun _ k => g_aload_n (pc := 12) dX5_deliver_12 rfl k) ?_
      refine j_lift (fun _ k => fg_X5_deliver_136 (pc := 13) hb dX5_deliver_13 k) ?_
      refine j_icmp_lt (pc := 16) 21 dX5_deliver_16 (by decide) (fun h3 => ?_) (fun h3 => ?_)
      · refine j_lift (fun _ k => g_aload_n (pc := 21) dX5_deliver_21 rfl k) ?_
        refine j_lift (fun _ k => fg_X5_deliver_68 (pc := 22) hb dX5_deliver_22 k) ?_
        refine j_lift (fun _ k => g_iload_n (pc := 25) dX5_deliver_25 rfl k) ?_
        refine j_ck (fun c4 => ?_)
        refine j_lift (fun _ k => g_iaload (pc := 26) (k := 57) (i := 0) (n := 60) (by rw [hb]; decide) rfl (by decide) c4 dX5_deliver_26 k) ?_
        refine j_lift (fun _ k => g_istore_n (pc := 27) (ls' := [rv Z 5 0, iv a, iv (g 57 0 a)]) dX5_deliver_27 (Nat.le_of_ble_eq_true rfl) (Nat.le_of_ble_eq_true rfl) rfl k) ?_
        refine j_lift (fun _ k => g_aload_n (pc := 28) dX5_deliver_28 rfl k) ?_
        refine j_lift (fun _ k => fg_X5_deliver_71 (pc := 29) hb dX5_deliver_29 k) ?_
        refine j_lift (fun _ k => g_iload_n (pc := 32) dX5_deliver_32 rfl k) ?_
        refine j_ck (fun c5 => ?_)
        refine j_lift (fun _ k => g_iaload (pc := 33) (k := 58) (i := 0) (n := 60) (by rw [hb]; decide) rfl (by decide) c5 dX5_deliver_33 k) ?_
        refine j_lift (fun _ k => g_istore_n (pc := 34) (ls' := [rv Z 5 0, iv a, iv (g 57 0 a), iv (g 58 0 a)]) dX5_deliver_34 (Nat.le_of_ble_eq_true rfl) (Nat.le_of_ble_eq_true rfl) rfl k) ?_
        refine j_lift (fun _ k => g_aload_n (pc := 35) dX5_deliver_35 rfl k) ?_
        refine j_lift (fun _ k => fg_X5_deliver_74 (pc := 36) hb dX5_deliver_36 k) ?_
        refine j_lift (fun _ k => g_iload_n (pc := 39) dX5_deliver_39 rfl k) ?_
        refine j_ck (fun c6 => ?_)
        refine j_lift (fun _ k => g_iaload (pc := 40) (k := 59) (i := 0) (n := 60) (by rw [hb]; decide) rfl (by decide) c6 dX5_deliver_40 k) ?_
        refine j_lift (fun _ k => g_istore (pc := 41) (ls' := [rv Z 5 0, iv a, iv (g 57 0 a), iv (g 58 0 a), iv (g 59 0 a)]) dX5_deliver_41 (Nat.le_of_ble_eq_true rfl) (Nat.le_of_ble_eq_true rfl) rfl k) ?_
        refine j_lift (fun _ k => g_aload_n (pc := 43) dX5_deliver_43 rfl k) ?_
        refine j_lift (fun _ k => fg_X5_deliver_77 (pc := 44) hb dX5_deliver_44 k) ?_
        refine j_lift (fun _ k => g_iload_n (pc := 47) dX5_deliver_47 rfl k) ?_
        refine j_ck (fun c7 => ?_)
        refine j_lift (fun _ k => g_iaload (pc := 48) (k := 60) (i := 0) (n := 60) (by rw [hb]; decide) rfl (by decide) c7 dX5_deliver_48 k) ?_
        refine j_lift (fun _ k => g_istore (pc := 49) (ls' := [rv Z 5 0, iv a, iv (g 57 0 a), iv (g 58 0 a), iv (g 59 0 a), iv (g 60 0 a)]) dX5_deliver_49 (Nat.le_of_ble_eq_true rfl) (Nat.le_of_ble_eq_true rfl) rfl k) ?_
        refine j_lift (fun _ k => g_aload_n (pc := 51) dX5_deliver_51 rfl k) ?_
        refine j_lift (fun _ k => g_iload_n (pc := 52) dX5_deliver_52 rfl k) ?_
        refine j_callVv (pc := 53) (Y' := mX5_dropCopy) (As := [iv a]) (st := []) (k := 5) (i := 0) (p_X5_dropCopy hb) gX5_deliver_X5_dropCopy rfl (by rw [hb]; decide) rfl rfl (na := 1) rfl (by decide +kernel) (by decide) (by decide) (Nat.le_of_ble_eq_true rfl) dX5_deliver_53 (fun _ g9 => ?_)
        refine j_lift (fun _ k => g_iload_n (pc := 56) dX5_deliver_56 rfl k) ?_
        refine j_lift (fun _ k => g_bipush (pc := 57) (v := 24) dX5_deliver_57 (by decide +kernel) k) ?_
        refine j_ck (fun c10 => ?_)
        refine j_lift (fun _ k => g_idiv (pc := 59) c10 (by decide) (by decide) dX5_deliver_59 k) ?_
        refine j_lift (fun _ k => g_istore (pc := 60) (ls' := [rv Z 5 0, iv a, iv (g 57 0 a), iv (g 58 0 a), iv (g 59 0 a), iv (g 60 0 a), iv ((g 57 0 a) / 24)]) dX5_deliver_60 (Nat.le_of_ble_eq_true rfl) (Nat.le_of_ble_eq_true rfl) rfl k) ?_
        refine j_lift (fun _ k => g_iload_n (pc := 62) dX5_deliver_62 rfl k) ?_
        refine j_lift (fun _ k => g_bipush (pc := 63) (v := 24) dX5_deliver_63 (by decide +kernel) k) ?_
        refine j_ck (fun c11 => ?_)
        refine j_lift (fun _ k => g_irem (pc := 65) c11 (by decide) (by decide) dX5_deliver_65 k) ?_
        refine j_lift (fun _ k => g_istore (pc := 66) (ls' := [rv Z 5 0, iv a, iv (g 57 0 a), iv (g 58 0 a), iv (g 59 0 a), iv (g 60 0 a), iv ((g 57 0 a) / 24), iv ((g 57 0 a) % 24)]) dX5_deliver_66 (Nat.le_of_ble_eq_true rfl) (Nat.le_of_ble_eq_true rfl) rfl k) ?_
        refine j_lift (fun _ k => g_bipush (pc := 68) (v := 24) dX5_deliver_68 (by decide +kernel) k) ?_
        refine j_lift (fun _ k => g_iload (pc := 70) dX5_deliver_70 rfl k) ?_
        refine j_lift (fun _ k => g_imul (pc := 72) (a := 24) (b := (g 57 0 a) % 24) dX5_deliver_72 k) ?_
        refine j_lift (fun _ k => g_iload (pc := 73) dX5_deliver_73 rfl k) ?_
        refine j_lift (fun _ k => g_iadd (pc := 75) (a := 24 * ((g 57 0 a) % 24)) (b := (g 57 0 a) / 24) dX5_deliver_75 k) ?_
        refine j_lift (fun _ k => g_istore (pc := 76) (ls' := [rv Z 5 0, iv a, iv (g 57 0 a), iv (g 58 0 a), iv (g 59 0 a), iv (g 60 0 a), iv ((g 57 0 a) / 24), iv ((g 57 0 a) % 24), iv ((24 * ((g 57 0 a) % 24)) + ((g 57 0 a) / 24))]) dX5_deliver_76 (Nat.le_of_ble_eq_true rfl) (Nat.le_of_ble_eq_true rfl) rfl k) ?_
        refine j_lift (fun _ k => g_aload_n (pc := 78) dX5_deliver_78 rfl k) ?_
        refine j_lift (fun _ k => fg_X5_deliver_23 (pc := 79) hb dX5_deliver_79 k) ?_
        refine j_lift (fun _ k => g_iload (pc := 82) dX5_deliver_82 rfl k) ?_
        refine j_ck (fun c12 => ?_)
        refine j_lift (fun _ k => g_baload (pc := 84) (k := 39) (i := 0) (n := 24) (by rw [hb]; decide) rfl (by decide) c12 dX5_deliver_84 k) ?_
        refine j_if_eq (pc := 85) 90 dX5_deliver_85 (by decide) (fun h13 => ?_) (fun h13 => ?_)
        · refine j_lift (fun _ k => g_iload_n (pc := 90) dX5_deliver_90 rfl k) ?_
          refine j_lift (fun _ k => g_iconst (pc := 91) (v := 2) dX5_deliver_91 (by decide +kernel) k) ?_
          refine j_icmp_ne (pc := 92) 136 dX5_deliver_92 (by decide) (fun h14 => ?_) (fun h14 => ?_)
          · refine j_lift (fun _ k => g_iload (pc := 136) dX5_deliver_136 rfl k) ?_
            refine j_lift (fun _ k => g_aload_n (pc := 138) dX5_deliver_138 rfl k) ?_
            refine j_lift (fun _ k => fg_X5_deliver_53 (pc := 139) hb dX5_deliver_139 k) ?_
            refine j_lift (fun _ k => g_iload_n (pc := 142) dX5_deliver_142 rfl k) ?_
            refine j_ck (fun c15 => ?_)
            refine j_lift (fun _ k => g_iaload (pc := 143) (k := 50) (i := 0) (n := 576) (by rw [hb]; decide) rfl (by decide) c15 dX5_deliver_143 k) ?_
            refine j_icmp_ge (pc := 144) 159 dX5_deliver_144 (by decide) (fun h16 => ?_) (fun h16 => ?_)
            · refine j_lift (fun _ k => g_aload_n (pc := 159) dX5_deliver_159 rfl k) ?_
              refine j_lift (fun _ k => fg_X5_deliver_53 (pc := 160) hb dX5_deliver_160 k) ?_
              refine j_lift (fun _ k => g_iload_n (pc := 163) dX5_deliver_163 rfl k) ?_
              refine j_lift (fun _ k => g_dup2 (pc := 164) dX5_deliver_164 rfl rfl k) ?_
              refine j_ck (fun c17 => ?_)
              refine j_lift (fun _ k => g_iaload (pc := 165) (k := 50) (i := 0) (n := 576) (by rw [hb]; decide) rfl (by decide) c17 dX5_deliver_165 k) ?_
              refine j_lift (fun _ k => g_iconst (pc := 166) (v := 1) dX5_deliver_166 (by decide +kernel) k) ?_
              refine j_lift (fun _ k => g_iadd (pc := 167) (a := g9 50 0 (g 57 0 a)) (b := 1) dX5_deliver_167 k) ?_
              refine j_ck (fun c18 => ?_)
              refine j_w (fun _ k => g_iastore (pc := 168) (k := 50) (i := 0) (n := 576) (by rw [hb]; decide) (fun _ => rfl) (by decide) c18 dX5_deliver_168 k) (fun g19 => ?_)
              refine j_lift (fun _ k => g_iload_n (pc := 169) dX5_deliver_169 rfl k) ?_
              refine j_jn (α := Nat) 203 (fun _ => [rv Z 5 0, iv a, iv (g 57 0 a), iv (g 58 0 a), iv (g 59 0 a), iv (g 60 0 a), iv ((g 57 0 a) / 24), iv ((g 57 0 a) % 24), iv ((24 * ((g 57 0 a) % 24)) + ((g 57 0 a) / 24))]) (fun _ => []) (fun x23 g24 => ?_) (fun kj21 hk22 => ?_)
              · refine j_lift (fun _ k => g_aload_n (pc := 203) dX5_deliver_203 rfl k) ?_
                refine j_lift (fun _ k => g_iload (pc := 204) dX5_deliver_204 rfl k) ?_
                refine j_lift (fun _ k => g_iconst (pc := 206) (v := 2) dX5_deliver_206 (by decide +kernel) k) ?_
                refine j_lift (fun _ k => g_iconst (pc := 207) (v := 0) dX5_deliver_207 (by decide +kernel) k) ?_
                refine j_lift (fun _ k => g_iload (pc := 208) dX5_deliver_208 rfl k) ?_
                refine j_callVv (pc := 210) (Y' := mX5_send) (As := [iv ((24 * ((g 57 0 a) % 24)) + ((g 57 0 a) / 24)), iv 2, iv 0, iv (g 60 0 a)]) (st := []) (k := 5) (i := 0) (p_X5_send hb) gX5_deliver_X5_send rfl (by rw [hb]; decide) rfl rfl (na := 4) rfl (by decide +kernel) (by decide) (by decide) (Nat.le_of_ble_eq_true rfl) dX5_deliver_210 (fun _ g26 => ?_)
                refine j_lift (fun _ k => g_iconst (pc := 213) (v := 1) dX5_deliver_213 (by decide +kernel) k) ?_
                exact j_iret (pc := 214) dX5_deliver_214 ⟨mg_narI _, Or.inl rfl⟩ rfl
              · refine j_if_ne (pc := 170) 186 dX5_deliver_170 (by decide) (fun h20 => ?_) (fun h20 => ?_)
                · refine j_lift (fun _ k => g_aload_n (pc := 186) dX5_deliver_186 rfl k) ?_
                  refine j_lift (fun _ k => fg_X5_deliver_13 (pc := 187) hb dX5_deliver_187 k) ?_
                  refine j_lift (fun _ k => g_iload (pc := 190) dX5_deliver_190 rfl k) ?_
                  refine j_lift (fun _ k => g_iload (pc := 192) dX5_deliver_192 rfl k) ?_
                  refine j_w (fun _ k => g_iastore (pc := 194) (k := 36) (i := 0) (n := 24) (by rw [hb]; decide) (fun _ => rfl) (by decide) c12 dX5_deliver_194 k) (fun g27 => ?_)
                  refine j_lift (fun _ k => g_aload_n (pc := 195) dX5_deliver_195 rfl k) ?_
                  refine j_lift (fun _ k => fg_X5_deliver_17 (pc := 196) hb dX5_deliver_196 k) ?_
                  refine j_lift (fun _ k => g_iload (pc := 199) dX5_deliver_199 rfl k) ?_
                  refine j_lift (fun _ k => g_iconst (pc := 201) (v := 0) dX5_deliver_201 (by decide +kernel) k) ?_
                  refine j_w (fun _ k => g_bastore (pc := 202) (k := 37) (i := 0) (n := 24) (by rw [hb]; decide) (fun _ => rfl) (by decide) c12 (by decide) dX5_deliver_202 k) (fun g28 => ?_)
                  exact hk22 0 g28
                · refine j_lift (fun _ k => g_aload_n (pc := 173) dX5_deliver_173 rfl k) ?_
                  refine j_lift (fun _ k => g_iload (pc := 174) dX5_deliver_174 rfl k) ?_
                  refine j_lift (fun _ k => g_iload (pc := 176) dX5_deliver_176 rfl k) ?_
                  refine j_lift (fun _ k => g_iload (pc := 178) dX5_deliver_178 rfl k) ?_
                  refine j_callVv (pc := 180) (Y' := mX5_come) (As := [iv ((g 57 0 a) % 24), iv ((g 57 0 a) / 24), iv (g 59 0 a)]) (st := []) (k := 5) (i := 0) (p_X5_come hb) gX5_deliver_X5_come rfl (by rw [hb]; decide) rfl rfl (na := 3) rfl (by decide +kernel) (by decide) (by decide) (Nat.le_of_ble_eq_true rfl) dX5_deliver_180 (fun _ g30 => ?_)
                  refine j_lift (fun _ k => g_goto (pc := 183) 203 dX5_deliver_183 (by decide) k) ?_
                  exact hk22 0 g30
            · refine j_lift (fun _ k => g_aload_n (pc := 147) dX5_deliver_147 rfl k) ?_
              refine j_lift (fun _ k => g_iload (pc := 148) dX5_deliver_148 rfl k) ?_
              refine j_lift (fun _ k => g_iconst (pc := 150) (v := 2) dX5_deliver_150 (by decide +kernel) k) ?_
              refine j_lift (fun _ k => g_iconst (pc := 151) (v := 0) dX5_deliver_151 (by decide +kernel) k) ?_
              refine j_lift (fun _ k => g_iload (pc := 152) dX5_deliver_152 rfl k) ?_
              refine j_callVv (pc := 154) (Y' := mX5_send) (As := [iv ((24 * ((g 57 0 a) % 24)) + ((g 57 0 a) / 24)), iv 2, iv 0, iv (g 60 0 a)]) (st := []) (k := 5) (i := 0) (p_X5_send hb) gX5_deliver_X5_send rfl (by rw [hb]; decide) rfl rfl (na := 4) rfl (by decide +kernel) (by decide) (by decide) (Nat.le_of_ble_eq_true rfl) dX5_deliver_154 (fun _ g32 => ?_)
              refine j_lift (fun _ k => g_iconst (pc := 157) (v := 2) dX5_deliver_157 (by decide +kernel) k) ?_
              exact j_iret (pc := 158) dX5_deliver_158 ⟨mg_narI _, Or.inl rfl⟩ rfl
          · refine j_lift (fun _ k => g_aload_n (pc := 95) dX5_deliver_95 rfl k) ?_
            refine j_lift (fun _ k => g_iload (pc := 96) dX5_deliver_96 rfl k) ?_
            refine j_callVi (pc := 98) (Y' := mX5_firstLetter) (As := [iv ((24 * ((g 57 0 a) % 24)) + ((g 57 0 a) / 24))]) (st := []) (k := 5) (i := 0) (p_X5_firstLetter hb) gX5_deliver_X5_firstLetter rfl (by rw [hb]; decide) rfl rfl (na := 1) rfl (by decide +kernel) (by decide) (by decide) (Nat.le_of_ble_eq_true rfl) dX5_deliver_98 (fun r33 g34 => ?_)
            refine j_lift (fun _ k => g_istore (pc := 101) (ls' := [rv Z 5 0, iv a, iv (g 57 0 a), iv (g 58 0 a), iv (g 59 0 a), iv (g 60 0 a), iv ((g 57 0 a) / 24), iv ((g 57 0 a) % 24), iv ((24 * ((g 57 0 a) % 24)) + ((g 57 0 a) / 24)), iv r33]) dX5_deliver_101 (Nat.le_of_ble_eq_true rfl) (Nat.le_of_ble_eq_true rfl) rfl k) ?_
            refine j_lift (fun _ k => g_iload (pc := 103) dX5_deliver_103 rfl k) ?_
            refine j_if_lt (pc := 105) 120 dX5_deliver_105 (by decide) (fun h35 => ?_) (fun h35 => ?_)
            · refine j_lift (fun _ k => g_iconst (pc := 120) (v := 4) dX5_deliver_120 (by decide +kernel) k) ?_
              exact j_iret (pc := 121) dX5_deliver_121 ⟨mg_narI _, Or.inl rfl⟩ rfl
            · refine j_lift (fun _ k => g_aload_n (pc := 108) dX5_deliver_108 rfl k) ?_
              refine j_lift (fun _ k => fg_X5_deliver_65 (pc := 109) hb dX5_deliver_109 k) ?_
              refine j_lift (fun _ k => g_iload (pc := 112) dX5_deliver_112 rfl k) ?_
              refine j_ck (fun c36 => ?_)
              refine j_lift (fun _ k => g_iaload (pc := 114) (k := 55) (i := 0) (n := 3000) (by rw [hb]; decide) rfl (by decide) c36 dX5_deliver_114 k) ?_
              refine j_lift (fun _ k => g_iload (pc := 115) dX5_deliver_115 rfl k) ?_
              refine j_icmp_eq (pc := 117) 122 dX5_deliver_117 (by decide) (fun h37 => ?_) (fun h37 => ?_)
              · refine j_lift (fun _ k => g_aload_n (pc := 122) dX5_deliver_122 rfl k) ?_
                refine j_lift (fun _ k => g_iload (pc := 123) dX5_deliver_123 rfl k) ?_
                refine j_callVv (pc := 125) (Y' := mX5_dropLetter) (As := [iv r33]) (st := []) (k := 5) (i := 0) (p_X5_dropLetter hb) gX5_deliver_X5_dropLetter rfl (by rw [hb]; decide) rfl rfl (na := 1) rfl (by decide +kernel) (by decide) (by decide) (Nat.le_of_ble_eq_true rfl) dX5_deliver_125 (fun _ g39 => ?_)
                refine j_lift (fun _ k => g_aload_n (pc := 128) dX5_deliver_128 rfl k) ?_
                refine j_lift (fun _ k => g_iload (pc := 129) dX5_deliver_129 rfl k) ?_
                refine j_callVv (pc := 131) (Y' := mX5_sendFirst) (As := [iv ((24 * ((g 57 0 a) % 24)) + ((g 57 0 a) / 24))]) (st := []) (k := 5) (i := 0) (p_X5_sendFirst hb) gX5_deliver_X5_sendFirst rfl (by rw [hb]; decide) rfl rfl (na := 1) rfl (by decide +kernel) (by decide) (by decide) (Nat.le_of_ble_eq_true rfl) dX5_deliver_131 (fun _ g41 => ?_)
                refine j_lift (fun _ k => g_iconst (pc := 134) (v := 3) dX5_deliver_134 (by decide +kernel) k) ?_
                exact j_iret (pc := 135) dX5_deliver_135 ⟨mg_narI _, Or.inl rfl⟩ rfl
              · refine j_lift (fun _ k => g_iconst (pc := 120) (v := 4) dX5_deliver_120 (by decide +kernel) k) ?_
                exact j_iret (pc := 121) dX5_deliver_121 ⟨mg_narI _, Or.inl rfl⟩ rfl
        · refine j_lift (fun _ k => g_iconst (pc := 88) (v := 0) dX5_deliver_88 (by decide +kernel) k) ?_
          exact j_iret (pc := 89) dX5_deliver_89 ⟨mg_narI _, Or.inl rfl⟩ rfl
      · refine j_lift (fun _ k => g_iconst (pc := 19) (v := 4294967295) dX5_deliver_19 (by decide +kernel) k) ?_
        exact j_iret (pc := 20) dX5_deliver_20 ⟨mg_narI _, Or.inl rfl⟩ rfl

/-- X5_lose -/
def P_X5_lose (a : Nat) (g : mg_F) : mo := if sv (g 5 0 1) = 0 then (some (4294967295, g)) else (if sv a < 0 then (some (4294967295, g)) else (if sv a < sv (g 5 0 26) then (bd (P_X5_dropCopy a g) fun _ g5 => some (g5 5 0 26, g5)) else (some (4294967295, g))))
theorem p_X5_lose {l : Launch} {Z : mg_Zt} {a : Nat} {g : mg_F} (hb : Z.2.2.1 = true) : ∀ (r : Nat) (g' : mg_F), P_X5_lose a g = some (r, g') → mg_C l Z mX5_lose [rv Z 5 0, iv a] g (mp mX5_lose r g') := by
  refine mC_of (by decide) rfl (Nat.le_of_ble_eq_true rfl) (List.forall_mem_cons.mpr ⟨rfl, (List.forall_mem_cons.mpr ⟨rfl, (fun _ h => nomatch h)⟩)⟩) (fun K => ?_)
  unfold P_X5_lose
  refine j_lift (fun _ k => g_aload_n (pc := 0) dX5_lose_0 rfl k) ?_
  refine j_lift (fun _ k => fg_X5_lose_105 (pc := 1) hb dX5_lose_1 k) ?_
  refine j_if_eq (pc := 4) 19 dX5_lose_4 (by decide) (fun h1 => ?_) (fun h1 => ?_)
  · refine j_lift (fun _ k => g_iconst (pc := 19) (v := 4294967295) dX5_lose_19 (by decide +kernel) k) ?_
    exact j_iret (pc := 20) dX5_lose_20 ⟨mg_narI _, Or.inl rfl⟩ rfl
  · refine j_lift (fun _ k => g_iload_n (pc := 7) dX5_lose_7 rfl k) ?_
    refine j_if_lt (pc := 8) 19 dX5_lose_8 (by decide) (fun h2 => ?_) (fun h2 => ?_)
    · refine j_lift (fun _ k => g_iconst (pc := 19) (v := 4294967295) dX5_lose_19 (by decide +kernel) k) ?_
      exact j_iret (pc := 20) dX5_lose_20 ⟨mg_narI _, Or.inl rfl⟩ rfl
    · refine j_lift (fun _ k => g_iload_n (pc := 11) dX5_lose_11 rfl k) ?_
      refine j_lift (fun _ k => g_aload_n (pc := 12) dX5_lose_12 rfl k) ?_
      refine j_lift (fun _ k => fg_X5_lose_136 (pc := 13) hb dX5_lose_13 k) ?_
      refine j_icmp_lt (pc := 16) 21 dX5_lose_16 (by decide) (fun h3 => ?_) (fun h3 => ?_)
      · refine j_lift (fun _ k => g_aload_n (pc := 21) dX5_lose_21 rfl k) ?_
        refine j_lift (fun _ k => g_iload_n (pc := 22) dX5_lose_22 rfl k) ?_
        refine j_callVv (pc := 23) (Y' := mX5_dropCopy) (As := [iv a]) (st := []) (k := 5) (i := 0) (p_X5_dropCopy hb) gX5_lose_X5_dropCopy rfl (by rw [hb]; decide) rfl rfl (na := 1) rfl (by decide +kernel) (by decide) (by decide) (Nat.le_of_ble_eq_true rfl) dX5_lose_23 (fun _ g5 => ?_)
        refine j_lift (fun _ k => g_aload_n (pc := 26) dX5_lose_26 rfl k) ?_
        refine j_lift (fun _ k => fg_X5_lose_136 (pc := 27) hb dX5_lose_27 k) ?_
        exact j_iret (pc := 30) dX5_lose_30 ⟨mg_narI _, Or.inl rfl⟩ rfl
      · refine j_lift (fun _ k => g_iconst (pc := 19) (v := 4294967295) dX5_lose_19 (by decide +kernel) k) ?_
        exact j_iret (pc := 20) dX5_lose_20 ⟨mg_narI _, Or.inl rfl⟩ rfl

/-- X5_twin -/
def P_X5_twin (a : Nat) (g : mg_F) : mo := if sv (g 5 0 1) = 0 then (some (4294967295, g)) else (if sv a < 0 then (some (4294967295, g)) else (if sv a < sv (g 5 0 26) then (if sv (g 5 0 26) = sv 60 then (some (4294967295, g)) else (ck (a < 60) <| ck (a < 60) <| ck (a < 60) <| ck (a < 60) <| bd (P_X5_send (g 57 0 a) (g 58 0 a) (g 59 0 a) (g 60 0 a) g) fun _ g10 => some (g10 5 0 26, g10))) else (some (4294967295, g))))
theorem p_X5_twin {l : Launch} {Z : mg_Zt} {a : Nat} {g : mg_F} (hb : Z.2.2.1 = true) : ∀ (r : Nat) (g' : mg_F), P_X5_twin a g = some (r, g') → mg_C l Z mX5_twin [rv Z 5 0, iv a] g (mp mX5_twin r g') := by
  refine mC_of (by decide) rfl (Nat.le_of_ble_eq_true rfl) (List.forall_mem_cons.mpr ⟨rfl, (List.forall_mem_cons.mpr ⟨rfl, (fun _ h => nomatch h)⟩)⟩) (fun K => ?_)
  unfold P_X5_twin
  refine j_lift (fun _ k => g_aload_n (pc := 0) dX5_twin_0 rfl k) ?_
  refine j_lift (fun _ k => fg_X5_twin_105 (pc := 1) hb dX5_twin_1 k) ?_
  refine j_if_eq (pc := 4) 28 dX5_twin_4 (by decide) (fun h1 => ?_) (fun h1 => ?_)
  · refine j_lift (fun _ k => g_iconst (pc := 28) (v := 4294967295) dX5_twin_28 (by decide +kernel) k) ?_
    exact j_iret (pc := 29) dX5_twin_29 ⟨mg_narI _, Or.inl rfl⟩ rfl
  · refine j_lift (fun _ k => g_iload_n (pc := 7) dX5_twin_7 rfl k) ?_
    refine j_if_lt (pc := 8) 28 dX5_twin_8 (by decide) (fun h2 => ?_) (fun h2 => ?_)
    · refine j_lift (fun _ k => g_iconst (pc := 28) (v := 4294967295) dX5_twin_28 (by decide +kernel) k) ?_
      exact j_iret (pc := 29) dX5_twin_29 ⟨mg_narI _, Or.inl rfl⟩ rfl
    · refine j_lift (fun _ k => g_iload_n (pc := 11) dX5_twin_11 rfl k) ?_
      refine j_lift (fun _ k => g_aload_n (pc := 12) dX5_twin_12 rfl k) ?_
      refine j_lift (fun _ k => fg_X5_twin_136 (pc := 13) hb dX5_twin_13 k) ?_
      refine j_icmp_ge (pc := 16) 28 dX5_twin_16 (by decide) (fun h3 => ?_) (fun h3 => ?_)
      · refine j_lift (fun _ k => g_iconst (pc := 28) (v := 4294967295) dX5_twin_28 (by decide +kernel) k) ?_
        exact j_iret (pc := 29) dX5_twin_29 ⟨mg_narI _, Or.inl rfl⟩ rfl
      · refine j_lift (fun _ k => g_aload_n (pc := 19) dX5_twin_19 rfl k) ?_
        refine j_lift (fun _ k => fg_X5_twin_136 (pc := 20) hb dX5_twin_20 k) ?_
        refine j_lift (fun _ k => g_bipush (pc := 23) (v := 60) dX5_twin_23 (by decide +kernel) k) ?_
        refine j_icmp_ne (pc := 25) 30 dX5_twin_25 (by decide) (fun h4 => ?_) (fun h4 => ?_)
        · refine j_lift (fun _ k => g_aload_n (pc := 30) dX5_twin_30 rfl k) ?_
          refine j_lift (fun _ k => g_aload_n (pc := 31) dX5_twin_31 rfl k) ?_
          refine j_lift (fun _ k => fg_X5_twin_68 (pc := 32) hb dX5_twin_32 k) ?_
          refine j_lift (fun _ k => g_iload_n (pc := 35) dX5_twin_35 rfl k) ?_
          refine j_ck (fun c5 => ?_)
          refine j_lift (fun _ k => g_iaload (pc := 36) (k := 57) (i := 0) (n := 60) (by rw [hb]; decide) rfl (by decide) c5 dX5_twin_36 k) ?_
          refine j_lift (fun _ k => g_aload_n (pc := 37) dX5_twin_37 rfl k) ?_
          refine j_lift (fun _ k => fg_X5_twin_71 (pc := 38) hb dX5_twin_38 k) ?_
          refine j_lift (fun _ k => g_iload_n (pc := 41) dX5_twin_41 rfl k) ?_
          refine j_ck (fun c6 => ?_)
          refine j_lift (fun _ k => g_iaload (pc := 42) (k := 58) (i := 0) (n := 60) (by rw [hb]; decide) rfl (by decide) c6 dX5_twin_42 k) ?_
          refine j_lift (fun _ k => g_aload_n (pc := 43) dX5_twin_43 rfl k) ?_
          refine j_lift (fun _ k => fg_X5_twin_74 (pc := 44) hb dX5_twin_44 k) ?_
          refine j_lift (fun _ k => g_iload_n (pc := 47) dX5_twin_47 rfl k) ?_
          refine j_ck (fun c7 => ?_)
          refine j_lift (fun _ k => g_iaload (pc := 48) (k := 59) (i := 0) (n := 60) (by rw [hb]; decide) rfl (by decide) c7 dX5_twin_48 k) ?_
          refine j_lift (fun _ k => g_aload_n (pc := 49) dX5_twin_49 rfl k) ?_
          refine j_lift (fun _ k => fg_X5_twin_77 (pc := 50) hb dX5_twin_50 k) ?_
          refine j_lift (fun _ k => g_iload_n (pc := 53) dX5_twin_53 rfl k) ?_
          refine j_ck (fun c8 => ?_)
          refine j_lift (fun _ k => g_iaload (pc := 54) (k := 60) (i := 0) (n := 60) (by rw [hb]; decide) rfl (by decide) c8 dX5_twin_54 k) ?_
          refine j_callVv (pc := 55) (Y' := mX5_send) (As := [iv (g 57 0 a), iv (g 58 0 a), iv (g 59 0 a), iv (g 60 0 a)]) (st := []) (k := 5) (i := 0) (p_X5_send hb) gX5_twin_X5_send rfl (by rw [hb]; decide) rfl rfl (na := 4) rfl (by decide +kernel) (by decide) (by decide) (Nat.le_of_ble_eq_true rfl) dX5_twin_55 (fun _ g10 => ?_)
          refine j_lift (fun _ k => g_aload_n (pc := 58) dX5_twin_58 rfl k) ?_
          refine j_lift (fun _ k => fg_X5_twin_136 (pc := 59) hb dX5_twin_59 k) ?_
          exact j_iret (pc := 62) dX5_twin_62 ⟨mg_narI _, Or.inl rfl⟩ rfl
        · refine j_lift (fun _ k => g_iconst (pc := 28) (v := 4294967295) dX5_twin_28 (by decide +kernel) k) ?_
          exact j_iret (pc := 29) dX5_twin_29 ⟨mg_narI _, Or.inl rfl⟩ rfl

/-- X5_resend -/
def L_X5_resend_12 (a1 : Nat) (k : Nat → mg_F → mo) : Nat → Nat → mg_F → mo
  | 0, _, _ => none
  | n + 1, v2, g => if sv v2 < sv (g 5 0 0) then (bd (P_X5_sendFirst ((24 * a1) + v2) g) fun _ g3 => L_X5_resend_12 a1 k n (v2 + 1) g3) else (k v2 g)
theorem l_X5_resend_12 {K : mg_Kt} {Z : mg_Zt} (hb : Z.2.2.1 = true) {a1 : Nat}  {k : Nat → mg_F → mo} (hk : ∀ (v2 : Nat) (g : mg_F), mj K Z mX5_resend (k v2 g) 36 [rv Z 5 0, iv a1, iv v2] [] g) : ∀ (n : Nat) (v2 : Nat) (g : mg_F), mj K Z mX5_resend (L_X5_resend_12 a1 k n v2 g) 12 [rv Z 5 0, iv a1, iv v2] [] g := by
  intro n
  induction n with
  | zero => intro _ _; exact j_none
  | succ n ih =>
    intro v2 g
    unfold L_X5_resend_12
    refine j_lift (fun _ k => g_iload_n (pc := 12) dX5_resend_12 rfl k) ?_
    refine j_lift (fun _ k => g_aload_n (pc := 13) dX5_resend_13 rfl k) ?_
    refine j_lift (fun _ k => fg_X5_resend_101 (pc := 14) hb dX5_resend_14 k) ?_
    refine j_icmp_ge (pc := 17) 36 dX5_resend_17 (by decide) (fun h1 => ?_) (fun h1 => ?_)
    · exact hk v2 g
    · refine j_lift (fun _ k => g_aload_n (pc := 20) dX5_resend_20 rfl k) ?_
      refine j_lift (fun _ k => g_bipush (pc := 21) (v := 24) dX5_resend_21 (by decide +kernel) k) ?_
      refine j_lift (fun _ k => g_iload_n (pc := 23) dX5_resend_23 rfl k) ?_
      refine j_lift (fun _ k => g_imul (pc := 24) (a := 24) (b := a1) dX5_resend_24 k) ?_
      refine j_lift (fun _ k => g_iload_n (pc := 25) dX5_resend_25 rfl k) ?_
      refine j_lift (fun _ k => g_iadd (pc := 26) (a := 24 * a1) (b := v2) dX5_resend_26 k) ?_
      refine j_callVv (pc := 27) (Y' := mX5_sendFirst) (As := [iv ((24 * a1) + v2)]) (st := []) (k := 5) (i := 0) (p_X5_sendFirst hb) gX5_resend_X5_sendFirst rfl (by rw [hb]; decide) rfl rfl (na := 1) rfl (by decide +kernel) (by decide) (by decide) (Nat.le_of_ble_eq_true rfl) dX5_resend_27 (fun _ g3 => ?_)
      refine j_lift (fun _ k => g_iinc (pc := 30) (v := v2 + 1) (ls' := [rv Z 5 0, iv a1, iv (v2 + 1)]) dX5_resend_30 (Nat.le_of_ble_eq_true rfl) rfl (mg_inc _) rfl k) ?_
      refine j_lift (fun _ k => g_goto (pc := 33) 12 dX5_resend_33 (by decide) k) ?_
      exact ih (v2 + 1) g3
def P_X5_resend (a : Nat) (g : mg_F) : mo := bd (P_X5_isUp a g) fun r1 g2 => if sv r1 = 0 then (some (4294967295, g2)) else (L_X5_resend_12 a (fun w4 g5 => some (g5 5 0 26, g5)) 4000 0 g2)
theorem p_X5_resend {l : Launch} {Z : mg_Zt} {a : Nat} {g : mg_F} (hb : Z.2.2.1 = true) : ∀ (r : Nat) (g' : mg_F), P_X5_resend a g = some (r, g') → mg_C l Z mX5_resend [rv Z 5 0, iv a] g (mp mX5_resend r g') := by
  refine mC_of (by decide) rfl (Nat.le_of_ble_eq_true rfl) (List.forall_mem_cons.mpr ⟨rfl, (List.forall_mem_cons.mpr ⟨rfl, (fun _ h => nomatch h)⟩)⟩) (fun K => ?_)
  unfold P_X5_resend
  refine j_lift (fun _ k => g_aload_n (pc := 0) dX5_resend_0 rfl k) ?_
  refine j_lift (fun _ k => g_iload_n (pc := 1) dX5_resend_1 rfl k) ?_
  refine j_callVi (pc := 2) (Y' := mX5_isUp) (As := [iv a]) (st := []) (k := 5) (i := 0) (p_X5_isUp hb) gX5_resend_X5_isUp rfl (by rw [hb]; decide) rfl rfl (na := 1) rfl (by decide +kernel) (by decide) (by decide) (Nat.le_of_ble_eq_true rfl) dX5_resend_2 (fun r1 g2 => ?_)
  refine j_if_ne (pc := 5) 10 dX5_resend_5 (by decide) (fun h3 => ?_) (fun h3 => ?_)
  · refine j_lift (fun _ k => g_iconst (pc := 10) (v := 0) dX5_resend_10 (by decide +kernel) k) ?_
    refine j_lift (fun _ k => g_istore_n (pc := 11) (ls' := [rv Z 5 0, iv a, iv 0]) dX5_resend_11 (Nat.le_of_ble_eq_true rfl) (Nat.le_of_ble_eq_true rfl) rfl k) ?_
    refine l_X5_resend_12 hb  (fun w4 g5 => ?_) 4000 0 g2
    refine j_lift (fun _ k => g_aload_n (pc := 36) dX5_resend_36 rfl k) ?_
    refine j_lift (fun _ k => fg_X5_resend_136 (pc := 37) hb dX5_resend_37 k) ?_
    exact j_iret (pc := 40) dX5_resend_40 ⟨mg_narI _, Or.inl rfl⟩ rfl
  · refine j_lift (fun _ k => g_iconst (pc := 8) (v := 4294967295) dX5_resend_8 (by decide +kernel) k) ?_
    exact j_iret (pc := 9) dX5_resend_9 ⟨mg_narI _, Or.inl rfl⟩ rfl

/-- X5_crash -/
def P_X5_crash (a : Nat) (g : mg_F) : mo := bd (P_X5_isUp a g) fun r1 g2 => if sv r1 = 0 then (some (4294967295, g2)) else (bd (P_X5_stop a g2) fun _ g5 => ck (a < 24) <| wr (mg_up g5 39 0 a 1) fun g7 => some (0, g7))
theorem p_X5_crash {l : Launch} {Z : mg_Zt} {a : Nat} {g : mg_F} (hb : Z.2.2.1 = true) : ∀ (r : Nat) (g' : mg_F), P_X5_crash a g = some (r, g') → mg_C l Z mX5_crash [rv Z 5 0, iv a] g (mp mX5_crash r g') := by
  refine mC_of (by decide) rfl (Nat.le_of_ble_eq_true rfl) (List.forall_mem_cons.mpr ⟨rfl, (List.forall_mem_cons.mpr ⟨rfl, (fun _ h => nomatch h)⟩)⟩) (fun K => ?_)
  unfold P_X5_crash
  refine j_lift (fun _ k => g_aload_n (pc := 0) dX5_crash_0 rfl k) ?_
  refine j_lift (fun _ k => g_iload_n (pc := 1) dX5_crash_1 rfl k) ?_
  refine j_callVi (pc := 2) (Y' := mX5_isUp) (As := [iv a]) (st := []) (k := 5) (i := 0) (p_X5_isUp hb) gX5_crash_X5_isUp rfl (by rw [hb]; decide) rfl rfl (na := 1) rfl (by decide +kernel) (by decide) (by decide) (Nat.le_of_ble_eq_true rfl) dX5_crash_2 (fun r1 g2 => ?_)
  refine j_if_ne (pc := 5) 10 dX5_crash_5 (by decide) (fun h3 => ?_) (fun h3 => ?_)
  · refine j_lift (fun _ k => g_aload_n (pc := 10) dX5_crash_10 rfl k) ?_
    refine j_lift (fun _ k => g_iload_n (pc := 11) dX5_crash_11 rfl k) ?_
    refine j_callVv (pc := 12) (Y' := mX5_stop) (As := [iv a]) (st := []) (k := 5) (i := 0) (p_X5_stop hb) gX5_crash_X5_stop rfl (by rw [hb]; decide) rfl rfl (na := 1) rfl (by decide +kernel) (by decide) (by decide) (Nat.le_of_ble_eq_true rfl) dX5_crash_12 (fun _ g5 => ?_)
    refine j_lift (fun _ k => g_aload_n (pc := 15) dX5_crash_15 rfl k) ?_
    refine j_lift (fun _ k => fg_X5_crash_23 (pc := 16) hb dX5_crash_16 k) ?_
    refine j_lift (fun _ k => g_iload_n (pc := 19) dX5_crash_19 rfl k) ?_
    refine j_lift (fun _ k => g_iconst (pc := 20) (v := 1) dX5_crash_20 (by decide +kernel) k) ?_
    refine j_ck (fun c6 => ?_)
    refine j_w (fun _ k => g_bastore (pc := 21) (k := 39) (i := 0) (n := 24) (by rw [hb]; decide) (fun _ => rfl) (by decide) c6 (by decide) dX5_crash_21 k) (fun g7 => ?_)
    refine j_lift (fun _ k => g_iconst (pc := 22) (v := 0) dX5_crash_22 (by decide +kernel) k) ?_
    exact j_iret (pc := 23) dX5_crash_23 ⟨mg_narI _, Or.inl rfl⟩ rfl
  · refine j_lift (fun _ k => g_iconst (pc := 8) (v := 4294967295) dX5_crash_8 (by decide +kernel) k) ?_
    exact j_iret (pc := 9) dX5_crash_9 ⟨mg_narI _, Or.inl rfl⟩ rfl

/-- X5_restart -/
def P_X5_restart (a : Nat) (g : mg_F) : mo := if sv (g 5 0 1) = 0 then (some (4294967295, g)) else (bd (P_X5_isStation a g) fun r2 g3 => if sv r2 = 0 then (some (4294967295, g3)) else (ck (a < 24) <| if sv (g3 39 0 a) = 0 then (some (4294967295, g3)) else (wr (mg_up g3 39 0 a 0) fun g7 => some (0, g7))))
theorem p_X5_restart {l : Launch} {Z : mg_Zt} {a : Nat} {g : mg_F} (hb : Z.2.2.1 = true) : ∀ (r : Nat) (g' : mg_F), P_X5_restart a g = some (r, g') → mg_C l Z mX5_restart [rv Z 5 0, iv a] g (mp mX5_restart r g') := by
  refine mC_of (by decide) rfl (Nat.le_of_ble_eq_true rfl) (List.forall_mem_cons.mpr ⟨rfl, (List.forall_mem_cons.mpr ⟨rfl, (fun _ h => nomatch h)⟩)⟩) (fun K => ?_)
  unfold P_X5_restart
  refine j_lift (fun _ k => g_aload_n (pc := 0) dX5_restart_0 rfl k) ?_
  refine j_lift (fun _ k => fg_X5_restart_105 (pc := 1) hb dX5_restart_1 k) ?_
  refine j_if_eq (pc := 4) 24 dX5_restart_4 (by decide) (fun h1 => ?_) (fun h1 => ?_)
  · refine j_lift (fun _ k => g_iconst (pc := 24) (v := 4294967295) dX5_restart_24 (by decide +kernel) k) ?_
    exact j_iret (pc := 25) dX5_restart_25 ⟨mg_narI _, Or.inl rfl⟩ rfl
  · refine j_lift (fun _ k => g_aload_n (pc := 7) dX5_restart_7 rfl k) ?_
    refine j_lift (fun _ k => g_iload_n (pc := 8) dX5_restart_8 rfl k) ?_
    refine j_callVi (pc := 9) (Y' := mX5_isStation) (As := [iv a]) (st := []) (k := 5) (i := 0) (p_X5_isStation hb) gX5_restart_X5_isStation rfl (by rw [hb]; decide) rfl rfl (na := 1) rfl (by decide +kernel) (by decide) (by decide) (Nat.le_of_ble_eq_true rfl) dX5_restart_9 (fun r2 g3 => ?_)
    refine j_if_eq (pc := 12) 24 dX5_restart_12 (by decide) (fun h4 => ?_) (fun h4 => ?_)
    · refine j_lift (fun _ k => g_iconst (pc := 24) (v := 4294967295) dX5_restart_24 (by decide +kernel) k) ?_
      exact j_iret (pc := 25) dX5_restart_25 ⟨mg_narI _, Or.inl rfl⟩ rfl
    · refine j_lift (fun _ k => g_aload_n (pc := 15) dX5_restart_15 rfl k) ?_
      refine j_lift (fun _ k => fg_X5_restart_23 (pc := 16) hb dX5_restart_16 k) ?_
      refine j_lift (fun _ k => g_iload_n (pc := 19) dX5_restart_19 rfl k) ?_
      refine j_ck (fun c5 => ?_)
      refine j_lift (fun _ k => g_baload (pc := 20) (k := 39) (i := 0) (n := 24) (by rw [hb]; decide) rfl (by decide) c5 dX5_restart_20 k) ?_
      refine j_if_ne (pc := 21) 26 dX5_restart_21 (by decide) (fun h6 => ?_) (fun h6 => ?_)
      · refine j_lift (fun _ k => g_aload_n (pc := 26) dX5_restart_26 rfl k) ?_
        refine j_lift (fun _ k => fg_X5_restart_23 (pc := 27) hb dX5_restart_27 k) ?_
        refine j_lift (fun _ k => g_iload_n (pc := 30) dX5_restart_30 rfl k) ?_
        refine j_lift (fun _ k => g_iconst (pc := 31) (v := 0) dX5_restart_31 (by decide +kernel) k) ?_
        refine j_w (fun _ k => g_bastore (pc := 32) (k := 39) (i := 0) (n := 24) (by rw [hb]; decide) (fun _ => rfl) (by decide) c5 (by decide) dX5_restart_32 k) (fun g7 => ?_)
        refine j_lift (fun _ k => g_iconst (pc := 33) (v := 0) dX5_restart_33 (by decide +kernel) k) ?_
        exact j_iret (pc := 34) dX5_restart_34 ⟨mg_narI _, Or.inl rfl⟩ rfl
      · refine j_lift (fun _ k => g_iconst (pc := 24) (v := 4294967295) dX5_restart_24 (by decide +kernel) k) ?_
        exact j_iret (pc := 25) dX5_restart_25 ⟨mg_narI _, Or.inl rfl⟩ rfl

