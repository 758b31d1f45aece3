/-! ===== the programs of the methods, 4 ===== -/
/-- X5_isUp -/
def P_X5_isUp (a : Nat) (g : mg_F) : mo := if sv (g 5 0 1) = 0 then (some (0, g)) else (bd (P_X5_isStation a g) fun r2 g3 => if sv r2 = 0 then (some (0, g3)) else (ck (a < 24) <| if sv (g3 39 0 a) = 0 then (some (1, g3)) else (some (0, g3))))
theorem p_X5_isUp {l : Launch} {Z : mg_Zt} {a : Nat} {g : mg_F} (hb : Z.2.2.1 = true) : ∀ (r : Nat) (g' : mg_F), P_X5_isUp a g = some (r, g') → mg_C l Z mX5_isUp [rv Z 5 0, iv a] g (mp mX5_isUp r g') := by
  refine mC_of (by decide) rfl (Nat.le_of_ble_eq_true rfl) (List.forall_mem_cons.mpr ⟨rfl, (List.forall_mem_cons.mpr ⟨rfl, (fun _ h => nomatch h)⟩)⟩) (fun K => ?_)
  unfold P_X5_isUp
  refine j_lift (fun _ k => g_aload_n (pc := 0) dX5_isUp_0 rfl k) ?_
  refine j_lift (fun _ k => fg_X5_isUp_105 (pc := 1) hb dX5_isUp_1 k) ?_
  refine j_if_eq (pc := 4) 28 dX5_isUp_4 (by decide) (fun h1 => ?_) (fun h1 => ?_)
  · refine j_lift (fun _ k => g_iconst (pc := 28) (v := 0) dX5_isUp_28 (by decide +kernel) k) ?_
    exact j_iret (pc := 29) dX5_isUp_29 ⟨mg_narZ (by decide), Or.inr rfl⟩ rfl
  · refine j_lift (fun _ k => g_aload_n (pc := 7) dX5_isUp_7 rfl k) ?_
    refine j_lift (fun _ k => g_iload_n (pc := 8) dX5_isUp_8 rfl k) ?_
    refine j_callVi (pc := 9) (Y' := mX5_isStation) (As := [iv a]) (st := []) (k := 5) (i := 0) (p_X5_isStation hb) gX5_isUp_X5_isStation rfl (by rw [hb]; decide) rfl rfl (na := 1) rfl (by decide +kernel) (by decide) (by decide) (Nat.le_of_ble_eq_true rfl) dX5_isUp_9 (fun r2 g3 => ?_)
    refine j_if_eq (pc := 12) 28 dX5_isUp_12 (by decide) (fun h4 => ?_) (fun h4 => ?_)
    · refine j_lift (fun _ k => g_iconst (pc := 28) (v := 0) dX5_isUp_28 (by decide +kernel) k) ?_
      exact j_iret (pc := 29) dX5_isUp_29 ⟨mg_narZ (by decide), Or.inr rfl⟩ rfl
    · refine j_lift (fun _ k => g_aload_n (pc := 15) dX5_isUp_15 rfl k) ?_
      refine j_lift (fun _ k => fg_X5_isUp_23 (pc := 16) hb dX5_isUp_16 k) ?_
      refine j_lift (fun _ k => g_iload_n (pc := 19) dX5_isUp_19 rfl k) ?_
      refine j_ck (fun c5 => ?_)
      refine j_lift (fun _ k => g_baload (pc := 20) (k := 39) (i := 0) (n := 24) (by rw [hb]; decide) rfl (by decide) c5 dX5_isUp_20 k) ?_
      refine j_if_ne (pc := 21) 28 dX5_isUp_21 (by decide) (fun h6 => ?_) (fun h6 => ?_)
      · refine j_lift (fun _ k => g_iconst (pc := 28) (v := 0) dX5_isUp_28 (by decide +kernel) k) ?_
        exact j_iret (pc := 29) dX5_isUp_29 ⟨mg_narZ (by decide), Or.inr rfl⟩ rfl
      · refine j_lift (fun _ k => g_iconst (pc := 24) (v := 1) dX5_isUp_24 (by decide +kernel) k) ?_
        refine j_lift (fun _ k => g_goto (pc := 25) 29 dX5_isUp_25 (by decide) k) ?_
        exact j_iret (pc := 29) dX5_isUp_29 ⟨mg_narZ (by decide), Or.inr rfl⟩ rfl

/-- X5_entry -/
def P_X5_entry (a b : Nat) (g : mg_F) : mo := some ((24 * a) + b, g)
theorem p_X5_entry {l : Launch} {Z : mg_Zt} {a b : Nat} {g : mg_F} (hb : Z.2.2.1 = true) : ∀ (r : Nat) (g' : mg_F), P_X5_entry a b g = some (r, g') → mg_C l Z mX5_entry [rv Z 5 0, iv a, iv b] g (mp mX5_entry r g') := by
  refine mC_of (by decide) rfl (Nat.le_of_ble_eq_true rfl) (List.forall_mem_cons.mpr ⟨rfl, (List.forall_mem_cons.mpr ⟨rfl, (List.forall_mem_cons.mpr ⟨rfl, (fun _ h => nomatch h)⟩)⟩)⟩) (fun K => ?_)
  unfold P_X5_entry
  refine j_lift (fun _ k => g_bipush (pc := 0) (v := 24) dX5_entry_0 (by decide +kernel) k) ?_
  refine j_lift (fun _ k => g_iload_n (pc := 2) dX5_entry_2 rfl k) ?_
  refine j_lift (fun _ k => g_imul (pc := 3) (a := 24) (b := a) dX5_entry_3 k) ?_
  refine j_lift (fun _ k => g_iload_n (pc := 4) dX5_entry_4 rfl k) ?_
  refine j_lift (fun _ k => g_iadd (pc := 5) (a := 24 * a) (b := b) dX5_entry_5 k) ?_
  exact j_iret (pc := 6) dX5_entry_6 ⟨mg_narI _, Or.inl rfl⟩ rfl

/-- X5_placeOf -/
def L_X5_placeOf_5 (a1 a2 : Nat) (k : Nat → Nat → mg_F → mo) : Nat → Nat → Nat → mg_F → mo
  | 0, _, _, _ => none
  | n + 1, v3, v4, g => ck (a1 < 24) <| if sv v4 < sv (g 46 0 a1) then (bd (P_X5_entry a1 v4 g) fun r3 g4 => ck (r3 < 576) <| jn (α := Nat) (fun x9 g10 => L_X5_placeOf_5 a1 a2 k n x9 (v4 + 1) g10) fun kj7 => if sv (g4 47 0 r3) = sv a2 then (kj7 v4 g4) else (kj7 v3 g4)) else (k v3 v4 g)
theorem l_X5_placeOf_5 {K : mg_Kt} {Z : mg_Zt} (hb : Z.2.2.1 = true) {a1 a2 : Nat}  {k : Nat → Nat → mg_F → mo} (hk : ∀ (v3 v4 : Nat) (g : mg_F), mj K Z mX5_placeOf (k v3 v4 g) 45 [rv Z 5 0, iv a1, iv a2, iv v3, iv v4] [] g) : ∀ (n : Nat) (v3 v4 : Nat) (g : mg_F), mj K Z mX5_placeOf (L_X5_placeOf_5 a1 a2 k n v3 v4 g) 5 [rv Z 5 0, iv a1, iv a2, iv v3, iv v4] [] g := by
  intro n
  induction n with
  | zero => intro _ _ _; exact j_none
  | succ n ih =>
    intro v3 v4 g
    unfold L_X5_placeOf_5
    refine j_lift (fun _ k => g_iload (pc := 5) dX5_placeOf_5 rfl k) ?_
    refine j_lift (fun _ k => g_aload_n (pc := 7) dX5_placeOf_7 rfl k) ?_
    refine j_lift (fun _ k => fg_X5_placeOf_41 (pc := 8) hb dX5_placeOf_8 k) ?_
    refine j_lift (fun _ k => g_iload_n (pc := 11) dX5_placeOf_11 rfl k) ?_
    refine j_ck (fun c1 => ?_)
    refine j_lift (fun _ k => g_iaload (pc := 12) (k := 46) (i := 0) (n := 24) (by rw [hb]; decide) rfl (by decide) c1 dX5_placeOf_12 k) ?_
    refine j_icmp_ge (pc := 13) 45 dX5_placeOf_13 (by decide) (fun h2 => ?_) (fun h2 => ?_)
    · exact hk v3 v4 g
    · refine j_lift (fun _ k => g_aload_n (pc := 16) dX5_placeOf_16 rfl k) ?_
      refine j_lift (fun _ k => fg_X5_placeOf_44 (pc := 17) hb dX5_placeOf_17 k) ?_
      refine j_lift (fun _ k => g_aload_n (pc := 20) dX5_placeOf_20 rfl k) ?_
      refine j_lift (fun _ k => g_iload_n (pc := 21) dX5_placeOf_21 rfl k) ?_
      refine j_lift (fun _ k => g_iload (pc := 22) dX5_placeOf_22 rfl k) ?_
      refine j_callVi (pc := 24) (Y' := mX5_entry) (As := [iv a1, iv v4]) (st := [rv Z 47 0]) (k := 5) (i := 0) (p_X5_entry hb) gX5_placeOf_X5_entry rfl (by rw [hb]; decide) rfl rfl (na := 2) rfl (by decide +kernel) (by decide) (by decide) (Nat.le_of_ble_eq_true rfl) dX5_placeOf_24 (fun r3 g4 => ?_)
      refine j_ck (fun c5 => ?_)
      refine j_lift (fun _ k => g_iaload (pc := 27) (k := 47) (i := 0) (n := 576) (by rw [hb]; decide) rfl (by decide) c5 dX5_placeOf_27 k) ?_
      refine j_lift (fun _ k => g_iload_n (pc := 28) dX5_placeOf_28 rfl k) ?_
      refine j_jn (α := Nat) 38 (fun x9 => [rv Z 5 0, iv a1, iv a2, iv v3, iv v4]) (fun x9 => [iv x9]) (fun x9 g10 => ?_) (fun kj7 hk8 => ?_)
      · refine j_lift (fun _ k => g_istore_n (pc := 38) (ls' := [rv Z 5 0, iv a1, iv a2, iv x9, iv v4]) dX5_placeOf_38 (Nat.le_of_ble_eq_true rfl) (Nat.le_of_ble_eq_true rfl) rfl k) ?_
        refine j_lift (fun _ k => g_iinc (pc := 39) (v := v4 + 1) (ls' := [rv Z 5 0, iv a1, iv a2, iv x9, iv (v4 + 1)]) dX5_placeOf_39 (Nat.le_of_ble_eq_true rfl) rfl (mg_inc _) rfl k) ?_
        refine j_lift (fun _ k => g_goto (pc := 42) 5 dX5_placeOf_42 (by decide) k) ?_
        exact ih x9 (v4 + 1) g10
      · refine j_icmp_ne (pc := 29) 37 dX5_placeOf_29 (by decide) (fun h6 => ?_) (fun h6 => ?_)
        · refine j_lift (fun _ k => g_iload_n (pc := 37) dX5_placeOf_37 rfl k) ?_
          exact hk8 v3 g4
        · refine j_lift (fun _ k => g_iload (pc := 32) dX5_placeOf_32 rfl k) ?_
          refine j_lift (fun _ k => g_goto (pc := 34) 38 dX5_placeOf_34 (by decide) k) ?_
          exact hk8 v4 g4
def P_X5_placeOf (a b : Nat) (g : mg_F) : mo := L_X5_placeOf_5 a b (fun w11 w12 g13 => some (w11, g13)) 4000 4294967295 0 g
theorem p_X5_placeOf {l : Launch} {Z : mg_Zt} {a b : Nat} {g : mg_F} (hb : Z.2.2.1 = true) : ∀ (r : Nat) (g' : mg_F), P_X5_placeOf a b g = some (r, g') → mg_C l Z mX5_placeOf [rv Z 5 0, iv a, iv b] g (mp mX5_placeOf r g') := by
  refine mC_of (by decide) rfl (Nat.le_of_ble_eq_true rfl) (List.forall_mem_cons.mpr ⟨rfl, (List.forall_mem_cons.mpr ⟨rfl, (List.forall_mem_cons.mpr ⟨rfl, (fun _ h => nomatch h)⟩)⟩)⟩) (fun K => ?_)
  unfold P_X5_placeOf
  refine j_lift (fun _ k => g_iconst (pc := 0) (v := 4294967295) dX5_placeOf_0 (by decide +kernel) k) ?_
  refine j_lift (fun _ k => g_istore_n (pc := 1) (ls' := [rv Z 5 0, iv a, iv b, iv 4294967295]) dX5_placeOf_1 (Nat.le_of_ble_eq_true rfl) (Nat.le_of_ble_eq_true rfl) rfl k) ?_
  refine j_lift (fun _ k => g_iconst (pc := 2) (v := 0) dX5_placeOf_2 (by decide +kernel) k) ?_
  refine j_lift (fun _ k => g_istore (pc := 3) (ls' := [rv Z 5 0, iv a, iv b, iv 4294967295, iv 0]) dX5_placeOf_3 (Nat.le_of_ble_eq_true rfl) (Nat.le_of_ble_eq_true rfl) rfl k) ?_
  refine l_X5_placeOf_5 hb  (fun w11 w12 g13 => ?_) 4000 4294967295 0 g
  refine j_lift (fun _ k => g_iload_n (pc := 45) dX5_placeOf_45 rfl k) ?_
  exact j_iret (pc := 46) dX5_placeOf_46 ⟨mg_narI _, Or.inl rfl⟩ rfl

/-- X5_come -/
def P_X5_come (a b c : Nat) (g : mg_F) : mo := bd (P_X5_placeOf a b g) fun r1 g2 => if sv r1 < 0 then (ck (a < 24) <| bd (P_X5_entry a (g2 46 0 a) g2) fun r13 g14 => ck (r13 < 576) <| wr (mg_up g14 47 0 r13 b) fun g16 => bd (P_X5_entry a (g2 46 0 a) g16) fun r17 g18 => ck (r17 < 576) <| wr (mg_up g18 48 0 r17 c) fun g20 => wr (mg_up g20 46 0 a ((g20 46 0 a) + 1)) fun g21 => some (0, g21)) else (bd (P_X5_entry a r1 g2) fun r4 g5 => ck (r4 < 576) <| if sv (g5 48 0 r4) < sv c then (bd (P_X5_entry a r1 g5) fun r8 g9 => ck (r8 < 576) <| wr (mg_up g9 48 0 r8 c) fun g11 => some (0, g11)) else (some (0, g5)))
theorem p_X5_come {l : Launch} {Z : mg_Zt} {a b c : Nat} {g : mg_F} (hb : Z.2.2.1 = true) : ∀ (r : Nat) (g' : mg_F), P_X5_come a b c g = some (r, g') → mg_C l Z mX5_come [rv Z 5 0, iv a, iv b, iv c] g (mp mX5_come r g') := by
  refine mC_of (by decide) rfl (Nat.le_of_ble_eq_true rfl) (List.forall_mem_cons.mpr ⟨rfl, (List.forall_mem_cons.mpr ⟨rfl, (List.forall_mem_cons.mpr ⟨rfl, (List.forall_mem_cons.mpr ⟨rfl, (fun _ h => nomatch h)⟩)⟩)⟩)⟩) (fun K => ?_)
  unfold P_X5_come
  refine j_lift (fun _ k => g_aload_n (pc := 0) dX5_come_0 rfl k) ?_
  refine j_lift (fun _ k => g_iload_n (pc := 1) dX5_come_1 rfl k) ?_
  refine j_lift (fun _ k => g_iload_n (pc := 2) dX5_come_2 rfl k) ?_
  refine j_callVi (pc := 3) (Y' := mX5_placeOf) (As := [iv a, iv b]) (st := []) (k := 5) (i := 0) (p_X5_placeOf hb) gX5_come_X5_placeOf rfl (by rw [hb]; decide) rfl rfl (na := 2) rfl (by decide +kernel) (by decide) (by decide) (Nat.le_of_ble_eq_true rfl) dX5_come_3 (fun r1 g2 => ?_)
  refine j_lift (fun _ k => g_istore (pc := 6) (ls' := [rv Z 5 0, iv a, iv b, iv c, iv r1]) dX5_come_6 (Nat.le_of_ble_eq_true rfl) (Nat.le_of_ble_eq_true rfl) rfl k) ?_
  refine j_lift (fun _ k => g_iload (pc := 8) dX5_come_8 rfl k) ?_
  refine j_if_ge (pc := 10) 60 dX5_come_10 (by decide) (fun h3 => ?_) (fun h3 => ?_)
  · refine j_lift (fun _ k => g_iload_n (pc := 60) dX5_come_60 rfl k) ?_
    refine j_lift (fun _ k => g_aload_n (pc := 61) dX5_come_61 rfl k) ?_
    refine j_lift (fun _ k => fg_X5_come_47 (pc := 62) hb dX5_come_62 k) ?_
    refine j_lift (fun _ k => g_aload_n (pc := 65) dX5_come_65 rfl k) ?_
    refine j_lift (fun _ k => g_iload_n (pc := 66) dX5_come_66 rfl k) ?_
    refine j_lift (fun _ k => g_iload (pc := 67) dX5_come_67 rfl k) ?_
    refine j_callVi (pc := 69) (Y' := mX5_entry) (As := [iv a, iv r1]) (st := [rv Z 48 0, iv c]) (k := 5) (i := 0) (p_X5_entry hb) gX5_come_X5_entry rfl (by rw [hb]; decide) rfl rfl (na := 2) rfl (by decide +kernel) (by decide) (by decide) (Nat.le_of_ble_eq_true rfl) dX5_come_69 (fun r4 g5 => ?_)
    refine j_ck (fun c6 => ?_)
    refine j_lift (fun _ k => g_iaload (pc := 72) (k := 48) (i := 0) (n := 576) (by rw [hb]; decide) rfl (by decide) c6 dX5_come_72 k) ?_
    refine j_icmp_le (pc := 73) 89 dX5_come_73 (by decide) (fun h7 => ?_) (fun h7 => ?_)
    · exact j_ret (pc := 89) dX5_come_89 trivial rfl
    · refine j_lift (fun _ k => g_aload_n (pc := 76) dX5_come_76 rfl k) ?_
      refine j_lift (fun _ k => fg_X5_come_47 (pc := 77) hb dX5_come_77 k) ?_
      refine j_lift (fun _ k => g_aload_n (pc := 80) dX5_come_80 rfl k) ?_
      refine j_lift (fun _ k => g_iload_n (pc := 81) dX5_come_81 rfl k) ?_
      refine j_lift (fun _ k => g_iload (pc := 82) dX5_come_82 rfl k) ?_
      refine j_callVi (pc := 84) (Y' := mX5_entry) (As := [iv a, iv r1]) (st := [rv Z 48 0]) (k := 5) (i := 0) (p_X5_entry hb) gX5_come_X5_entry rfl (by rw [hb]; decide) rfl rfl (na := 2) rfl (by decide +kernel) (by decide) (by decide) (Nat.le_of_ble_eq_true rfl) dX5_come_84 (fun r8 g9 => ?_)
      refine j_lift (fun _ k => g_iload_n (pc := 87) dX5_come_87 rfl k) ?_
      refine j_ck (fun c10 => ?_)
      refine j_w (fun _ k => g_iastore (pc := 88) (k := 48) (i := 0) (n := 576) (by rw [hb]; decide) (fun _ => rfl) (by decide) c10 dX5_come_88 k) (fun g11 => ?_)
      exact j_ret (pc := 89) dX5_come_89 trivial rfl
  · refine j_lift (fun _ k => g_aload_n (pc := 13) dX5_come_13 rfl k) ?_
    refine j_lift (fun _ k => fg_X5_come_41 (pc := 14) hb dX5_come_14 k) ?_
    refine j_lift (fun _ k => g_iload_n (pc := 17) dX5_come_17 rfl k) ?_
    refine j_ck (fun c12 => ?_)
    refine j_lift (fun _ k => g_iaload (pc := 18) (k := 46) (i := 0) (n := 24) (by rw [hb]; decide) rfl (by decide) c12 dX5_come_18 k) ?_
    refine j_lift (fun _ k => g_istore (pc := 19) (ls' := [rv Z 5 0, iv a, iv b, iv c, iv (g2 46 0 a)]) dX5_come_19 (Nat.le_of_ble_eq_true rfl) (Nat.le_of_ble_eq_true rfl) rfl k) ?_
    refine j_lift (fun _ k => g_aload_n (pc := 21) dX5_come_21 rfl k) ?_
    refine j_lift (fun _ k => fg_X5_come_44 (pc := 22) hb dX5_come_22 k) ?_
    refine j_lift (fun _ k => g_aload_n (pc := 25) dX5_come_25 rfl k) ?_
    refine j_lift (fun _ k => g_iload_n (pc := 26) dX5_come_26 rfl k) ?_
    refine j_lift (fun _ k => g_iload (pc := 27) dX5_come_27 rfl k) ?_
    refine j_callVi (pc := 29) (Y' := mX5_entry) (As := [iv a, iv (g2 46 0 a)]) (st := [rv Z 47 0]) (k := 5) (i := 0) (p_X5_entry hb) gX5_come_X5_entry rfl (by rw [hb]; decide) rfl rfl (na := 2) rfl (by decide +kernel) (by decide) (by decide) (Nat.le_of_ble_eq_true rfl) dX5_come_29 (fun r13 g14 => ?_)
    refine j_lift (fun _ k => g_iload_n (pc := 32) dX5_come_32 rfl k) ?_
    refine j_ck (fun c15 => ?_)
    refine j_w (fun _ k => g_iastore (pc := 33) (k := 47) (i := 0) (n := 576) (by rw [hb]; decide) (fun _ => rfl) (by decide) c15 dX5_come_33 k) (fun g16 => ?_)
    refine j_lift (fun _ k => g_aload_n (pc := 34) dX5_come_34 rfl k) ?_
    refine j_lift (fun _ k => fg_X5_come_47 (pc := 35) hb dX5_come_35 k) ?_
    refine j_lift (fun _ k => g_aload_n (pc := 38) dX5_come_38 rfl k) ?_
    refine j_lift (fun _ k => g_iload_n (pc := 39) dX5_come_39 rfl k) ?_
    refine j_lift (fun _ k => g_iload (pc := 40) dX5_come_40 rfl k) ?_
    refine j_callVi (pc := 42) (Y' := mX5_entry) (As := [iv a, iv (g2 46 0 a)]) (st := [rv Z 48 0]) (k := 5) (i := 0) (p_X5_entry hb) gX5_come_X5_entry rfl (by rw [hb]; decide) rfl rfl (na := 2) rfl (by decide +kernel) (by decide) (by decide) (Nat.le_of_ble_eq_true rfl) dX5_come_42 (fun r17 g18 => ?_)
    refine j_lift (fun _ k => g_iload_n (pc := 45) dX5_come_45 rfl k) ?_
    refine j_ck (fun c19 => ?_)
    refine j_w (fun _ k => g_iastore (pc := 46) (k := 48) (i := 0) (n := 576) (by rw [hb]; decide) (fun _ => rfl) (by decide) c19 dX5_come_46 k) (fun g20 => ?_)
    refine j_lift (fun _ k => g_aload_n (pc := 47) dX5_come_47 rfl k) ?_
    refine j_lift (fun _ k => fg_X5_come_41 (pc := 48) hb dX5_come_48 k) ?_
    refine j_lift (fun _ k => g_iload_n (pc := 51) dX5_come_51 rfl k) ?_
    refine j_lift (fun _ k => g_dup2 (pc := 52) dX5_come_52 rfl rfl k) ?_
    refine j_lift (fun _ k => g_iaload (pc := 53) (k := 46) (i := 0) (n := 24) (by rw [hb]; decide) rfl (by decide) c12 dX5_come_53 k) ?_
    refine j_lift (fun _ k => g_iconst (pc := 54) (v := 1) dX5_come_54 (by decide +kernel) k) ?_
    refine j_lift (fun _ k => g_iadd (pc := 55) (a := g20 46 0 a) (b := 1) dX5_come_55 k) ?_
    refine j_w (fun _ k => g_iastore (pc := 56) (k := 46) (i := 0) (n := 24) (by rw [hb]; decide) (fun _ => rfl) (by decide) c12 dX5_come_56 k) (fun g21 => ?_)
    refine j_lift (fun _ k => g_goto (pc := 57) 89 dX5_come_57 (by decide) k) ?_
    exact j_ret (pc := 89) dX5_come_89 trivial rfl

/-- X5_leave -/
def L_X5_leave_2 (a1 a2 : Nat) (k : Nat → mg_F → mo) : Nat → Nat → mg_F → mo
  | 0, _, _ => none
  | n + 1, v3, g => ck (a1 < 24) <| if sv (v3 + 1) < sv (g 46 0 a1) then (bd (P_X5_entry a1 v3 g) fun r3 g4 => bd (P_X5_entry a1 (v3 + 1) g4) fun r5 g6 => ck (r5 < 576) <| ck (r3 < 576) <| wr (mg_up g6 47 0 r3 (g6 47 0 r5)) fun g9 => bd (P_X5_entry a1 v3 g9) fun r10 g11 => bd (P_X5_entry a1 (v3 + 1) g11) fun r12 g13 => ck (r12 < 576) <| ck (r10 < 576) <| wr (mg_up g13 48 0 r10 (g13 48 0 r12)) fun g16 => L_X5_leave_2 a1 a2 k n (v3 + 1) g16) else (k v3 g)
theorem l_X5_leave_2 {K : mg_Kt} {Z : mg_Zt} (hb : Z.2.2.1 = true) {a1 a2 : Nat}  {k : Nat → mg_F → mo} (hk : ∀ (v3 : Nat) (g : mg_F), mj K Z mX5_leave (k v3 g) 68 [rv Z 5 0, iv a1, iv a2, iv v3] [] g) : ∀ (n : Nat) (v3 : Nat) (g : mg_F), mj K Z mX5_leave (L_X5_leave_2 a1 a2 k n v3 g) 2 [rv Z 5 0, iv a1, iv a2, iv v3] [] g := by
  intro n
  induction n with
  | zero => intro _ _; exact j_none
  | succ n ih =>
    intro v3 g
    unfold L_X5_leave_2
    refine j_lift (fun _ k => g_iload_n (pc := 2) dX5_leave_2 rfl k) ?_
    refine j_lift (fun _ k => g_iconst (pc := 3) (v := 1) dX5_leave_3 (by decide +kernel) k) ?_
    refine j_lift (fun _ k => g_iadd (pc := 4) (a := v3) (b := 1) dX5_leave_4 k) ?_
    refine j_lift (fun _ k => g_aload_n (pc := 5) dX5_leave_5 rfl k) ?_
    refine j_lift (fun _ k => fg_X5_leave_41 (pc := 6) hb dX5_leave_6 k) ?_
    refine j_lift (fun _ k => g_iload_n (pc := 9) dX5_leave_9 rfl k) ?_
    refine j_ck (fun c1 => ?_)
    refine j_lift (fun _ k => g_iaload (pc := 10) (k := 46) (i := 0) (n := 24) (by rw [hb]; decide) rfl (by decide) c1 dX5_leave_10 k) ?_
    refine j_icmp_ge (pc := 11) 68 dX5_leave_11 (by decide) (fun h2 => ?_) (fun h2 => ?_)
    · exact hk v3 g
    · refine j_lift (fun _ k => g_aload_n (pc := 14) dX5_leave_14 rfl k) ?_
      refine j_lift (fun _ k => fg_X5_leave_44 (pc := 15) hb dX5_leave_15 k) ?_
      refine j_lift (fun _ k => g_aload_n (pc := 18) dX5_leave_18 rfl k) ?_
      refine j_lift (fun _ k => g_iload_n (pc := 19) dX5_leave_19 rfl k) ?_
      refine j_lift (fun _ k => g_iload_n (pc := 20) dX5_leave_20 rfl k) ?_
      refine j_callVi (pc := 21) (Y' := mX5_entry) (As := [iv a1, iv v3]) (st := [rv Z 47 0]) (k := 5) (i := 0) (p_X5_entry hb) gX5_leave_X5_entry rfl (by rw [hb]; decide) rfl rfl (na := 2) rfl (by decide +kernel) (by decide) (by decide) (Nat.le_of_ble_eq_true rfl) dX5_leave_21 (fun r3 g4 => ?_)
      refine j_lift (fun _ k => g_aload_n (pc := 24) dX5_leave_24 rfl k) ?_
      refine j_lift (fun _ k => fg_X5_leave_44 (pc := 25) hb dX5_leave_25 k) ?_
      refine j_lift (fun _ k => g_aload_n (pc := 28) dX5_leave_28 rfl k) ?_
      refine j_lift (fun _ k => g_iload_n (pc := 29) dX5_leave_29 rfl k) ?_
      refine j_lift (fun _ k => g_iload_n (pc := 30) dX5_leave_30 rfl k) ?_
      refine j_lift (fun _ k => g_iconst (pc := 31) (v := 1) dX5_leave_31 (by decide +kernel) k) ?_
      refine j_lift (fun _ k => g_iadd (pc := 32) (a := v3) (b := 1) dX5_leave_32 k) ?_
      refine j_callVi (pc := 33) (Y' := mX5_entry) (As := [iv a1, iv (v3 + 1)]) (st := [rv Z 47 0, iv r3, rv Z 47 0]) (k := 5) (i := 0) (p_X5_entry hb) gX5_leave_X5_entry rfl (by rw [hb]; decide) rfl rfl (na := 2) rfl (by decide +kernel) (by decide) (by decide) (Nat.le_of_ble_eq_true rfl) dX5_leave_33 (fun r5 g6 => ?_)
      refine j_ck (fun c7 => ?_)
      refine j_lift (fun _ k => g_iaload (pc := 36) (k := 47) (i := 0) (n := 576) (by rw [hb]; decide) rfl (by decide) c7 dX5_leave_36 k) ?_
      refine j_ck (fun c8 => ?_)
      refine j_w (fun _ k => g_iastore (pc := 37) (k := 47) (i := 0) (n := 576) (by rw [hb]; decide) (fun _ => rfl) (by decide) c8 dX5_leave_37 k) (fun g9 => ?_)
      refine j_lift (fun _ k => g_aload_n (pc := 38) dX5_leave_38 rfl k) ?_
      refine j_lift (fun _ k => fg_X5_leave_47 (pc := 39) hb dX5_leave_39 k) ?_
      refine j_lift (fun _ k => g_aload_n (pc := 42) dX5_leave_42 rfl k) ?_
      refine j_lift (fun _ k => g_iload_n (pc := 43) dX5_leave_43 rfl k) ?_
      refine j_lift (fun _ k => g_iload_n (pc := 44) dX5_leave_44 rfl k) ?_
      refine j_callVi (pc := 45) (Y' := mX5_entry) (As := [iv a1, iv v3]) (st := [rv Z 48 0]) (k := 5) (i := 0) (p_X5_entry hb) gX5_leave_X5_entry rfl (by rw [hb]; decide) rfl rfl (na := 2) rfl (by decide +kernel) (by decide) (by decide) (Nat.le_of_ble_eq_true rfl) dX5_leave_45 (fun r10 g11 => ?_)
      refine j_lift (fun _ k => g_aload_n (pc := 48) dX5_leave_48 rfl k) ?_
      refine j_lift (fun _ k => fg_X5_leave_47 (pc := 49) hb dX5_leave_49 k) ?_
      refine j_lift (fun _ k => g_aload_n (pc := 52) dX5_leave_52 rfl k) ?_
      refine j_lift (fun _ k => g_iload_n (pc := 53) dX5_leave_53 rfl k) ?_
      refine j_lift (fun _ k => g_iload_n (pc := 54) dX5_leave_54 rfl k) ?_
      refine j_lift (fun _ k => g_iconst (pc := 55) (v := 1) dX5_leave_55 (by decide +kernel) k) ?_
      refine j_lift (fun _ k => g_iadd (pc := 56) (a := v3) (b := 1) dX5_leave_56 k) ?_
      refine j_callVi (pc := 57) (Y' := mX5_entry) (As := [iv a1, iv (v3 + 1)]) (st := [rv Z 48 0, iv r10, rv Z 48 0]) (k := 5) (i := 0) (p_X5_entry hb) gX5_leave_X5_entry rfl (by rw [hb]; decide) rfl rfl (na := 2) rfl (by decide +kernel) (by decide) (by decide) (Nat.le_of_ble_eq_true rfl) dX5_leave_57 (fun r12 g13 => ?_)
      refine j_ck (fun c14 => ?_)
      refine j_lift (fun _ k => g_iaload (pc := 60) (k := 48) (i := 0) (n := 576) (by rw [hb]; decide) rfl (by decide) c14 dX5_leave_60 k) ?_
      refine j_ck (fun c15 => ?_)
      refine j_w (fun _ k => g_iastore (pc := 61) (k := 48) (i := 0) (n := 576) (by rw [hb]; decide) (fun _ => rfl) (by decide) c15 dX5_leave_61 k) (fun g16 => ?_)
      refine j_lift (fun _ k => g_iinc (pc := 62) (v := v3 + 1) (ls' := [rv Z 5 0, iv a1, iv a2, iv (v3 + 1)]) dX5_leave_62 (Nat.le_of_ble_eq_true rfl) rfl (mg_inc _) rfl k) ?_
      refine j_lift (fun _ k => g_goto (pc := 65) 2 dX5_leave_65 (by decide) k) ?_
      exact ih (v3 + 1) g16
def L_X5_leave_80 (a1 a2 : Nat) (k : Nat → mg_F → mo) : Nat → Nat → mg_F → mo
  | 0, _, _ => none
  | n + 1, v3, g => if sv v3 < sv (g 46 0 a1) then (bd (P_X5_entry a1 v3 g) fun r2 g3 => bd (P_X5_entry a1 v3 g3) fun r4 g5 => ck (r4 < 576) <| jn (α := Nat) (fun x10 g11 => ck (r2 < 576) <| wr (mg_up g11 48 0 r2 x10) fun g13 => L_X5_leave_80 a1 a2 k n (v3 + 1) g13) fun kj8 => if sv (g5 48 0 r4) < sv 1000 then (bd (P_X5_entry a1 v3 g5) fun r14 g15 => ck (r14 < 576) <| kj8 ((g15 48 0 r14) + 1) g15) else (kj8 1000 g5)) else (k v3 g)
theorem l_X5_leave_80 {K : mg_Kt} {Z : mg_Zt} (hb : Z.2.2.1 = true) {a1 a2 : Nat} (ha1 : a1 < 24) {k : Nat → mg_F → mo} (hk : ∀ (v3 : Nat) (g : mg_F), mj K Z mX5_leave (k v3 g) 143 [rv Z 5 0, iv a1, iv a2, iv v3] [] g) : ∀ (n : Nat) (v3 : Nat) (g : mg_F), mj K Z mX5_leave (L_X5_leave_80 a1 a2 k n v3 g) 80 [rv Z 5 0, iv a1, iv a2, iv v3] [] g := by
  intro n
  induction n with
  | zero => intro _ _; exact j_none
  | succ n ih =>
    intro v3 g
    unfold L_X5_leave_80
    refine j_lift (fun _ k => g_iload_n (pc := 80) dX5_leave_80 rfl k) ?_
    refine j_lift (fun _ k => g_aload_n (pc := 81) dX5_leave_81 rfl k) ?_
    refine j_lift (fun _ k => fg_X5_leave_41 (pc := 82) hb dX5_leave_82 k) ?_
    refine j_lift (fun _ k => g_iload_n (pc := 85) dX5_leave_85 rfl k) ?_
    refine j_lift (fun _ k => g_iaload (pc := 86) (k := 46) (i := 0) (n := 24) (by rw [hb]; decide) rfl (by decide) ha1 dX5_leave_86 k) ?_
    refine j_icmp_ge (pc := 87) 143 dX5_leave_87 (by decide) (fun h1 => ?_) (fun h1 => ?_)
    · exact hk v3 g
    · refine j_lift (fun _ k => g_aload_n (pc := 90) dX5_leave_90 rfl k) ?_
      refine j_lift (fun _ k => fg_X5_leave_47 (pc := 91) hb dX5_leave_91 k) ?_
      refine j_lift (fun _ k => g_aload_n (pc := 94) dX5_leave_94 rfl k) ?_
      refine j_lift (fun _ k => g_iload_n (pc := 95) dX5_leave_95 rfl k) ?_
      refine j_lift (fun _ k => g_iload_n (pc := 96) dX5_leave_96 rfl k) ?_
      refine j_callVi (pc := 97) (Y' := mX5_entry) (As := [iv a1, iv v3]) (st := [rv Z 48 0]) (k := 5) (i := 0) (p_X5_entry hb) gX5_leave_X5_entry rfl (by rw [hb]; decide) rfl rfl (na := 2) rfl (by decide +kernel) (by decide) (by decide) (Nat.le_of_ble_eq_true rfl) dX5_leave_97 (fun r2 g3 => ?_)
      refine j_lift (fun _ k => g_aload_n (pc := 100) dX5_leave_100 rfl k) ?_
      refine j_lift (fun _ k => fg_X5_leave_47 (pc := 101) hb dX5_leave_101 k) ?_
      refine j_lift (fun _ k => g_aload_n (pc := 104) dX5_leave_104 rfl k) ?_
      refine j_lift (fun _ k => g_iload_n (pc := 105) dX5_leave_105 rfl k) ?_
      refine j_lift (fun _ k => g_iload_n (pc := 106) dX5_leave_106 rfl k) ?_
      refine j_callVi (pc := 107) (Y' := mX5_entry) (As := [iv a1, iv v3]) (st := [rv Z 48 0, iv r2, rv Z 48 0]) (k := 5) (i := 0) (p_X5_entry hb) gX5_leave_X5_entry rfl (by rw [hb]; decide) rfl rfl (na := 2) rfl (by decide +kernel) (by decide) (by decide) (Nat.le_of_ble_eq_true rfl) dX5_leave_107 (fun r4 g5 => ?_)
      refine j_ck (fun c6 => ?_)
      refine j_lift (fun _ k => g_iaload (pc := 110) (k := 48) (i := 0) (n := 576) (by rw [hb]; decide) rfl (by decide) c6 dX5_leave_110 k) ?_
      refine j_lift (fun _ k => g_sipush (pc := 111) (v := 1000) dX5_leave_111 (by decide +kernel) k) ?_
      refine j_jn (α := Nat) 136 (fun x10 => [rv Z 5 0, iv a1, iv a2, iv v3]) (fun x10 => [iv x10, iv r2, rv Z 48 0]) (fun x10 g11 => ?_) (fun kj8 hk9 => ?_)
      · refine j_ck (fun c12 => ?_)
        refine j_w (fun _ k => g_iastore (pc := 136) (k := 48) (i := 0) (n := 576) (by rw [hb]; decide) (fun _ => rfl) (by decide) c12 dX5_leave_136 k) (fun g13 => ?_)
        refine j_lift (fun _ k => g_iinc (pc := 137) (v := v3 + 1) (ls' := [rv Z 5 0, iv a1, iv a2, iv (v3 + 1)]) dX5_leave_137 (Nat.le_of_ble_eq_true rfl) rfl (mg_inc _) rfl k) ?_
        refine j_lift (fun _ k => g_goto (pc := 140) 80 dX5_leave_140 (by decide) k) ?_
        exact ih (v3 + 1) g13
      · refine j_icmp_ge (pc := 114) 133 dX5_leave_114 (by decide) (fun h7 => ?_) (fun h7 => ?_)
        · refine j_lift (fun _ k => g_sipush (pc := 133) (v := 1000) dX5_leave_133 (by decide +kernel) k) ?_
          exact hk9 1000 g5
        · refine j_lift (fun _ k => g_aload_n (pc := 117) dX5_leave_117 rfl k) ?_
          refine j_lift (fun _ k => fg_X5_leave_47 (pc := 118) hb dX5_leave_118 k) ?_
          refine j_lift (fun _ k => g_aload_n (pc := 121) dX5_leave_121 rfl k) ?_
          refine j_lift (fun _ k => g_iload_n (pc := 122) dX5_leave_122 rfl k) ?_
          refine j_lift (fun _ k => g_iload_n (pc := 123) dX5_leave_123 rfl k) ?_
          refine j_callVi (pc := 124) (Y' := mX5_entry) (As := [iv a1, iv v3]) (st := [rv Z 48 0, iv r2, rv Z 48 0]) (k := 5) (i := 0) (p_X5_entry hb) gX5_leave_X5_entry rfl (by rw [hb]; decide) rfl rfl (na := 2) rfl (by decide +kernel) (by decide) (by decide) (Nat.le_of_ble_eq_true rfl) dX5_leave_124 (fun r14 g15 => ?_)
          refine j_ck (fun c16 => ?_)
          refine j_lift (fun _ k => g_iaload (pc := 127) (k := 48) (i := 0) (n := 576) (by rw [hb]; decide) rfl (by decide) c16 dX5_leave_127 k) ?_
          refine j_lift (fun _ k => g_iconst (pc := 128) (v := 1) dX5_leave_128 (by decide +kernel) k) ?_
          refine j_lift (fun _ k => g_iadd (pc := 129) (a := g15 48 0 r14) (b := 1) dX5_leave_129 k) ?_
          refine j_lift (fun _ k => g_goto (pc := 130) 136 dX5_leave_130 (by decide) k) ?_
          exact hk9 ((g15 48 0 r14) + 1) g15
def P_X5_leave (a b : Nat) (g : mg_F) : mo := L_X5_leave_2 a b (fun w17 g18 => ck (a < 24) <| wr (mg_up g18 46 0 a (sb (g18 46 0 a) 1)) fun g20 => L_X5_leave_80 a b (fun w21 g22 => some (0, g22)) 4000 0 g20) 4000 b g
theorem p_X5_leave {l : Launch} {Z : mg_Zt} {a b : Nat} {g : mg_F} (hb : Z.2.2.1 = true) : ∀ (r : Nat) (g' : mg_F), P_X5_leave a b g = some (r, g') → mg_C l Z mX5_leave [rv Z 5 0, iv a, iv b] g (mp mX5_leave r g') := by
  refine mC_of (by decide) rfl (Nat.le_of_ble_eq_true rfl) (List.forall_mem_cons.mpr ⟨rfl, (List.forall_mem_cons.mpr ⟨rfl, (List.forall_mem_cons.mpr ⟨rfl, (fun _ h => nomatch h)⟩)⟩)⟩) (fun K => ?_)
  unfold P_X5_leave
  refine j_lift (fun _ k => g_iload_n (pc := 0) dX5_leave_0 rfl k) ?_
  refine j_lift (fun _ k => g_istore_n (pc := 1) (ls' := [rv Z 5 0, iv a, iv b, iv b]) dX5_leave_1 (Nat.le_of_ble_eq_true rfl) (Nat.le_of_ble_eq_true rfl) rfl k) ?_
  refine l_X5_leave_2 hb  (fun w17 g18 => ?_) 4000 b g
  refine j_lift (fun _ k => g_aload_n (pc := 68) dX5_leave_68 rfl k) ?_
  refine j_lift (fun _ k => fg_X5_leave_41 (pc := 69) hb dX5_leave_69 k) ?_
  refine j_lift (fun _ k => g_iload_n (pc := 72) dX5_leave_72 rfl k) ?_
  refine j_lift (fun _ k => g_dup2 (pc := 73) dX5_leave_73 rfl rfl k) ?_
  refine j_ck (fun c19 => ?_)
  refine j_lift (fun _ k => g_iaload (pc := 74) (k := 46) (i := 0) (n := 24) (by rw [hb]; decide) rfl (by decide) c19 dX5_leave_74 k) ?_
  refine j_lift (fun _ k => g_iconst (pc := 75) (v := 1) dX5_leave_75 (by decide +kernel) k) ?_
  refine j_lift (fun _ k => g_sb (pc := 76) (a := g18 46 0 a) (b := 1) dX5_leave_76 k) ?_
  refine j_w (fun _ k => g_iastore (pc := 77) (k := 46) (i := 0) (n := 24) (by rw [hb]; decide) (fun _ => rfl) (by decide) c19 dX5_leave_77 k) (fun g20 => ?_)
  refine j_lift (fun _ k => g_iconst (pc := 78) (v := 0) dX5_leave_78 (by decide +kernel) k) ?_
  refine j_lift (fun _ k => g_istore_n (pc := 79) (ls' := [rv Z 5 0, iv a, iv b, iv 0]) dX5_leave_79 (Nat.le_of_ble_eq_true rfl) (Nat.le_of_ble_eq_true rfl) rfl k) ?_
  refine l_X5_leave_80 hb c19 (fun w21 g22 => ?_) 4000 0 g20
  exact j_ret (pc := 143) dX5_leave_143 trivial rfl

/-- X5_firstOf -/
def L_X5_firstOf_59 (a1 a2 : Nat) (k : Nat → Nat → mg_F → mo) : Nat → Nat → Nat → mg_F → mo
  | 0, _, _, _ => none
  | n + 1, v3, v4, g => ck (a1 < 24) <| if sv v4 < sv (g 46 0 a1) then (if sv (g 5 0 2) = sv 2 then (bd (P_X5_entry a1 v4 g) fun r4 g5 => ck (r4 < 576) <| bd (P_X5_entry a1 v3 g5) fun r7 g8 => ck (r7 < 576) <| jn (α := Nat) (fun x13 g14 => L_X5_firstOf_59 a1 a2 k n x13 (v4 + 1) g14) fun kj11 => if sv (g8 48 0 r7) < sv (g5 48 0 r4) then (kj11 v4 g8) else (kj11 v3 g8)) else (k v3 v4 g)) else (k v3 v4 g)
theorem l_X5_firstOf_59 {K : mg_Kt} {Z : mg_Zt} (hb : Z.2.2.1 = true) {a1 a2 : Nat}  {k : Nat → Nat → mg_F → mo} (hk : ∀ (v3 v4 : Nat) (g : mg_F), mj K Z mX5_firstOf (k v3 v4 g) 117 [rv Z 5 0, iv a1, iv a2, iv v3, iv v4] [] g) : ∀ (n : Nat) (v3 v4 : Nat) (g : mg_F), mj K Z mX5_firstOf (L_X5_firstOf_59 a1 a2 k n v3 v4 g) 59 [rv Z 5 0, iv a1, iv a2, iv v3, iv v4] [] g := by
  intro n
  induction n with
  | zero => intro _ _ _; exact j_none
  | succ n ih =>
    intro v3 v4 g
    unfold L_X5_firstOf_59
    refine j_lift (fun _ k => g_iload (pc := 59) dX5_firstOf_59 rfl k) ?_
    refine j_lift (fun _ k => g_aload_n (pc := 61) dX5_firstOf_61 rfl k) ?_
    refine j_lift (fun _ k => fg_X5_firstOf_41 (pc := 62) hb dX5_firstOf_62 k) ?_
    refine j_lift (fun _ k => g_iload_n (pc := 65) dX5_firstOf_65 rfl k) ?_
    refine j_ck (fun c1 => ?_)
    refine j_lift (fun _ k => g_iaload (pc := 66) (k := 46) (i := 0) (n := 24) (by rw [hb]; decide) rfl (by decide) c1 dX5_firstOf_66 k) ?_
    refine j_icmp_ge (pc := 67) 117 dX5_firstOf_67 (by decide) (fun h2 => ?_) (fun h2 => ?_)
    · exact hk v3 v4 g
    · refine j_lift (fun _ k => g_aload_n (pc := 70) dX5_firstOf_70 rfl k) ?_
      refine j_lift (fun _ k => fg_X5_firstOf_124 (pc := 71) hb dX5_firstOf_71 k) ?_
      refine j_lift (fun _ k => g_iconst (pc := 74) (v := 2) dX5_firstOf_74 (by decide +kernel) k) ?_
      refine j_icmp_ne (pc := 75) 117 dX5_firstOf_75 (by decide) (fun h3 => ?_) (fun h3 => ?_)
      · exact hk v3 v4 g
      · refine j_lift (fun _ k => g_aload_n (pc := 78) dX5_firstOf_78 rfl k) ?_
        refine j_lift (fun _ k => fg_X5_firstOf_47 (pc := 79) hb dX5_firstOf_79 k) ?_
        refine j_lift (fun _ k => g_aload_n (pc := 82) dX5_firstOf_82 rfl k) ?_
        refine j_lift (fun _ k => g_iload_n (pc := 83) dX5_firstOf_83 rfl k) ?_
        refine j_lift (fun _ k => g_iload (pc := 84) dX5_firstOf_84 rfl k) ?_
        refine j_callVi (pc := 86) (Y' := mX5_entry) (As := [iv a1, iv v4]) (st := [rv Z 48 0]) (k := 5) (i := 0) (p_X5_entry hb) gX5_firstOf_X5_entry rfl (by rw [hb]; decide) rfl rfl (na := 2) rfl (by decide +kernel) (by decide) (by decide) (Nat.le_of_ble_eq_true rfl) dX5_firstOf_86 (fun r4 g5 => ?_)
        refine j_ck (fun c6 => ?_)
        refine j_lift (fun _ k => g_iaload (pc := 89) (k := 48) (i := 0) (n := 576) (by rw [hb]; decide) rfl (by decide) c6 dX5_firstOf_89 k) ?_
        refine j_lift (fun _ k => g_aload_n (pc := 90) dX5_firstOf_90 rfl k) ?_
        refine j_lift (fun _ k => fg_X5_firstOf_47 (pc := 91) hb dX5_firstOf_91 k) ?_
        refine j_lift (fun _ k => g_aload_n (pc := 94) dX5_firstOf_94 rfl k) ?_
        refine j_lift (fun _ k => g_iload_n (pc := 95) dX5_firstOf_95 rfl k) ?_
        refine j_lift (fun _ k => g_iload_n (pc := 96) dX5_firstOf_96 rfl k) ?_
        refine j_callVi (pc := 97) (Y' := mX5_entry) (As := [iv a1, iv v3]) (st := [rv Z 48 0, iv (g5 48 0 r4)]) (k := 5) (i := 0) (p_X5_entry hb) gX5_firstOf_X5_entry rfl (by rw [hb]; decide) rfl rfl (na := 2) rfl (by decide +kernel) (by decide) (by decide) (Nat.le_of_ble_eq_true rfl) dX5_firstOf_97 (fun r7 g8 => ?_)
        refine j_ck (fun c9 => ?_)
        refine j_lift (fun _ k => g_iaload (pc := 100) (k := 48) (i := 0) (n := 576) (by rw [hb]; decide) rfl (by decide) c9 dX5_firstOf_100 k) ?_
        refine j_jn (α := Nat) 110 (fun x13 => [rv Z 5 0, iv a1, iv a2, iv v3, iv v4]) (fun x13 => [iv x13]) (fun x13 g14 => ?_) (fun kj11 hk12 => ?_)
        · refine j_lift (fun _ k => g_istore_n (pc := 110) (ls' := [rv Z 5 0, iv a1, iv a2, iv x13, iv v4]) dX5_firstOf_110 (Nat.le_of_ble_eq_true rfl) (Nat.le_of_ble_eq_true rfl) rfl k) ?_
          refine j_lift (fun _ k => g_iinc (pc := 111) (v := v4 + 1) (ls' := [rv Z 5 0, iv a1, iv a2, iv x13, iv (v4 + 1)]) dX5_firstOf_111 (Nat.le_of_ble_eq_true rfl) rfl (mg_inc _) rfl k) ?_
          refine j_lift (fun _ k => g_goto (pc := 114) 59 dX5_firstOf_114 (by decide) k) ?_
          exact ih x13 (v4 + 1) g14
        · refine j_icmp_le (pc := 101) 109 dX5_firstOf_101 (by decide) (fun h10 => ?_) (fun h10 => ?_)
          · refine j_lift (fun _ k => g_iload_n (pc := 109) dX5_firstOf_109 rfl k) ?_
            exact hk12 v3 g8
          · refine j_lift (fun _ k => g_iload (pc := 104) dX5_firstOf_104 rfl k) ?_
            refine j_lift (fun _ k => g_goto (pc := 106) 110 dX5_firstOf_106 (by decide) k) ?_
            exact hk12 v4 g8
def P_X5_firstOf (a : Nat) (g : mg_F) : mo := bd (P_X5_placeOf a a g) fun r1 g2 => if sv (g2 5 0 2) = sv 1 then (if sv r1 < 0 then (if sv r1 = 0 then (some (1, g2)) else (some (0, g2))) else (ck (a < 24) <| if sv (g2 40 0 a) < sv (g2 5 0 3) then (some (r1, g2)) else (if sv (g2 46 0 a) = sv 1 then (some (r1, g2)) else (if sv r1 = 0 then (some (1, g2)) else (some (0, g2)))))) else (L_X5_firstOf_59 a r1 (fun w15 w16 g17 => some (w15, g17)) 4000 0 1 g2)
theorem p_X5_firstOf {l : Launch} {Z : mg_Zt} {a : Nat} {g : mg_F} (hb : Z.2.2.1 = true) : ∀ (r : Nat) (g' : mg_F), P_X5_firstOf a g = some (r, g') → mg_C l Z mX5_firstOf [rv Z 5 0, iv a] g (mp mX5_firstOf r g') := by
  refine mC_of (by decide) rfl (Nat.le_of_ble_eq_true rfl) (List.forall_mem_cons.mpr ⟨rfl, (List.forall_mem_cons.mpr ⟨rfl, (fun _ h => nomatch h)⟩)⟩) (fun K => ?_)
  unfold P_X5_firstOf
  refine j_lift (fun _ k => g_aload_n (pc := 0) dX5_firstOf_0 rfl k) ?_
  refine j_lift (fun _ k => g_iload_n (pc := 1) dX5_firstOf_1 rfl k) ?_
  refine j_lift (fun _ k => g_iload_n (pc := 2) dX5_firstOf_2 rfl k) ?_
  refine j_callVi (pc := 3) (Y' := mX5_placeOf) (As := [iv a, iv a]) (st := []) (k := 5) (i := 0) (p_X5_placeOf hb) gX5_firstOf_X5_placeOf rfl (by rw [hb]; decide) rfl rfl (na := 2) rfl (by decide +kernel) (by decide) (by decide) (Nat.le_of_ble_eq_true rfl) dX5_firstOf_3 (fun r1 g2 => ?_)
  refine j_lift (fun _ k => g_istore_n (pc := 6) (ls' := [rv Z 5 0, iv a, iv r1]) dX5_firstOf_6 (Nat.le_of_ble_eq_true rfl) (Nat.le_of_ble_eq_true rfl) rfl k) ?_
  refine j_lift (fun _ k => g_aload_n (pc := 7) dX5_firstOf_7 rfl k) ?_
  refine j_lift (fun _ k => fg_X5_firstOf_124 (pc := 8) hb dX5_firstOf_8 k) ?_
  refine j_lift (fun _ k => g_iconst (pc := 11) (v := 1) dX5_firstOf_11 (by decide +kernel) k) ?_
  refine j_icmp_ne (pc := 12) 54 dX5_firstOf_12 (by decide) (fun h3 => ?_) (fun h3 => ?_)
  · refine j_lift (fun _ k => g_iconst (pc := 54) (v := 0) dX5_firstOf_54 (by decide +kernel) k) ?_
    refine j_lift (fun _ k => g_istore_n (pc := 55) (ls' := [rv Z 5 0, iv a, iv r1, iv 0]) dX5_firstOf_55 (Nat.le_of_ble_eq_true rfl) (Nat.le_of_ble_eq_true rfl) rfl k) ?_
    refine j_lift (fun _ k => g_iconst (pc := 56) (v := 1) dX5_firstOf_56 (by decide +kernel) k) ?_
    refine j_lift (fun _ k => g_istore (pc := 57) (ls' := [rv Z 5 0, iv a, iv r1, iv 0, iv 1]) dX5_firstOf_57 (Nat.le_of_ble_eq_true rfl) (Nat.le_of_ble_eq_true rfl) rfl k) ?_
    refine l_X5_firstOf_59 hb  (fun w15 w16 g17 => ?_) 4000 0 1 g2
    refine j_lift (fun _ k => g_iload_n (pc := 117) dX5_firstOf_117 rfl k) ?_
    exact j_iret (pc := 118) dX5_firstOf_118 ⟨mg_narI _, Or.inl rfl⟩ rfl
  · refine j_lift (fun _ k => g_iload_n (pc := 15) dX5_firstOf_15 rfl k) ?_
    refine j_if_lt (pc := 16) 44 dX5_firstOf_16 (by decide) (fun h18 => ?_) (fun h18 => ?_)
    · refine j_lift (fun _ k => g_iload_n (pc := 44) dX5_firstOf_44 rfl k) ?_
      refine j_if_ne (pc := 45) 52 dX5_firstOf_45 (by decide) (fun h19 => ?_) (fun h19 => ?_)
      · refine j_lift (fun _ k => g_iconst (pc := 52) (v := 0) dX5_firstOf_52 (by decide +kernel) k) ?_
        exact j_iret (pc := 53) dX5_firstOf_53 ⟨mg_narI _, Or.inl rfl⟩ rfl
      · refine j_lift (fun _ k => g_iconst (pc := 48) (v := 1) dX5_firstOf_48 (by decide +kernel) k) ?_
        refine j_lift (fun _ k => g_goto (pc := 49) 53 dX5_firstOf_49 (by decide) k) ?_
        exact j_iret (pc := 53) dX5_firstOf_53 ⟨mg_narI _, Or.inl rfl⟩ rfl
    · refine j_lift (fun _ k => g_aload_n (pc := 19) dX5_firstOf_19 rfl k) ?_
      refine j_lift (fun _ k => fg_X5_firstOf_26 (pc := 20) hb dX5_firstOf_20 k) ?_
      refine j_lift (fun _ k => g_iload_n (pc := 23) dX5_firstOf_23 rfl k) ?_
      refine j_ck (fun c20 => ?_)
      refine j_lift (fun _ k => g_iaload (pc := 24) (k := 40) (i := 0) (n := 24) (by rw [hb]; decide) rfl (by decide) c20 dX5_firstOf_24 k) ?_
      refine j_lift (fun _ k => g_aload_n (pc := 25) dX5_firstOf_25 rfl k) ?_
      refine j_lift (fun _ k => fg_X5_firstOf_127 (pc := 26) hb dX5_firstOf_26 k) ?_
      refine j_icmp_lt (pc := 29) 42 dX5_firstOf_29 (by decide) (fun h21 => ?_) (fun h21 => ?_)
      · refine j_lift (fun _ k => g_iload_n (pc := 42) dX5_firstOf_42 rfl k) ?_
        exact j_iret (pc := 43) dX5_firstOf_43 ⟨mg_narI _, Or.inl rfl⟩ rfl
      · refine j_lift (fun _ k => g_aload_n (pc := 32) dX5_firstOf_32 rfl k) ?_
        refine j_lift (fun _ k => fg_X5_firstOf_41 (pc := 33) hb dX5_firstOf_33 k) ?_
        refine j_lift (fun _ k => g_iload_n (pc := 36) dX5_firstOf_36 rfl k) ?_
        refine j_lift (fun _ k => g_iaload (pc := 37) (k := 46) (i := 0) (n := 24) (by rw [hb]; decide) rfl (by decide) c20 dX5_firstOf_37 k) ?_
        refine j_lift (fun _ k => g_iconst (pc := 38) (v := 1) dX5_firstOf_38 (by decide +kernel) k) ?_
        refine j_icmp_ne (pc := 39) 44 dX5_firstOf_39 (by decide) (fun h22 => ?_) (fun h22 => ?_)
        · refine j_lift (fun _ k => g_iload_n (pc := 44) dX5_firstOf_44 rfl k) ?_
          refine j_if_ne (pc := 45) 52 dX5_firstOf_45 (by decide) (fun h23 => ?_) (fun h23 => ?_)
          · refine j_lift (fun _ k => g_iconst (pc := 52) (v := 0) dX5_firstOf_52 (by decide +kernel) k) ?_
            exact j_iret (pc := 53) dX5_firstOf_53 ⟨mg_narI _, Or.inl rfl⟩ rfl
          · refine j_lift (fun _ k => g_iconst (pc := 48) (v := 1) dX5_firstOf_48 (by decide +kernel) k) ?_
            refine j_lift (fun _ k => g_goto (pc := 49) 53 dX5_firstOf_49 (by decide) k) ?_
            exact j_iret (pc := 53) dX5_firstOf_53 ⟨mg_narI _, Or.inl rfl⟩ rfl
        · refine j_lift (fun _ k => g_iload_n (pc := 42) dX5_firstOf_42 rfl k) ?_
          exact j_iret (pc := 43) dX5_firstOf_43 ⟨mg_narI _, Or.inl rfl⟩ rfl

/-- X5_greatest -/
def L_X5_greatest_4 (a1 : Nat) (k : Nat → Nat → mg_F → mo) : Nat → Nat → Nat → mg_F → mo
  | 0, _, _, _ => none
  | n + 1, v2, v3, g => ck (a1 < 24) <| if sv v3 < sv (g 46 0 a1) then (bd (P_X5_entry a1 v3 g) fun r3 g4 => ck (r3 < 576) <| jn (α := Nat) (fun x9 g10 => L_X5_greatest_4 a1 k n x9 (v3 + 1) g10) fun kj7 => if sv v2 < sv (g4 48 0 r3) then (bd (P_X5_entry a1 v3 g4) fun r11 g12 => ck (r11 < 576) <| kj7 (g12 48 0 r11) g12) else (kj7 v2 g4)) else (k v2 v3 g)
theorem l_X5_greatest_4 {K : mg_Kt} {Z : mg_Zt} (hb : Z.2.2.1 = true) {a1 : Nat}  {k : Nat → Nat → mg_F → mo} (hk : ∀ (v2 v3 : Nat) (g : mg_F), mj K Z mX5_greatest (k v2 v3 g) 51 [rv Z 5 0, iv a1, iv v2, iv v3] [] g) : ∀ (n : Nat) (v2 v3 : Nat) (g : mg_F), mj K Z mX5_greatest (L_X5_greatest_4 a1 k n v2 v3 g) 4 [rv Z 5 0, iv a1, iv v2, iv v3] [] g := by
  intro n
  induction n with
  | zero => intro _ _ _; exact j_none
  | succ n ih =>
    intro v2 v3 g
    unfold L_X5_greatest_4
    refine j_lift (fun _ k => g_iload_n (pc := 4) dX5_greatest_4 rfl k) ?_
    refine j_lift (fun _ k => g_aload_n (pc := 5) dX5_greatest_5 rfl k) ?_
    refine j_lift (fun _ k => fg_X5_greatest_41 (pc := 6) hb dX5_greatest_6 k) ?_
    refine j_lift (fun _ k => g_iload_n (pc := 9) dX5_greatest_9 rfl k) ?_
    refine j_ck (fun c1 => ?_)
    refine j_lift (fun _ k => g_iaload (pc := 10) (k := 46) (i := 0) (n := 24) (by rw [hb]; decide) rfl (by decide) c1 dX5_greatest_10 k) ?_
    refine j_icmp_ge (pc := 11) 51 dX5_greatest_11 (by decide) (fun h2 => ?_) (fun h2 => ?_)
    · exact hk v2 v3 g
    · refine j_lift (fun _ k => g_aload_n (pc := 14) dX5_greatest_14 rfl k) ?_
      refine j_lift (fun _ k => fg_X5_greatest_47 (pc := 15) hb dX5_greatest_15 k) ?_
      refine j_lift (fun _ k => g_aload_n (pc := 18) dX5_greatest_18 rfl k) ?_
      refine j_lift (fun _ k => g_iload_n (pc := 19) dX5_greatest_19 rfl k) ?_
      refine j_lift (fun _ k => g_iload_n (pc := 20) dX5_greatest_20 rfl k) ?_
      refine j_callVi (pc := 21) (Y' := mX5_entry) (As := [iv a1, iv v3]) (st := [rv Z 48 0]) (k := 5) (i := 0) (p_X5_entry hb) gX5_greatest_X5_entry rfl (by rw [hb]; decide) rfl rfl (na := 2) rfl (by decide +kernel) (by decide) (by decide) (Nat.le_of_ble_eq_true rfl) dX5_greatest_21 (fun r3 g4 => ?_)
      refine j_ck (fun c5 => ?_)
      refine j_lift (fun _ k => g_iaload (pc := 24) (k := 48) (i := 0) (n := 576) (by rw [hb]; decide) rfl (by decide) c5 dX5_greatest_24 k) ?_
      refine j_lift (fun _ k => g_iload_n (pc := 25) dX5_greatest_25 rfl k) ?_
      refine j_jn (α := Nat) 44 (fun x9 => [rv Z 5 0, iv a1, iv v2, iv v3]) (fun x9 => [iv x9]) (fun x9 g10 => ?_) (fun kj7 hk8 => ?_)
      · refine j_lift (fun _ k => g_istore_n (pc := 44) (ls' := [rv Z 5 0, iv a1, iv x9, iv v3]) dX5_greatest_44 (Nat.le_of_ble_eq_true rfl) (Nat.le_of_ble_eq_true rfl) rfl k) ?_
        refine j_lift (fun _ k => g_iinc (pc := 45) (v := v3 + 1) (ls' := [rv Z 5 0, iv a1, iv x9, iv (v3 + 1)]) dX5_greatest_45 (Nat.le_of_ble_eq_true rfl) rfl (mg_inc _) rfl k) ?_
        refine j_lift (fun _ k => g_goto (pc := 48) 4 dX5_greatest_48 (by decide) k) ?_
        exact ih x9 (v3 + 1) g10
      · refine j_icmp_le (pc := 26) 43 dX5_greatest_26 (by decide) (fun h6 => ?_) (fun h6 => ?_)
        · refine j_lift (fun _ k => g_iload_n (pc := 43) dX5_greatest_43 rfl k) ?_
          exact hk8 v2 g4
        · refine j_lift (fun _ k => g_aload_n (pc := 29) dX5_greatest_29 rfl k) ?_
          refine j_lift (fun _ k => fg_X5_greatest_47 (pc := 30) hb dX5_greatest_30 k) ?_
          refine j_lift (fun _ k => g_aload_n (pc := 33) dX5_greatest_33 rfl k) ?_
          refine j_lift (fun _ k => g_iload_n (pc := 34) dX5_greatest_34 rfl k) ?_
          refine j_lift (fun _ k => g_iload_n (pc := 35) dX5_greatest_35 rfl k) ?_
          refine j_callVi (pc := 36) (Y' := mX5_entry) (As := [iv a1, iv v3]) (st := [rv Z 48 0]) (k := 5) (i := 0) (p_X5_entry hb) gX5_greatest_X5_entry rfl (by rw [hb]; decide) rfl rfl (na := 2) rfl (by decide +kernel) (by decide) (by decide) (Nat.le_of_ble_eq_true rfl) dX5_greatest_36 (fun r11 g12 => ?_)
          refine j_ck (fun c13 => ?_)
          refine j_lift (fun _ k => g_iaload (pc := 39) (k := 48) (i := 0) (n := 576) (by rw [hb]; decide) rfl (by decide) c13 dX5_greatest_39 k) ?_
          refine j_lift (fun _ k => g_goto (pc := 40) 44 dX5_greatest_40 (by decide) k) ?_
          exact hk8 (g12 48 0 r11) g12
def P_X5_greatest (a : Nat) (g : mg_F) : mo := L_X5_greatest_4 a (fun w14 w15 g16 => some (w14, g16)) 4000 0 0 g
theorem p_X5_greatest {l : Launch} {Z : mg_Zt} {a : Nat} {g : mg_F} (hb : Z.2.2.1 = true) : ∀ (r : Nat) (g' : mg_F), P_X5_greatest a g = some (r, g') → mg_C l Z mX5_greatest [rv Z 5 0, iv a] g (mp mX5_greatest r g') := by
  refine mC_of (by decide) rfl (Nat.le_of_ble_eq_true rfl) (List.forall_mem_cons.mpr ⟨rfl, (List.forall_mem_cons.mpr ⟨rfl, (fun _ h => nomatch h)⟩)⟩) (fun K => ?_)
  unfold P_X5_greatest
  refine j_lift (fun _ k => g_iconst (pc := 0) (v := 0) dX5_greatest_0 (by decide +kernel) k) ?_
  refine j_lift (fun _ k => g_istore_n (pc := 1) (ls' := [rv Z 5 0, iv a, iv 0]) dX5_greatest_1 (Nat.le_of_ble_eq_true rfl) (Nat.le_of_ble_eq_true rfl) rfl k) ?_
  refine j_lift (fun _ k => g_iconst (pc := 2) (v := 0) dX5_greatest_2 (by decide +kernel) k) ?_
  refine j_lift (fun _ k => g_istore_n (pc := 3) (ls' := [rv Z 5 0, iv a, iv 0, iv 0]) dX5_greatest_3 (Nat.le_of_ble_eq_true rfl) (Nat.le_of_ble_eq_true rfl) rfl k) ?_
  refine l_X5_greatest_4 hb  (fun w14 w15 g16 => ?_) 4000 0 0 g
  refine j_lift (fun _ k => g_iload_n (pc := 51) dX5_greatest_51 rfl k) ?_
  exact j_iret (pc := 52) dX5_greatest_52 ⟨mg_narI _, Or.inl rfl⟩ rfl

/-- X5_send -/
def P_X5_send (a b c d : Nat) (g : mg_F) : mo := if sv (g 5 0 26) = sv 60 then (some (0, g)) else (ck (g 5 0 26 < 60) <| wr (mg_up g 57 0 (g 5 0 26) a) fun g3 => ck (g3 5 0 26 < 60) <| wr (mg_up g3 58 0 (g3 5 0 26) b) fun g5 => ck (g5 5 0 26 < 60) <| wr (mg_up g5 59 0 (g5 5 0 26) c) fun g7 => ck (g7 5 0 26 < 60) <| wr (mg_up g7 60 0 (g7 5 0 26) d) fun g9 => wr (mg_up g9 5 0 26 ((g9 5 0 26) + 1)) fun g10 => some (0, g10))
theorem p_X5_send {l : Launch} {Z : mg_Zt} {a b c d : Nat} {g : mg_F} (hb : Z.2.2.1 = true) : ∀ (r : Nat) (g' : mg_F), P_X5_send a b c d g = some (r, g') → mg_C l Z mX5_send [rv Z 5 0, iv a, iv b, iv c, iv d] g (mp mX5_send r g') := by
  refine mC_of (by decide) rfl (Nat.le_of_ble_eq_true rfl) (List.forall_mem_cons.mpr ⟨rfl, (List.forall_mem_cons.mpr ⟨rfl, (List.forall_mem_cons.mpr ⟨rfl, (List.forall_mem_cons.mpr ⟨rfl, (List.forall_mem_cons.mpr ⟨rfl, (fun _ h => nomatch h)⟩)⟩)⟩)⟩)⟩) (fun K => ?_)
  unfold P_X5_send
  refine j_lift (fun _ k => g_aload_n (pc := 0) dX5_send_0 rfl k) ?_
  refine j_lift (fun _ k => fg_X5_send_136 (pc := 1) hb dX5_send_1 k) ?_
  refine j_lift (fun _ k => g_bipush (pc := 4) (v := 60) dX5_send_4 (by decide +kernel) k) ?_
  refine j_icmp_ne (pc := 6) 10 dX5_send_6 (by decide) (fun h1 => ?_) (fun h1 => ?_)
  · refine j_lift (fun _ k => g_aload_n (pc := 10) dX5_send_10 rfl k) ?_
    refine j_lift (fun _ k => fg_X5_send_68 (pc := 11) hb dX5_send_11 k) ?_
    refine j_lift (fun _ k => g_aload_n (pc := 14) dX5_send_14 rfl k) ?_
    refine j_lift (fun _ k => fg_X5_send_136 (pc := 15) hb dX5_send_15 k) ?_
    refine j_lift (fun _ k => g_iload_n (pc := 18) dX5_send_18 rfl k) ?_
    refine j_ck (fun c2 => ?_)
    refine j_w (fun _ k => g_iastore (pc := 19) (k := 57) (i := 0) (n := 60) (by rw [hb]; decide) (fun _ => rfl) (by decide) c2 dX5_send_19 k) (fun g3 => ?_)
    refine j_lift (fun _ k => g_aload_n (pc := 20) dX5_send_20 rfl k) ?_
    refine j_lift (fun _ k => fg_X5_send_71 (pc := 21) hb dX5_send_21 k) ?_
    refine j_lift (fun _ k => g_aload_n (pc := 24) dX5_send_24 rfl k) ?_
    refine j_lift (fun _ k => fg_X5_send_136 (pc := 25) hb dX5_send_25 k) ?_
    refine j_lift (fun _ k => g_iload_n (pc := 28) dX5_send_28 rfl k) ?_
    refine j_ck (fun c4 => ?_)
    refine j_w (fun _ k => g_iastore (pc := 29) (k := 58) (i := 0) (n := 60) (by rw [hb]; decide) (fun _ => rfl) (by decide) c4 dX5_send_29 k) (fun g5 => ?_)
    refine j_lift (fun _ k => g_aload_n (pc := 30) dX5_send_30 rfl k) ?_
    refine j_lift (fun _ k => fg_X5_send_74 (pc := 31) hb dX5_send_31 k) ?_
    refine j_lift (fun _ k => g_aload_n (pc := 34) dX5_send_34 rfl k) ?_
    refine j_lift (fun _ k => fg_X5_send_136 (pc := 35) hb dX5_send_35 k) ?_
    refine j_lift (fun _ k => g_iload_n (pc := 38) dX5_send_38 rfl k) ?_
    refine j_ck (fun c6 => ?_)
    refine j_w (fun _ k => g_iastore (pc := 39) (k := 59) (i := 0) (n := 60) (by rw [hb]; decide) (fun _ => rfl) (by decide) c6 dX5_send_39 k) (fun g7 => ?_)
    refine j_lift (fun _ k => g_aload_n (pc := 40) dX5_send_40 rfl k) ?_
    refine j_lift (fun _ k => fg_X5_send_77 (pc := 41) hb dX5_send_41 k) ?_
    refine j_lift (fun _ k => g_aload_n (pc := 44) dX5_send_44 rfl k) ?_
    refine j_lift (fun _ k => fg_X5_send_136 (pc := 45) hb dX5_send_45 k) ?_
    refine j_lift (fun _ k => g_iload (pc := 48) dX5_send_48 rfl k) ?_
    refine j_ck (fun c8 => ?_)
    refine j_w (fun _ k => g_iastore (pc := 50) (k := 60) (i := 0) (n := 60) (by rw [hb]; decide) (fun _ => rfl) (by decide) c8 dX5_send_50 k) (fun g9 => ?_)
    refine j_lift (fun _ k => g_aload_n (pc := 51) dX5_send_51 rfl k) ?_
    refine j_lift (fun _ k => g_dup (pc := 52) dX5_send_52 rfl k) ?_
    refine j_lift (fun _ k => fg_X5_send_136 (pc := 53) hb dX5_send_53 k) ?_
    refine j_lift (fun _ k => g_iconst (pc := 56) (v := 1) dX5_send_56 (by decide +kernel) k) ?_
    refine j_lift (fun _ k => g_iadd (pc := 57) (a := g9 5 0 26) (b := 1) dX5_send_57 k) ?_
    refine j_w (fun _ k => fp_X5_send_136 (pc := 58) hb dX5_send_58 k) (fun g10 => ?_)
    exact j_ret (pc := 61) dX5_send_61 trivial rfl
  · exact j_ret (pc := 9) dX5_send_9 trivial rfl

/-- X5_firstLetter -/
def L_X5_firstLetter_9 (a1 : Nat) (k : Nat → Nat → mg_F → mo) : Nat → Nat → Nat → mg_F → mo
  | 0, _, _, _ => none
  | n + 1, v2, v3, g => if sv v3 < 0 then (k v2 v3 g) else (ck (v3 < 3000) <| jn (α := Nat) (fun x6 g7 => L_X5_firstLetter_9 a1 k n x6 (sb v3 1) g7) fun kj4 => if sv (g 52 0 v3) = sv a1 then (kj4 v3 g) else (kj4 v2 g))
theorem l_X5_firstLetter_9 {K : mg_Kt} {Z : mg_Zt} (hb : Z.2.2.1 = true) {a1 : Nat}  {k : Nat → Nat → mg_F → mo} (hk : ∀ (v2 v3 : Nat) (g : mg_F), mj K Z mX5_firstLetter (k v2 v3 g) 35 [rv Z 5 0, iv a1, iv v2, iv v3] [] g) : ∀ (n : Nat) (v2 v3 : Nat) (g : mg_F), mj K Z mX5_firstLetter (L_X5_firstLetter_9 a1 k n v2 v3 g) 9 [rv Z 5 0, iv a1, iv v2, iv v3] [] g := by
  intro n
  induction n with
  | zero => intro _ _ _; exact j_none
  | succ n ih =>
    intro v2 v3 g
    unfold L_X5_firstLetter_9
    refine j_lift (fun _ k => g_iload_n (pc := 9) dX5_firstLetter_9 rfl k) ?_
    refine j_if_lt (pc := 10) 35 dX5_firstLetter_10 (by decide) (fun h1 => ?_) (fun h1 => ?_)
    · exact hk v2 v3 g
    · refine j_lift (fun _ k => g_aload_n (pc := 13) dX5_firstLetter_13 rfl k) ?_
      refine j_lift (fun _ k => fg_X5_firstLetter_56 (pc := 14) hb dX5_firstLetter_14 k) ?_
      refine j_lift (fun _ k => g_iload_n (pc := 17) dX5_firstLetter_17 rfl k) ?_
      refine j_ck (fun c2 => ?_)
      refine j_lift (fun _ k => g_iaload (pc := 18) (k := 52) (i := 0) (n := 3000) (by rw [hb]; decide) rfl (by decide) c2 dX5_firstLetter_18 k) ?_
      refine j_lift (fun _ k => g_iload_n (pc := 19) dX5_firstLetter_19 rfl k) ?_
      refine j_jn (α := Nat) 28 (fun x6 => [rv Z 5 0, iv a1, iv v2, iv v3]) (fun x6 => [iv x6]) (fun x6 g7 => ?_) (fun kj4 hk5 => ?_)
      · refine j_lift (fun _ k => g_istore_n (pc := 28) (ls' := [rv Z 5 0, iv a1, iv x6, iv v3]) dX5_firstLetter_28 (Nat.le_of_ble_eq_true rfl) (Nat.le_of_ble_eq_true rfl) rfl k) ?_
        refine j_lift (fun _ k => g_iinc (pc := 29) (v := sb v3 1) (ls' := [rv Z 5 0, iv a1, iv x6, iv (sb v3 1)]) dX5_firstLetter_29 (Nat.le_of_ble_eq_true rfl) rfl (nI_dec _) rfl k) ?_
        refine j_lift (fun _ k => g_goto (pc := 32) 9 dX5_firstLetter_32 (by decide) k) ?_
        exact ih x6 (sb v3 1) g7
      · refine j_icmp_ne (pc := 20) 27 dX5_firstLetter_20 (by decide) (fun h3 => ?_) (fun h3 => ?_)
        · refine j_lift (fun _ k => g_iload_n (pc := 27) dX5_firstLetter_27 rfl k) ?_
          exact hk5 v2 g
        · refine j_lift (fun _ k => g_iload_n (pc := 23) dX5_firstLetter_23 rfl k) ?_
          refine j_lift (fun _ k => g_goto (pc := 24) 28 dX5_firstLetter_24 (by decide) k) ?_
          exact hk5 v3 g
def P_X5_firstLetter (a : Nat) (g : mg_F) : mo := L_X5_firstLetter_9 a (fun w8 w9 g10 => some (w8, g10)) 4000 4294967295 (sb (g 5 0 21) 1) g
theorem p_X5_firstLetter {l : Launch} {Z : mg_Zt} {a : Nat} {g : mg_F} (hb : Z.2.2.1 = true) : ∀ (r : Nat) (g' : mg_F), P_X5_firstLetter a g = some (r, g') → mg_C l Z mX5_firstLetter [rv Z 5 0, iv a] g (mp mX5_firstLetter r g') := by
  refine mC_of (by decide) rfl (Nat.le_of_ble_eq_true rfl) (List.forall_mem_cons.mpr ⟨rfl, (List.forall_mem_cons.mpr ⟨rfl, (fun _ h => nomatch h)⟩)⟩) (fun K => ?_)
  unfold P_X5_firstLetter
  refine j_lift (fun _ k => g_iconst (pc := 0) (v := 4294967295) dX5_firstLetter_0 (by decide +kernel) k) ?_
  refine j_lift (fun _ k => g_istore_n (pc := 1) (ls' := [rv Z 5 0, iv a, iv 4294967295]) dX5_firstLetter_1 (Nat.le_of_ble_eq_true rfl) (Nat.le_of_ble_eq_true rfl) rfl k) ?_
  refine j_lift (fun _ k => g_aload_n (pc := 2) dX5_firstLetter_2 rfl k) ?_
  refine j_lift (fun _ k => fg_X5_firstLetter_133 (pc := 3) hb dX5_firstLetter_3 k) ?_
  refine j_lift (fun _ k => g_iconst (pc := 6) (v := 1) dX5_firstLetter_6 (by decide +kernel) k) ?_
  refine j_lift (fun _ k => g_sb (pc := 7) (a := g 5 0 21) (b := 1) dX5_firstLetter_7 k) ?_
  refine j_lift (fun _ k => g_istore_n (pc := 8) (ls' := [rv Z 5 0, iv a, iv 4294967295, iv (sb (g 5 0 21) 1)]) dX5_firstLetter_8 (Nat.le_of_ble_eq_true rfl) (Nat.le_of_ble_eq_true rfl) rfl k) ?_
  refine l_X5_firstLetter_9 hb  (fun w8 w9 g10 => ?_) 4000 4294967295 (sb (g 5 0 21) 1) g
  refine j_lift (fun _ k => g_iload_n (pc := 35) dX5_firstLetter_35 rfl k) ?_
  exact j_iret (pc := 36) dX5_firstLetter_36 ⟨mg_narI _, Or.inl rfl⟩ rfl

/-- X5_sendFirst -/
def P_X5_sendFirst (a : Nat) (g : mg_F) : mo := bd (P_X5_firstLetter a g) fun r1 g2 => if sv r1 < 0 then (some (0, g2)) else (ck (r1 < 3000) <| ck (r1 < 3000) <| ck (r1 < 3000) <| bd (P_X5_send a (g2 53 0 r1) (g2 54 0 r1) (g2 55 0 r1) g2) fun _ g8 => some (0, g8))
theorem p_X5_sendFirst {l : Launch} {Z : mg_Zt} {a : Nat} {g : mg_F} (hb : Z.2.2.1 = true) : ∀ (r : Nat) (g' : mg_F), P_X5_sendFirst a g = some (r, g') → mg_C l Z mX5_sendFirst [rv Z 5 0, iv a] g (mp mX5_sendFirst r g') := by
  refine mC_of (by decide) rfl (Nat.le_of_ble_eq_true rfl) (List.forall_mem_cons.mpr ⟨rfl, (List.forall_mem_cons.mpr ⟨rfl, (fun _ h => nomatch h)⟩)⟩) (fun K => ?_)
  unfold P_X5_sendFirst
  refine j_lift (fun _ k => g_aload_n (pc := 0) dX5_sendFirst_0 rfl k) ?_
  refine j_lift (fun _ k => g_iload_n (pc := 1) dX5_sendFirst_1 rfl k) ?_
  refine j_callVi (pc := 2) (Y' := mX5_firstLetter) (As := [iv a]) (st := []) (k := 5) (i := 0) (p_X5_firstLetter hb) gX5_sendFirst_X5_firstLetter rfl (by rw [hb]; decide) rfl rfl (na := 1) rfl (by decide +kernel) (by decide) (by decide) (Nat.le_of_ble_eq_true rfl) dX5_sendFirst_2 (fun r1 g2 => ?_)
  refine j_lift (fun _ k => g_istore_n (pc := 5) (ls' := [rv Z 5 0, iv a, iv r1]) dX5_sendFirst_5 (Nat.le_of_ble_eq_true rfl) (Nat.le_of_ble_eq_true rfl) rfl k) ?_
  refine j_lift (fun _ k => g_iload_n (pc := 6) dX5_sendFirst_6 rfl k) ?_
  refine j_if_lt (pc := 7) 33 dX5_sendFirst_7 (by decide) (fun h3 => ?_) (fun h3 => ?_)
  · exact j_ret (pc := 33) dX5_sendFirst_33 trivial rfl
  · refine j_lift (fun _ k => g_aload_n (pc := 10) dX5_sendFirst_10 rfl k) ?_
    refine j_lift (fun _ k => g_iload_n (pc := 11) dX5_sendFirst_11 rfl k) ?_
    refine j_lift (fun _ k => g_aload_n (pc := 12) dX5_sendFirst_12 rfl k) ?_
    refine j_lift (fun _ k => fg_X5_sendFirst_59 (pc := 13) hb dX5_sendFirst_13 k) ?_
    refine j_lift (fun _ k => g_iload_n (pc := 16) dX5_sendFirst_16 rfl k) ?_
    refine j_ck (fun c4 => ?_)
    refine j_lift (fun _ k => g_iaload (pc := 17) (k := 53) (i := 0) (n := 3000) (by rw [hb]; decide) rfl (by decide) c4 dX5_sendFirst_17 k) ?_
    refine j_lift (fun _ k => g_aload_n (pc := 18) dX5_sendFirst_18 rfl k) ?_
    refine j_lift (fun _ k => fg_X5_sendFirst_62 (pc := 19) hb dX5_sendFirst_19 k) ?_
    refine j_lift (fun _ k => g_iload_n (pc := 22) dX5_sendFirst_22 rfl k) ?_
    refine j_ck (fun c5 => ?_)
    refine j_lift (fun _ k => g_iaload (pc := 23) (k := 54) (i := 0) (n := 3000) (by rw [hb]; decide) rfl (by decide) c5 dX5_sendFirst_23 k) ?_
    refine j_lift (fun _ k => g_aload_n (pc := 24) dX5_sendFirst_24 rfl k) ?_
    refine j_lift (fun _ k => fg_X5_sendFirst_65 (pc := 25) hb dX5_sendFirst_25 k) ?_
    refine j_lift (fun _ k => g_iload_n (pc := 28) dX5_sendFirst_28 rfl k) ?_
    refine j_ck (fun c6 => ?_)
    refine j_lift (fun _ k => g_iaload (pc := 29) (k := 55) (i := 0) (n := 3000) (by rw [hb]; decide) rfl (by decide) c6 dX5_sendFirst_29 k) ?_
    refine j_callVv (pc := 30) (Y' := mX5_send) (As := [iv a, iv (g2 53 0 r1), iv (g2 54 0 r1), iv (g2 55 0 r1)]) (st := []) (k := 5) (i := 0) (p_X5_send hb) gX5_sendFirst_X5_send rfl (by rw [hb]; decide) rfl rfl (na := 4) rfl (by decide +kernel) (by decide) (by decide) (Nat.le_of_ble_eq_true rfl) dX5_sendFirst_30 (fun _ g8 => ?_)
    exact j_ret (pc := 33) dX5_sendFirst_33 trivial rfl

/-- X5_write -/
def P_X5_write (a b c : Nat) (g : mg_F) : mo := bd (P_X5_firstLetter a g) fun r1 g2 => jn (α := Nat) (fun x6 g7 => ck (g7 5 0 21 < 3000) <| wr (mg_up g7 52 0 (g7 5 0 21) a) fun g9 => ck (g9 5 0 21 < 3000) <| wr (mg_up g9 53 0 (g9 5 0 21) b) fun g11 => ck (g11 5 0 21 < 3000) <| wr (mg_up g11 54 0 (g11 5 0 21) c) fun g13 => ck (a < 576) <| ck (g13 5 0 21 < 3000) <| wr (mg_up g13 55 0 (g13 5 0 21) (g13 49 0 a)) fun g16 => wr (mg_up g16 5 0 21 ((g16 5 0 21) + 1)) fun g17 => ck (a < 576) <| ck (a < 576) <| wr (mg_up g17 49 0 a ((g17 49 0 a) + 1)) fun g20 => if sv x6 = 0 then (some (0, g20)) else (bd (P_X5_sendFirst a g20) fun _ g23 => some (0, g23))) fun kj4 => if sv r1 < 0 then (kj4 1 g2) else (kj4 0 g2)
theorem p_X5_write {l : Launch} {Z : mg_Zt} {a b c : Nat} {g : mg_F} (hb : Z.2.2.1 = true) : ∀ (r : Nat) (g' : mg_F), P_X5_write a b c g = some (r, g') → mg_C l Z mX5_write [rv Z 5 0, iv a, iv b, iv c] g (mp mX5_write r g') := by
  refine mC_of (by decide) rfl (Nat.le_of_ble_eq_true rfl) (List.forall_mem_cons.mpr ⟨rfl, (List.forall_mem_cons.mpr ⟨rfl, (List.forall_mem_cons.mpr ⟨rfl, (List.forall_mem_cons.mpr ⟨rfl, (fun _ h => nomatch h)⟩)⟩)⟩)⟩) (fun K => ?_)
  unfold P_X5_write
  refine j_lift (fun _ k => g_aload_n (pc := 0) dX5_write_0 rfl k) ?_
  refine j_lift (fun _ k => g_iload_n (pc := 1) dX5_write_1 rfl k) ?_
  refine j_callVi (pc := 2) (Y' := mX5_firstLetter) (As := [iv a]) (st := []) (k := 5) (i := 0) (p_X5_firstLetter hb) gX5_write_X5_firstLetter rfl (by rw [hb]; decide) rfl rfl (na := 1) rfl (by decide +kernel) (by decide) (by decide) (Nat.le_of_ble_eq_true rfl) dX5_write_2 (fun r1 g2 => ?_)
  refine j_jn (α := Nat) 13 (fun x6 => [rv Z 5 0, iv a, iv b, iv c]) (fun x6 => [iv x6]) (fun x6 g7 => ?_) (fun kj4 hk5 => ?_)
  · refine j_lift (fun _ k => g_istore (pc := 13) (ls' := [rv Z 5 0, iv a, iv b, iv c, iv x6]) dX5_write_13 (Nat.le_of_ble_eq_true rfl) (Nat.le_of_ble_eq_true rfl) rfl k) ?_
    refine j_lift (fun _ k => g_aload_n (pc := 15) dX5_write_15 rfl k) ?_
    refine j_lift (fun _ k => fg_X5_write_56 (pc := 16) hb dX5_write_16 k) ?_
    refine j_lift (fun _ k => g_aload_n (pc := 19) dX5_write_19 rfl k) ?_
    refine j_lift (fun _ k => fg_X5_write_133 (pc := 20) hb dX5_write_20 k) ?_
    refine j_lift (fun _ k => g_iload_n (pc := 23) dX5_write_23 rfl k) ?_
    refine j_ck (fun c8 => ?_)
    refine j_w (fun _ k => g_iastore (pc := 24) (k := 52) (i := 0) (n := 3000) (by rw [hb]; decide) (fun _ => rfl) (by decide) c8 dX5_write_24 k) (fun g9 => ?_)
    refine j_lift (fun _ k => g_aload_n (pc := 25) dX5_write_25 rfl k) ?_
    refine j_lift (fun _ k => fg_X5_write_59 (pc := 26) hb dX5_write_26 k) ?_
    refine j_lift (fun _ k => g_aload_n (pc := 29) dX5_write_29 rfl k) ?_
    refine j_lift (fun _ k => fg_X5_write_133 (pc := 30) hb dX5_write_30 k) ?_
    refine j_lift (fun _ k => g_iload_n (pc := 33) dX5_write_33 rfl k) ?_
    refine j_ck (fun c10 => ?_)
    refine j_w (fun _ k => g_iastore (pc := 34) (k := 53) (i := 0) (n := 3000) (by rw [hb]; decide) (fun _ => rfl) (by decide) c10 dX5_write_34 k) (fun g11 => ?_)
    refine j_lift (fun _ k => g_aload_n (pc := 35) dX5_write_35 rfl k) ?_
    refine j_lift (fun _ k => fg_X5_write_62 (pc := 36) hb dX5_write_36 k) ?_
    refine j_lift (fun _ k => g_aload_n (pc := 39) dX5_write_39 rfl k) ?_
    refine j_lift (fun _ k => fg_X5_write_133 (pc := 40) hb dX5_write_40 k) ?_
    refine j_lift (fun _ k => g_iload_n (pc := 43) dX5_write_43 rfl k) ?_
    refine j_ck (fun c12 => ?_)
    refine j_w (fun _ k => g_iastore (pc := 44) (k := 54) (i := 0) (n := 3000) (by rw [hb]; decide) (fun _ => rfl) (by decide) c12 dX5_write_44 k) (fun g13 => ?_)
    refine j_lift (fun _ k => g_aload_n (pc := 45) dX5_write_45 rfl k) ?_
    refine j_lift (fun _ k => fg_X5_write_65 (pc := 46) hb dX5_write_46 k) ?_
    refine j_lift (fun _ k => g_aload_n (pc := 49) dX5_write_49 rfl k) ?_
    refine j_lift (fun _ k => fg_X5_write_133 (pc := 50) hb dX5_write_50 k) ?_
    refine j_lift (fun _ k => g_aload_n (pc := 53) dX5_write_53 rfl k) ?_
    refine j_lift (fun _ k => fg_X5_write_50 (pc := 54) hb dX5_write_54 k) ?_
    refine j_lift (fun _ k => g_iload_n (pc := 57) dX5_write_57 rfl k) ?_
    refine j_ck (fun c14 => ?_)
    refine j_lift (fun _ k => g_iaload (pc := 58) (k := 49) (i := 0) (n := 576) (by rw [hb]; decide) rfl (by decide) c14 dX5_write_58 k) ?_
    refine j_ck (fun c15 => ?_)
    refine j_w (fun _ k => g_iastore (pc := 59) (k := 55) (i := 0) (n := 3000) (by rw [hb]; decide) (fun _ => rfl) (by decide) c15 dX5_write_59 k) (fun g16 => ?_)
    refine j_lift (fun _ k => g_aload_n (pc := 60) dX5_write_60 rfl k) ?_
    refine j_lift (fun _ k => g_dup (pc := 61) dX5_write_61 rfl k) ?_
    refine j_lift (fun _ k => fg_X5_write_133 (pc := 62) hb dX5_write_62 k) ?_
    refine j_lift (fun _ k => g_iconst (pc := 65) (v := 1) dX5_write_65 (by decide +kernel) k) ?_
    refine j_lift (fun _ k => g_iadd (pc := 66) (a := g16 5 0 21) (b := 1) dX5_write_66 k) ?_
    refine j_w (fun _ k => fp_X5_write_133 (pc := 67) hb dX5_write_67 k) (fun g17 => ?_)
    refine j_lift (fun _ k => g_aload_n (pc := 70) dX5_write_70 rfl k) ?_
    refine j_lift (fun _ k => fg_X5_write_50 (pc := 71) hb dX5_write_71 k) ?_
    refine j_lift (fun _ k => g_iload_n (pc := 74) dX5_write_74 rfl k) ?_
    refine j_lift (fun _ k => g_dup2 (pc := 75) dX5_write_75 rfl rfl k) ?_
    refine j_ck (fun c18 => ?_)
    refine j_lift (fun _ k => g_iaload (pc := 76) (k := 49) (i := 0) (n := 576) (by rw [hb]; decide) rfl (by decide) c18 dX5_write_76 k) ?_
    refine j_lift (fun _ k => g_iconst (pc := 77) (v := 1) dX5_write_77 (by decide +kernel) k) ?_
    refine j_lift (fun _ k => g_iadd (pc := 78) (a := g17 49 0 a) (b := 1) dX5_write_78 k) ?_
    refine j_ck (fun c19 => ?_)
    refine j_w (fun _ k => g_iastore (pc := 79) (k := 49) (i := 0) (n := 576) (by rw [hb]; decide) (fun _ => rfl) (by decide) c19 dX5_write_79 k) (fun g20 => ?_)
    refine j_lift (fun _ k => g_iload (pc := 80) dX5_write_80 rfl k) ?_
    refine j_if_eq (pc := 82) 90 dX5_write_82 (by decide) (fun h21 => ?_) (fun h21 => ?_)
    · exact j_ret (pc := 90) dX5_write_90 trivial rfl
    · refine j_lift (fun _ k => g_aload_n (pc := 85) dX5_write_85 rfl k) ?_
      refine j_lift (fun _ k => g_iload_n (pc := 86) dX5_write_86 rfl k) ?_
      refine j_callVv (pc := 87) (Y' := mX5_sendFirst) (As := [iv a]) (st := []) (k := 5) (i := 0) (p_X5_sendFirst hb) gX5_write_X5_sendFirst rfl (by rw [hb]; decide) rfl rfl (na := 1) rfl (by decide +kernel) (by decide) (by decide) (Nat.le_of_ble_eq_true rfl) dX5_write_87 (fun _ g23 => ?_)
      exact j_ret (pc := 90) dX5_write_90 trivial rfl
  · refine j_if_ge (pc := 5) 12 dX5_write_5 (by decide) (fun h3 => ?_) (fun h3 => ?_)
    · refine j_lift (fun _ k => g_iconst (pc := 12) (v := 0) dX5_write_12 (by decide +kernel) k) ?_
      exact hk5 0 g2
    · refine j_lift (fun _ k => g_iconst (pc := 8) (v := 1) dX5_write_8 (by decide +kernel) k) ?_
      refine j_lift (fun _ k => g_goto (pc := 9) 13 dX5_write_9 (by decide) k) ?_
      exact hk5 1 g2

/-- X5_writeAsk -/
def P_X5_writeAsk (a : Nat) (g : mg_F) : mo := bd (P_X5_greatest a g) fun r1 g2 => ck (a < 24) <| wr (mg_up g2 37 0 a 1) fun g4 => wr (mg_up g4 41 0 a r1) fun g5 => bd (P_X5_write ((24 * a) + (g5 36 0 a)) 0 r1 g5) fun _ g7 => some (0, g7)
theorem p_X5_writeAsk {l : Launch} {Z : mg_Zt} {a : Nat} {g : mg_F} (hb : Z.2.2.1 = true) : ∀ (r : Nat) (g' : mg_F), P_X5_writeAsk a g = some (r, g') → mg_C l Z mX5_writeAsk [rv Z 5 0, iv a] g (mp mX5_writeAsk r g') := by
  refine mC_of (by decide) rfl (Nat.le_of_ble_eq_true rfl) (List.forall_mem_cons.mpr ⟨rfl, (List.forall_mem_cons.mpr ⟨rfl, (fun _ h => nomatch h)⟩)⟩) (fun K => ?_)
  unfold P_X5_writeAsk
  refine j_lift (fun _ k => g_aload_n (pc := 0) dX5_writeAsk_0 rfl k) ?_
  refine j_lift (fun _ k => g_iload_n (pc := 1) dX5_writeAsk_1 rfl k) ?_
  refine j_callVi (pc := 2) (Y' := mX5_greatest) (As := [iv a]) (st := []) (k := 5) (i := 0) (p_X5_greatest hb) gX5_writeAsk_X5_greatest rfl (by rw [hb]; decide) rfl rfl (na := 1) rfl (by decide +kernel) (by decide) (by decide) (Nat.le_of_ble_eq_true rfl) dX5_writeAsk_2 (fun r1 g2 => ?_)
  refine j_lift (fun _ k => g_istore_n (pc := 5) (ls' := [rv Z 5 0, iv a, iv r1]) dX5_writeAsk_5 (Nat.le_of_ble_eq_true rfl) (Nat.le_of_ble_eq_true rfl) rfl k) ?_
  refine j_lift (fun _ k => g_aload_n (pc := 6) dX5_writeAsk_6 rfl k) ?_
  refine j_lift (fun _ k => fg_X5_writeAsk_17 (pc := 7) hb dX5_writeAsk_7 k) ?_
  refine j_lift (fun _ k => g_iload_n (pc := 10) dX5_writeAsk_10 rfl k) ?_
  refine j_lift (fun _ k => g_iconst (pc := 11) (v := 1) dX5_writeAsk_11 (by decide +kernel) k) ?_
  refine j_ck (fun c3 => ?_)
  refine j_w (fun _ k => g_bastore (pc := 12) (k := 37) (i := 0) (n := 24) (by rw [hb]; decide) (fun _ => rfl) (by decide) c3 (by decide) dX5_writeAsk_12 k) (fun g4 => ?_)
  refine j_lift (fun _ k => g_aload_n (pc := 13) dX5_writeAsk_13 rfl k) ?_
  refine j_lift (fun _ k => fg_X5_writeAsk_29 (pc := 14) hb dX5_writeAsk_14 k) ?_
  refine j_lift (fun _ k => g_iload_n (pc := 17) dX5_writeAsk_17 rfl k) ?_
  refine j_lift (fun _ k => g_iload_n (pc := 18) dX5_writeAsk_18 rfl k) ?_
  refine j_w (fun _ k => g_iastore (pc := 19) (k := 41) (i := 0) (n := 24) (by rw [hb]; decide) (fun _ => rfl) (by decide) c3 dX5_writeAsk_19 k) (fun g5 => ?_)
  refine j_lift (fun _ k => g_aload_n (pc := 20) dX5_writeAsk_20 rfl k) ?_
  refine j_lift (fun _ k => g_bipush (pc := 21) (v := 24) dX5_writeAsk_21 (by decide +kernel) k) ?_
  refine j_lift (fun _ k => g_iload_n (pc := 23) dX5_writeAsk_23 rfl k) ?_
  refine j_lift (fun _ k => g_imul (pc := 24) (a := 24) (b := a) dX5_writeAsk_24 k) ?_
  refine j_lift (fun _ k => g_aload_n (pc := 25) dX5_writeAsk_25 rfl k) ?_
  refine j_lift (fun _ k => fg_X5_writeAsk_13 (pc := 26) hb dX5_writeAsk_26 k) ?_
  refine j_lift (fun _ k => g_iload_n (pc := 29) dX5_writeAsk_29 rfl k) ?_
  refine j_lift (fun _ k => g_iaload (pc := 30) (k := 36) (i := 0) (n := 24) (by rw [hb]; decide) rfl (by decide) c3 dX5_writeAsk_30 k) ?_
  refine j_lift (fun _ k => g_iadd (pc := 31) (a := 24 * a) (b := g5 36 0 a) dX5_writeAsk_31 k) ?_
  refine j_lift (fun _ k => g_iconst (pc := 32) (v := 0) dX5_writeAsk_32 (by decide +kernel) k) ?_
  refine j_lift (fun _ k => g_iload_n (pc := 33) dX5_writeAsk_33 rfl k) ?_
  refine j_callVv (pc := 34) (Y' := mX5_write) (As := [iv ((24 * a) + (g5 36 0 a)), iv 0, iv r1]) (st := []) (k := 5) (i := 0) (p_X5_write hb) gX5_writeAsk_X5_write rfl (by rw [hb]; decide) rfl rfl (na := 3) rfl (by decide +kernel) (by decide) (by decide) (Nat.le_of_ble_eq_true rfl) dX5_writeAsk_34 (fun _ g7 => ?_)
  exact j_ret (pc := 37) dX5_writeAsk_37 trivial rfl

/-- X5_dropLetter -/
def L_X5_dropLetter_12 (a1 : Nat) (k : Nat → mg_F → mo) : Nat → Nat → mg_F → mo
  | 0, _, _ => none
  | n + 1, v2, g => if sv v2 < sv (g 5 0 21) then (ck (v2 + 1 < 3000) <| ck (v2 < 3000) <| wr (mg_up g 52 0 v2 (g 52 0 (v2 + 1))) fun g4 => ck (v2 + 1 < 3000) <| ck (v2 < 3000) <| wr (mg_up g4 53 0 v2 (g4 53 0 (v2 + 1))) fun g7 => ck (v2 + 1 < 3000) <| ck (v2 < 3000) <| wr (mg_up g7 54 0 v2 (g7 54 0 (v2 + 1))) fun g10 => ck (v2 + 1 < 3000) <| ck (v2 < 3000) <| wr (mg_up g10 55 0 v2 (g10 55 0 (v2 + 1))) fun g13 => L_X5_dropLetter_12 a1 k n (v2 + 1) g13) else (k v2 g)
theorem l_X5_dropLetter_12 {K : mg_Kt} {Z : mg_Zt} (hb : Z.2.2.1 = true) {a1 : Nat}  {k : Nat → mg_F → mo} (hk : ∀ (v2 : Nat) (g : mg_F), mj K Z mX5_dropLetter (k v2 g) 82 [rv Z 5 0, iv a1, iv v2] [] g) : ∀ (n : Nat) (v2 : Nat) (g : mg_F), mj K Z mX5_dropLetter (L_X5_dropLetter_12 a1 k n v2 g) 12 [rv Z 5 0, iv a1, iv v2] [] g := by
  intro n
  induction n with
  | zero => intro _ _; exact j_none
  | succ n ih =>
    intro v2 g
    unfold L_X5_dropLetter_12
    refine j_lift (fun _ k => g_iload_n (pc := 12) dX5_dropLetter_12 rfl k) ?_
    refine j_lift (fun _ k => g_aload_n (pc := 13) dX5_dropLetter_13 rfl k) ?_
    refine j_lift (fun _ k => fg_X5_dropLetter_133 (pc := 14) hb dX5_dropLetter_14 k) ?_
    refine j_icmp_ge (pc := 17) 82 dX5_dropLetter_17 (by decide) (fun h1 => ?_) (fun h1 => ?_)
    · exact hk v2 g
    · refine j_lift (fun _ k => g_aload_n (pc := 20) dX5_dropLetter_20 rfl k) ?_
      refine j_lift (fun _ k => fg_X5_dropLetter_56 (pc := 21) hb dX5_dropLetter_21 k) ?_
      refine j_lift (fun _ k => g_iload_n (pc := 24) dX5_dropLetter_24 rfl k) ?_
      refine j_lift (fun _ k => g_aload_n (pc := 25) dX5_dropLetter_25 rfl k) ?_
      refine j_lift (fun _ k => fg_X5_dropLetter_56 (pc := 26) hb dX5_dropLetter_26 k) ?_
      refine j_lift (fun _ k => g_iload_n (pc := 29) dX5_dropLetter_29 rfl k) ?_
      refine j_lift (fun _ k => g_iconst (pc := 30) (v := 1) dX5_dropLetter_30 (by decide +kernel) k) ?_
      refine j_lift (fun _ k => g_iadd (pc := 31) (a := v2) (b := 1) dX5_dropLetter_31 k) ?_
      refine j_ck (fun c2 => ?_)
      refine j_lift (fun _ k => g_iaload (pc := 32) (k := 52) (i := 0) (n := 3000) (by rw [hb]; decide) rfl (by decide) c2 dX5_dropLetter_32 k) ?_
      refine j_ck (fun c3 => ?_)
      refine j_w (fun _ k => g_iastore (pc := 33) (k := 52) (i := 0) (n := 3000) (by rw [hb]; decide) (fun _ => rfl) (by decide) c3 dX5_dropLetter_33 k) (fun g4 => ?_)
      refine j_lift (fun _ k => g_aload_n (pc := 34) dX5_dropLetter_34 rfl k) ?_
      refine j_lift (fun _ k => fg_X5_dropLetter_59 (pc := 35) hb dX5_dropLetter_35 k) ?_
      refine j_lift (fun _ k => g_iload_n (pc := 38) dX5_dropLetter_38 rfl k) ?_
      refine j_lift (fun _ k => g_aload_n (pc := 39) dX5_dropLetter_39 rfl k) ?_
      refine j_lift (fun _ k => fg_X5_dropLetter_59 (pc := 40) hb dX5_dropLetter_40 k) ?_
      refine j_lift (fun _ k => g_iload_n (pc := 43) dX5_dropLetter_43 rfl k) ?_
      refine j_lift (fun _ k => g_iconst (pc := 44) (v := 1) dX5_dropLetter_44 (by decide +kernel) k) ?_
      refine j_lift (fun _ k => g_iadd (pc := 45) (a := v2) (b := 1) dX5_dropLetter_45 k) ?_
      refine j_ck (fun c5 => ?_)
      refine j_lift (fun _ k => g_iaload (pc := 46) (k := 53) (i := 0) (n := 3000) (by rw [hb]; decide) rfl (by decide) c5 dX5_dropLetter_46 k) ?_
      refine j_ck (fun c6 => ?_)
      refine j_w (fun _ k => g_iastore (pc := 47) (k := 53) (i := 0) (n := 3000) (by rw [hb]; decide) (fun _ => rfl) (by decide) c6 dX5_dropLetter_47 k) (fun g7 => ?_)
      refine j_lift (fun _ k => g_aload_n (pc := 48) dX5_dropLetter_48 rfl k) ?_
      refine j_lift (fun _ k => fg_X5_dropLetter_62 (pc := 49) hb dX5_dropLetter_49 k) ?_
      refine j_lift (fun _ k => g_iload_n (pc := 52) dX5_dropLetter_52 rfl k) ?_
      refine j_lift (fun _ k => g_aload_n (pc := 53) dX5_dropLetter_53 rfl k) ?_
      refine j_lift (fun _ k => fg_X5_dropLetter_62 (pc := 54) hb dX5_dropLetter_54 k) ?_
      refine j_lift (fun _ k => g_iload_n (pc := 57) dX5_dropLetter_57 rfl k) ?_
      refine j_lift (fun _ k => g_iconst (pc := 58) (v := 1) dX5_dropLetter_58 (by decide +kernel) k) ?_
      refine j_lift (fun _ k => g_iadd (pc := 59) (a := v2) (b := 1) dX5_dropLetter_59 k) ?_
      refine j_ck (fun c8 => ?_)
      refine j_lift (fun _ k => g_iaload (pc := 60) (k := 54) (i := 0) (n := 3000) (by rw [hb]; decide) rfl (by decide) c8 dX5_dropLetter_60 k) ?_
      refine j_ck (fun c9 => ?_)
      refine j_w (fun _ k => g_iastore (pc := 61) (k := 54) (i := 0) (n := 3000) (by rw [hb]; decide) (fun _ => rfl) (by decide) c9 dX5_dropLetter_61 k) (fun g10 => ?_)
      refine j_lift (fun _ k => g_aload_n (pc := 62) dX5_dropLetter_62 rfl k) ?_
      refine j_lift (fun _ k => fg_X5_dropLetter_65 (pc := 63) hb dX5_dropLetter_63 k) ?_
      refine j_lift (fun _ k => g_iload_n (pc := 66) dX5_dropLetter_66 rfl k) ?_
      refine j_lift (fun _ k => g_aload_n (pc := 67) dX5_dropLetter_67 rfl k) ?_
      refine j_lift (fun _ k => fg_X5_dropLetter_65 (pc := 68) hb dX5_dropLetter_68 k) ?_
      refine j_lift (fun _ k => g_iload_n (pc := 71) dX5_dropLetter_71 rfl k) ?_
      refine j_lift (fun _ k => g_iconst (pc := 72) (v := 1) dX5_dropLetter_72 (by decide +kernel) k) ?_
      refine j_lift (fun _ k => g_iadd (pc := 73) (a := v2) (b := 1) dX5_dropLetter_73 k) ?_
      refine j_ck (fun c11 => ?_)
      refine j_lift (fun _ k => g_iaload (pc := 74) (k := 55) (i := 0) (n := 3000) (by rw [hb]; decide) rfl (by decide) c11 dX5_dropLetter_74 k) ?_
      refine j_ck (fun c12 => ?_)
      refine j_w (fun _ k => g_iastore (pc := 75) (k := 55) (i := 0) (n := 3000) (by rw [hb]; decide) (fun _ => rfl) (by decide) c12 dX5_dropLetter_75 k) (fun g13 => ?_)
      refine j_lift (fun _ k => g_iinc (pc := 76) (v := v2 + 1) (ls' := [rv Z 5 0, iv a1, iv (v2 + 1)]) dX5_dropLetter_76 (Nat.le_of_ble_eq_true rfl) rfl (mg_inc _) rfl k) ?_
      refine j_lift (fun _ k => g_goto (pc := 79) 12 dX5_dropLetter_79 (by decide) k) ?_
      exact ih (v2 + 1) g13
def P_X5_dropLetter (a : Nat) (g : mg_F) : mo := wr (mg_up g 5 0 21 (sb (g 5 0 21) 1)) fun g1 => L_X5_dropLetter_12 a (fun w14 g15 => some (0, g15)) 4000 a g1
theorem p_X5_dropLetter {l : Launch} {Z : mg_Zt} {a : Nat} {g : mg_F} (hb : Z.2.2.1 = true) : ∀ (r : Nat) (g' : mg_F), P_X5_dropLetter a g = some (r, g') → mg_C l Z mX5_dropLetter [rv Z 5 0, iv a] g (mp mX5_dropLetter r g') := by
  refine mC_of (by decide) rfl (Nat.le_of_ble_eq_true rfl) (List.forall_mem_cons.mpr ⟨rfl, (List.forall_mem_cons.mpr ⟨rfl, (fun _ h => nomatch h)⟩)⟩) (fun K => ?_)
  unfold P_X5_dropLetter
  refine j_lift (fun _ k => g_aload_n (pc := 0) dX5_dropLetter_0 rfl k) ?_
  refine j_lift (fun _ k => g_dup (pc := 1) dX5_dropLetter_1 rfl k) ?_
  refine j_lift (fun _ k => fg_X5_dropLetter_133 (pc := 2) hb dX5_dropLetter_2 k) ?_
  refine j_lift (fun _ k => g_iconst (pc := 5) (v := 1) dX5_dropLetter_5 (by decide +kernel) k) ?_
  refine j_lift (fun _ k => g_sb (pc := 6) (a := g 5 0 21) (b := 1) dX5_dropLetter_6 k) ?_
  refine j_w (fun _ k => fp_X5_dropLetter_133 (pc := 7) hb dX5_dropLetter_7 k) (fun g1 => ?_)
  refine j_lift (fun _ k => g_iload_n (pc := 10) dX5_dropLetter_10 rfl k) ?_
  refine j_lift (fun _ k => g_istore_n (pc := 11) (ls' := [rv Z 5 0, iv a, iv a]) dX5_dropLetter_11 (Nat.le_of_ble_eq_true rfl) (Nat.le_of_ble_eq_true rfl) rfl k) ?_
  refine l_X5_dropLetter_12 hb  (fun w14 g15 => ?_) 4000 a g1
  exact j_ret (pc := 82) dX5_dropLetter_82 trivial rfl

/-- X5_dropCopy -/
def L_X5_dropCopy_12 (a1 : Nat) (k : Nat → mg_F → mo) : Nat → Nat → mg_F → mo
  | 0, _, _ => none
  | n + 1, v2, g => if sv v2 < sv (g 5 0 26) then (ck (v2 + 1 < 60) <| ck (v2 < 60) <| wr (mg_up g 57 0 v2 (g 57 0 (v2 + 1))) fun g4 => ck (v2 + 1 < 60) <| ck (v2 < 60) <| wr (mg_up g4 58 0 v2 (g4 58 0 (v2 + 1))) fun g7 => ck (v2 + 1 < 60) <| ck (v2 < 60) <| wr (mg_up g7 59 0 v2 (g7 59 0 (v2 + 1))) fun g10 => ck (v2 + 1 < 60) <| ck (v2 < 60) <| wr (mg_up g10 60 0 v2 (g10 60 0 (v2 + 1))) fun g13 => L_X5_dropCopy_12 a1 k n (v2 + 1) g13) else (k v2 g)
theorem l_X5_dropCopy_12 {K : mg_Kt} {Z : mg_Zt} (hb : Z.2.2.1 = true) {a1 : Nat}  {k : Nat → mg_F → mo} (hk : ∀ (v2 : Nat) (g : mg_F), mj K Z mX5_dropCopy (k v2 g) 82 [rv Z 5 0, iv a1, iv v2] [] g) : ∀ (n : Nat) (v2 : Nat) (g : mg_F), mj K Z mX5_dropCopy (L_X5_dropCopy_12 a1 k n v2 g) 12 [rv Z 5 0, iv a1, iv v2] [] g := by
  intro n
  induction n with
  | zero => intro _ _; exact j_none
  | succ n ih =>
    intro v2 g
    unfold L_X5_dropCopy_12
    refine j_lift (fun _ k => g_iload_n (pc := 12) dX5_dropCopy_12 rfl k) ?_
    refine j_lift (fun _ k => g_aload_n (pc := 13) dX5_dropCopy_13 rfl k) ?_
    refine j_lift (fun _ k => fg_X5_dropCopy_136 (pc := 14) hb dX5_dropCopy_14 k) ?_
    refine j_icmp_ge (pc := 17) 82 dX5_dropCopy_17 (by decide) (fun h1 => ?_) (fun h1 => ?_)
    · exact hk v2 g
    · refine j_lift (fun _ k => g_aload_n (pc := 20) dX5_dropCopy_20 rfl k) ?_
      refine j_lift (fun _ k => fg_X5_dropCopy_68 (pc := 21) hb dX5_dropCopy_21 k) ?_
      refine j_lift (fun _ k => g_iload_n (pc := 24) dX5_dropCopy_24 rfl k) ?_
      refine j_lift (fun _ k => g_aload_n (pc := 25) dX5_dropCopy_25 rfl k) ?_
      refine j_lift (fun _ k => fg_X5_dropCopy_68 (pc := 26) hb dX5_dropCopy_26 k) ?_
      refine j_lift (fun _ k => g_iload_n (pc := 29) dX5_dropCopy_29 rfl k) ?_
      refine j_lift (fun _ k => g_iconst (pc := 30) (v := 1) dX5_dropCopy_30 (by decide +kernel) k) ?_
      refine j_lift (fun _ k => g_iadd (pc := 31) (a := v2) (b := 1) dX5_dropCopy_31 k) ?_
      refine j_ck (fun c2 => ?_)
      refine j_lift (fun _ k => g_iaload (pc := 32) (k := 57) (i := 0) (n := 60) (by rw [hb]; decide) rfl (by decide) c2 dX5_dropCopy_32 k) ?_
      refine j_ck (fun c3 => ?_)
      refine j_w (fun _ k => g_iastore (pc := 33) (k := 57) (i := 0) (n := 60) (by rw [hb]; decide) (fun _ => rfl) (by decide) c3 dX5_dropCopy_33 k) (fun g4 => ?_)
      refine j_lift (fun _ k => g_aload_n (pc := 34) dX5_dropCopy_34 rfl k) ?_
      refine j_lift (fun _ k => fg_X5_dropCopy_71 (pc := 35) hb dX5_dropCopy_35 k) ?_
      refine j_lift (fun _ k => g_iload_n (pc := 38) dX5_dropCopy_38 rfl k) ?_
      refine j_lift (fun _ k => g_aload_n (pc := 39) dX5_dropCopy_39 rfl k) ?_
      refine j_lift (fun _ k => fg_X5_dropCopy_71 (pc := 40) hb dX5_dropCopy_40 k) ?_
      refine j_lift (fun _ k => g_iload_n (pc := 43) dX5_dropCopy_43 rfl k) ?_
      refine j_lift (fun _ k => g_iconst (pc := 44) (v := 1) dX5_dropCopy_44 (by decide +kernel) k) ?_
      refine j_lift (fun _ k => g_iadd (pc := 45) (a := v2) (b := 1) dX5_dropCopy_45 k) ?_
      refine j_ck (fun c5 => ?_)
      refine j_lift (fun _ k => g_iaload (pc := 46) (k := 58) (i := 0) (n := 60) (by rw [hb]; decide) rfl (by decide) c5 dX5_dropCopy_46 k) ?_
      refine j_ck (fun c6 => ?_)
      refine j_w (fun _ k => g_iastore (pc := 47) (k := 58) (i := 0) (n := 60) (by rw [hb]; decide) (fun _ => rfl) (by decide) c6 dX5_dropCopy_47 k) (fun g7 => ?_)
      refine j_lift (fun _ k => g_aload_n (pc := 48) dX5_dropCopy_48 rfl k) ?_
      refine j_lift (fun _ k => fg_X5_dropCopy_74 (pc := 49) hb dX5_dropCopy_49 k) ?_
      refine j_lift (fun _ k => g_iload_n (pc := 52) dX5_dropCopy_52 rfl k) ?_
      refine j_lift (fun _ k => g_aload_n (pc := 53) dX5_dropCopy_53 rfl k) ?_
      refine j_lift (fun _ k => fg_X5_dropCopy_74 (pc := 54) hb dX5_dropCopy_54 k) ?_
      refine j_lift (fun _ k => g_iload_n (pc := 57) dX5_dropCopy_57 rfl k) ?_
      refine j_lift (fun _ k => g_iconst (pc := 58) (v := 1) dX5_dropCopy_58 (by decide +kernel) k) ?_
      refine j_lift (fun _ k => g_iadd (pc := 59) (a := v2) (b := 1) dX5_dropCopy_59 k) ?_
      refine j_ck (fun c8 => ?_)
      refine j_lift (fun _ k => g_iaload (pc := 60) (k := 59) (i := 0) (n := 60) (by rw [hb]; decide) rfl (by decide) c8 dX5_dropCopy_60 k) ?_
      refine j_ck (fun c9 => ?_)
      refine j_w (fun _ k => g_iastore (pc := 61) (k := 59) (i := 0) (n := 60) (by rw [hb]; decide) (fun _ => rfl) (by decide) c9 dX5_dropCopy_61 k) (fun g10 => ?_)
      refine j_lift (fun _ k => g_aload_n (pc := 62) dX5_dropCopy_62 rfl k) ?_
      refine j_lift (fun _ k => fg_X5_dropCopy_77 (pc := 63) hb dX5_dropCopy_63 k) ?_
      refine j_lift (fun _ k => g_iload_n (pc := 66) dX5_dropCopy_66 rfl k) ?_
      refine j_lift (fun _ k => g_aload_n (pc := 67) dX5_dropCopy_67 rfl k) ?_
      refine j_lift (fun _ k => fg_X5_dropCopy_77 (pc := 68) hb dX5_dropCopy_68 k) ?_
      refine j_lift (fun _ k => g_iload_n (pc := 71) dX5_dropCopy_71 rfl k) ?_
      refine j_lift (fun _ k => g_iconst (pc := 72) (v := 1) dX5_dropCopy_72 (by decide +kernel) k) ?_
      refine j_lift (fun _ k => g_iadd (pc := 73) (a := v2) (b := 1) dX5_dropCopy_73 k) ?_
      refine j_ck (fun c11 => ?_)
      refine j_lift (fun _ k => g_iaload (pc := 74) (k := 60) (i := 0) (n := 60) (by rw [hb]; decide) rfl (by decide) c11 dX5_dropCopy_74 k) ?_
      refine j_ck (fun c12 => ?_)
      refine j_w (fun _ k => g_iastore (pc := 75) (k := 60) (i := 0) (n := 60) (by rw [hb]; decide) (fun _ => rfl) (by decide) c12 dX5_dropCopy_75 k) (fun g13 => ?_)
      refine j_lift (fun _ k => g_iinc (pc := 76) (v := v2 + 1) (ls' := [rv Z 5 0, iv a1, iv (v2 + 1)]) dX5_dropCopy_76 (Nat.le_of_ble_eq_true rfl) rfl (mg_inc _) rfl k) ?_
      refine j_lift (fun _ k => g_goto (pc := 79) 12 dX5_dropCopy_79 (by decide) k) ?_
      exact ih (v2 + 1) g13
def P_X5_dropCopy (a : Nat) (g : mg_F) : mo := wr (mg_up g 5 0 26 (sb (g 5 0 26) 1)) fun g1 => L_X5_dropCopy_12 a (fun w14 g15 => some (0, g15)) 4000 a g1
theorem p_X5_dropCopy {l : Launch} {Z : mg_Zt} {a : Nat} {g : mg_F} (hb : Z.2.2.1 = true) : ∀ (r : Nat) (g' : mg_F), P_X5_dropCopy a g = some (r, g') → mg_C l Z mX5_dropCopy [rv Z 5 0, iv a] g (mp mX5_dropCopy r g') := by
  refine mC_of (by decide) rfl (Nat.le_of_ble_eq_true rfl) (List.forall_mem_cons.mpr ⟨rfl, (List.forall_mem_cons.mpr ⟨rfl, (fun _ h => nomatch h)⟩)⟩) (fun K => ?_)
  unfold P_X5_dropCopy
  refine j_lift (fun _ k => g_aload_n (pc := 0) dX5_dropCopy_0 rfl k) ?_
  refine j_lift (fun _ k => g_dup (pc := 1) dX5_dropCopy_1 rfl k) ?_
  refine j_lift (fun _ k => fg_X5_dropCopy_136 (pc := 2) hb dX5_dropCopy_2 k) ?_
  refine j_lift (fun _ k => g_iconst (pc := 5) (v := 1) dX5_dropCopy_5 (by decide +kernel) k) ?_
  refine j_lift (fun _ k => g_sb (pc := 6) (a := g 5 0 26) (b := 1) dX5_dropCopy_6 k) ?_
  refine j_w (fun _ k => fp_X5_dropCopy_136 (pc := 7) hb dX5_dropCopy_7 k) (fun g1 => ?_)
  refine j_lift (fun _ k => g_iload_n (pc := 10) dX5_dropCopy_10 rfl k) ?_
  refine j_lift (fun _ k => g_istore_n (pc := 11) (ls' := [rv Z 5 0, iv a, iv a]) dX5_dropCopy_11 (Nat.le_of_ble_eq_true rfl) (Nat.le_of_ble_eq_true rfl) rfl k) ?_
  refine l_X5_dropCopy_12 hb  (fun w14 g15 => ?_) 4000 a g1
  exact j_ret (pc := 82) dX5_dropCopy_82 trivial rfl

