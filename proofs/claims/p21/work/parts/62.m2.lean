/-! ===== the programs of the methods, 2 ===== -/
/-- X4_isCopy -/
def P_X4_isCopy (a : Nat) (g : mg_F) : mo := if sv (g 4 0 6) = 0 then (some (0, g)) else (if sv a < 0 then (some (0, g)) else (if sv a < sv (g 1 1 5) then (some (1, g)) else (some (0, g))))
theorem p_X4_isCopy {l : Launch} {Z : mg_Zt} {a : Nat} {g : mg_F} : ∀ (r : Nat) (g' : mg_F), P_X4_isCopy a g = some (r, g') → mg_C l Z mX4_isCopy [rv Z 4 0, iv a] g (mp mX4_isCopy r g') := by
  refine mC_of (by decide) rfl (Nat.le_of_ble_eq_true rfl) (List.forall_mem_cons.mpr ⟨rfl, (List.forall_mem_cons.mpr ⟨rfl, (fun _ h => nomatch h)⟩)⟩) (fun K => ?_)
  unfold P_X4_isCopy
  refine j_lift (fun _ k => g_aload_n (pc := 0) dX4_isCopy_0 rfl k) ?_
  refine j_lift (fun _ k => fg_X4_isCopy_55 (pc := 1) dX4_isCopy_1 k) ?_
  refine j_if_eq (pc := 4) 26 dX4_isCopy_4 (by decide) (fun h1 => ?_) (fun h1 => ?_)
  · refine j_lift (fun _ k => g_iconst (pc := 26) (v := 0) dX4_isCopy_26 (by decide +kernel) k) ?_
    exact j_iret (pc := 27) dX4_isCopy_27 ⟨mg_narZ (by decide), Or.inr rfl⟩ rfl
  · refine j_lift (fun _ k => g_iload_n (pc := 7) dX4_isCopy_7 rfl k) ?_
    refine j_if_lt (pc := 8) 26 dX4_isCopy_8 (by decide) (fun h2 => ?_) (fun h2 => ?_)
    · refine j_lift (fun _ k => g_iconst (pc := 26) (v := 0) dX4_isCopy_26 (by decide +kernel) k) ?_
      exact j_iret (pc := 27) dX4_isCopy_27 ⟨mg_narZ (by decide), Or.inr rfl⟩ rfl
    · refine j_lift (fun _ k => g_iload_n (pc := 11) dX4_isCopy_11 rfl k) ?_
      refine j_lift (fun _ k => g_aload_n (pc := 12) dX4_isCopy_12 rfl k) ?_
      refine j_lift (fun _ k => fg_X4_isCopy_31 (pc := 13) dX4_isCopy_13 k) ?_
      refine j_lift (fun _ k => fg_X4_isCopy_94 (pc := 16) (show 1 < 2 by omega) dX4_isCopy_16 k) ?_
      refine j_icmp_ge (pc := 19) 26 dX4_isCopy_19 (by decide) (fun h3 => ?_) (fun h3 => ?_)
      · refine j_lift (fun _ k => g_iconst (pc := 26) (v := 0) dX4_isCopy_26 (by decide +kernel) k) ?_
        exact j_iret (pc := 27) dX4_isCopy_27 ⟨mg_narZ (by decide), Or.inr rfl⟩ rfl
      · refine j_lift (fun _ k => g_iconst (pc := 22) (v := 1) dX4_isCopy_22 (by decide +kernel) k) ?_
        refine j_lift (fun _ k => g_goto (pc := 23) 27 dX4_isCopy_23 (by decide) k) ?_
        exact j_iret (pc := 27) dX4_isCopy_27 ⟨mg_narZ (by decide), Or.inr rfl⟩ rfl

/-- X4_takeOut -/
def P_X4_takeOut (a b c : Nat) (g : mg_F) : mo := bd (P_X1_firstBetween 0 a b g) fun r1 g2 => if sv r1 = sv 4294967294 then (some (0, g2)) else (ck (r1 < mg_cap 0) <| if sv (g2 14 0 r1) = sv c then (bd (P_X1_remove 0 r1 g2) fun _ g7 => bd (P_X4_copyFirst a b g7) fun _ g9 => some (1, g9)) else (some (0, g2)))
theorem p_X4_takeOut {l : Launch} {Z : mg_Zt} {a b c : Nat} {g : mg_F} : ∀ (r : Nat) (g' : mg_F), P_X4_takeOut a b c g = some (r, g') → mg_C l Z mX4_takeOut [rv Z 4 0, iv a, iv b, iv c] g (mp mX4_takeOut r g') := by
  refine mC_of (by decide) rfl (Nat.le_of_ble_eq_true rfl) (List.forall_mem_cons.mpr ⟨rfl, (List.forall_mem_cons.mpr ⟨rfl, (List.forall_mem_cons.mpr ⟨rfl, (List.forall_mem_cons.mpr ⟨rfl, (fun _ h => nomatch h)⟩)⟩)⟩)⟩) (fun K => ?_)
  unfold P_X4_takeOut
  refine j_lift (fun _ k => g_aload_n (pc := 0) dX4_takeOut_0 rfl k) ?_
  refine j_lift (fun _ k => fg_X4_takeOut_27 (pc := 1) dX4_takeOut_1 k) ?_
  refine j_lift (fun _ k => g_iload_n (pc := 4) dX4_takeOut_4 rfl k) ?_
  refine j_lift (fun _ k => g_iload_n (pc := 5) dX4_takeOut_5 rfl k) ?_
  refine j_callVi (pc := 6) (Y' := mX1_firstBetween) (As := [iv a, iv b]) (st := []) (k := 1) (i := 0) (p_X1_firstBetween (show 0 < 2 by omega)) gX4_takeOut_X1_firstBetween rfl (show 0 < 2 by omega) rfl rfl (na := 2) rfl (by decide +kernel) (by decide) (by decide) (Nat.le_of_ble_eq_true rfl) dX4_takeOut_6 (fun r1 g2 => ?_)
  refine j_lift (fun _ k => g_istore (pc := 9) (ls' := [rv Z 4 0, iv a, iv b, iv c, iv r1]) dX4_takeOut_9 (Nat.le_of_ble_eq_true rfl) (Nat.le_of_ble_eq_true rfl) rfl k) ?_
  refine j_lift (fun _ k => g_iload (pc := 11) dX4_takeOut_11 rfl k) ?_
  refine j_lift (fun _ k => g_bipush (pc := 13) (v := 4294967294) dX4_takeOut_13 (by decide +kernel) k) ?_
  refine j_icmp_eq (pc := 15) 32 dX4_takeOut_15 (by decide) (fun h3 => ?_) (fun h3 => ?_)
  · refine j_lift (fun _ k => g_iconst (pc := 32) (v := 0) dX4_takeOut_32 (by decide +kernel) k) ?_
    exact j_iret (pc := 33) dX4_takeOut_33 ⟨mg_narZ (by decide), Or.inr rfl⟩ rfl
  · refine j_lift (fun _ k => g_aload_n (pc := 18) dX4_takeOut_18 rfl k) ?_
    refine j_lift (fun _ k => fg_X4_takeOut_27 (pc := 19) dX4_takeOut_19 k) ?_
    refine j_lift (fun _ k => fg_X4_takeOut_202 (pc := 22) (show 0 < 2 by omega) dX4_takeOut_22 k) ?_
    refine j_lift (fun _ k => g_iload (pc := 25) dX4_takeOut_25 rfl k) ?_
    refine j_ck (fun c4 => ?_)
    refine j_lift (fun _ k => g_iaload (pc := 27) (k := 14) (i := 0) (n := mg_cap 0) (show 0 < 2 by omega) rfl (mg_cap_lt _) c4 dX4_takeOut_27 k) ?_
    refine j_lift (fun _ k => g_iload_n (pc := 28) dX4_takeOut_28 rfl k) ?_
    refine j_icmp_eq (pc := 29) 34 dX4_takeOut_29 (by decide) (fun h5 => ?_) (fun h5 => ?_)
    · refine j_lift (fun _ k => g_aload_n (pc := 34) dX4_takeOut_34 rfl k) ?_
      refine j_lift (fun _ k => fg_X4_takeOut_27 (pc := 35) dX4_takeOut_35 k) ?_
      refine j_lift (fun _ k => g_iload (pc := 38) dX4_takeOut_38 rfl k) ?_
      refine j_callVv (pc := 40) (Y' := mX1_remove) (As := [iv r1]) (st := []) (k := 1) (i := 0) (p_X1_remove (show 0 < 2 by omega)) gX4_takeOut_X1_remove rfl (show 0 < 2 by omega) rfl rfl (na := 1) rfl (by decide +kernel) (by decide) (by decide) (Nat.le_of_ble_eq_true rfl) dX4_takeOut_40 (fun _ g7 => ?_)
      refine j_lift (fun _ k => g_aload_n (pc := 43) dX4_takeOut_43 rfl k) ?_
      refine j_lift (fun _ k => g_iload_n (pc := 44) dX4_takeOut_44 rfl k) ?_
      refine j_lift (fun _ k => g_iload_n (pc := 45) dX4_takeOut_45 rfl k) ?_
      refine j_callVv (pc := 46) (Y' := mX4_copyFirst) (As := [iv a, iv b]) (st := []) (k := 4) (i := 0) (p_X4_copyFirst) gX4_takeOut_X4_copyFirst rfl (show 0 < 1 by omega) rfl rfl (na := 2) rfl (by decide +kernel) (by decide) (by decide) (Nat.le_of_ble_eq_true rfl) dX4_takeOut_46 (fun _ g9 => ?_)
      refine j_lift (fun _ k => g_iconst (pc := 49) (v := 1) dX4_takeOut_49 (by decide +kernel) k) ?_
      exact j_iret (pc := 50) dX4_takeOut_50 ⟨mg_narZ (by decide), Or.inr rfl⟩ rfl
    · refine j_lift (fun _ k => g_iconst (pc := 32) (v := 0) dX4_takeOut_32 (by decide +kernel) k) ?_
      exact j_iret (pc := 33) dX4_takeOut_33 ⟨mg_narZ (by decide), Or.inr rfl⟩ rfl

/-- X4_read -/
def P_X4_read (a b c d : Nat) (g : mg_F) : mo := if sv a = 0 then (ck (c < 24) <| bd (P_X2_admit c b d g) fun _ g7 => some (0, g7)) else (ck (c < 24) <| wr (mg_up g 3 c 2 c) fun g3 => wr (mg_up g3 3 c 3 0) fun g4 => some (0, g4))
theorem p_X4_read {l : Launch} {Z : mg_Zt} {a b c d : Nat} {g : mg_F} : ∀ (r : Nat) (g' : mg_F), P_X4_read a b c d g = some (r, g') → mg_C l Z mX4_read [rv Z 4 0, iv a, iv b, iv c, iv d] g (mp mX4_read r g') := by
  refine mC_of (by decide) rfl (Nat.le_of_ble_eq_true rfl) (List.forall_mem_cons.mpr ⟨rfl, (List.forall_mem_cons.mpr ⟨rfl, (List.forall_mem_cons.mpr ⟨rfl, (List.forall_mem_cons.mpr ⟨rfl, (List.forall_mem_cons.mpr ⟨rfl, (fun _ h => nomatch h)⟩)⟩)⟩)⟩)⟩) (fun K => ?_)
  unfold P_X4_read
  refine j_lift (fun _ k => g_iload_n (pc := 0) dX4_read_0 rfl k) ?_
  refine j_if_ne (pc := 1) 22 dX4_read_1 (by decide) (fun h1 => ?_) (fun h1 => ?_)
  · refine j_lift (fun _ k => g_aload_n (pc := 22) dX4_read_22 rfl k) ?_
    refine j_lift (fun _ k => fg_X4_read_18 (pc := 23) dX4_read_23 k) ?_
    refine j_lift (fun _ k => g_iload_n (pc := 26) dX4_read_26 rfl k) ?_
    refine j_ck (fun c2 => ?_)
    refine j_lift (fun _ k => g_aastation (pc := 27) (a := c) c2 dX4_read_27 k) ?_
    refine j_lift (fun _ k => g_iload_n (pc := 28) dX4_read_28 rfl k) ?_
    refine j_w (fun _ k => fp_X4_read_258 (pc := 29) c2 dX4_read_29 k) (fun g3 => ?_)
    refine j_lift (fun _ k => g_aload_n (pc := 32) dX4_read_32 rfl k) ?_
    refine j_lift (fun _ k => fg_X4_read_18 (pc := 33) dX4_read_33 k) ?_
    refine j_lift (fun _ k => g_iload_n (pc := 36) dX4_read_36 rfl k) ?_
    refine j_lift (fun _ k => g_aastation (pc := 37) (a := c) c2 dX4_read_37 k) ?_
    refine j_lift (fun _ k => g_iconst (pc := 38) (v := 0) dX4_read_38 (by decide +kernel) k) ?_
    refine j_w (fun _ k => fp_X4_read_178 (pc := 39) c2 (by decide) dX4_read_39 k) (fun g4 => ?_)
    exact j_ret (pc := 42) dX4_read_42 trivial rfl
  · refine j_lift (fun _ k => g_aload_n (pc := 4) dX4_read_4 rfl k) ?_
    refine j_lift (fun _ k => fg_X4_read_18 (pc := 5) dX4_read_5 k) ?_
    refine j_lift (fun _ k => g_iload_n (pc := 8) dX4_read_8 rfl k) ?_
    refine j_ck (fun c5 => ?_)
    refine j_lift (fun _ k => g_aastation (pc := 9) (a := c) c5 dX4_read_9 k) ?_
    refine j_lift (fun _ k => fg_X4_read_118 (pc := 10) c5 dX4_read_10 k) ?_
    refine j_lift (fun _ k => g_iload_n (pc := 13) dX4_read_13 rfl k) ?_
    refine j_lift (fun _ k => g_iload (pc := 14) dX4_read_14 rfl k) ?_
    refine j_callVv (pc := 16) (Y' := mX2_admit) (As := [iv b, iv d]) (st := []) (k := 2) (i := c) (p_X2_admit c5) gX4_read_X2_admit rfl c5 rfl rfl (na := 2) rfl (by decide +kernel) (by decide) (by decide) (Nat.le_of_ble_eq_true rfl) dX4_read_16 (fun _ g7 => ?_)
    refine j_lift (fun _ k => g_goto (pc := 19) 42 dX4_read_19 (by decide) k) ?_
    exact j_ret (pc := 42) dX4_read_42 trivial rfl

/-- X4_deliver -/
def P_X4_deliver (a : Nat) (g : mg_F) : mo := bd (P_X4_isCopy a g) fun r1 g2 => if sv r1 = 0 then (some (4294967295, g2)) else (ck (a < mg_cap 1) <| ck (a < mg_cap 1) <| ck (a < mg_cap 1) <| ck (a < mg_cap 1) <| ck (a < mg_cap 1) <| bd (P_X1_remove 1 a g2) fun _ g10 => ck (g2 13 1 a < 24) <| if sv (g10 3 (g2 13 1 a) 6) = 0 then (if sv (g2 11 1 a) = sv 2 then (bd (P_X4_takeOut (g2 13 1 a) (g2 12 1 a) (g2 14 1 a) g10) fun r31 g32 => if sv r31 = 0 then (some (4, g32)) else (some (3, g32))) else (ck (g2 12 1 a < 24) <| jn (α := Nat) (fun x18 g19 => jn (α := Nat) (fun x23 g24 => bd (P_X1_add 1 2 (g2 13 1 a) (g2 12 1 a) (g2 14 1 a) 0 g24) fun _ g26 => if sv x18 = 0 then (some (2, g26)) else (some (1, g26))) fun kj21 => if sv x18 = 0 then (kj21 0 g19) else (wr (mg_up g19 22 (g2 12 1 a) (g2 13 1 a) ((g19 22 (g2 12 1 a) (g2 13 1 a)) + 1)) fun g28 => bd (P_X4_read (g2 11 1 a) (g2 12 1 a) (g2 13 1 a) (g2 15 1 a) g28) fun _ g30 => kj21 0 g30)) fun kj16 => if sv (g2 14 1 a) = sv (g10 22 (g2 12 1 a) (g2 13 1 a)) then (kj16 1 g10) else (kj16 0 g10))) else (some (0, g10)))
theorem p_X4_deliver {l : Launch} {Z : mg_Zt} {a : Nat} {g : mg_F} : ∀ (r : Nat) (g' : mg_F), P_X4_deliver a g = some (r, g') → mg_C l Z mX4_deliver [rv Z 4 0, iv a] g (mp mX4_deliver r g') := by
  refine mC_of (by decide) rfl (Nat.le_of_ble_eq_true rfl) (List.forall_mem_cons.mpr ⟨rfl, (List.forall_mem_cons.mpr ⟨rfl, (fun _ h => nomatch h)⟩)⟩) (fun K => ?_)
  unfold P_X4_deliver
  refine j_lift (fun _ k => g_aload_n (pc := 0) dX4_deliver_0 rfl k) ?_
  refine j_lift (fun _ k => g_iload_n (pc := 1) dX4_deliver_1 rfl k) ?_
  refine j_callVi (pc := 2) (Y' := mX4_isCopy) (As := [iv a]) (st := []) (k := 4) (i := 0) (p_X4_isCopy) gX4_deliver_X4_isCopy rfl (show 0 < 1 by omega) rfl rfl (na := 1) rfl (by decide +kernel) (by decide) (by decide) (Nat.le_of_ble_eq_true rfl) dX4_deliver_2 (fun r1 g2 => ?_)
  refine j_if_ne (pc := 5) 10 dX4_deliver_5 (by decide) (fun h3 => ?_) (fun h3 => ?_)
  · refine j_lift (fun _ k => g_aload_n (pc := 10) dX4_deliver_10 rfl k) ?_
    refine j_lift (fun _ k => fg_X4_deliver_31 (pc := 11) dX4_deliver_11 k) ?_
    refine j_lift (fun _ k => fg_X4_deliver_193 (pc := 14) (show 1 < 2 by omega) dX4_deliver_14 k) ?_
    refine j_lift (fun _ k => g_iload_n (pc := 17) dX4_deliver_17 rfl k) ?_
    refine j_ck (fun c4 => ?_)
    refine j_lift (fun _ k => g_iaload (pc := 18) (k := 11) (i := 1) (n := mg_cap 1) (show 1 < 2 by omega) rfl (mg_cap_lt _) c4 dX4_deliver_18 k) ?_
    refine j_lift (fun _ k => g_istore_n (pc := 19) (ls' := [rv Z 4 0, iv a, iv (g2 11 1 a)]) dX4_deliver_19 (Nat.le_of_ble_eq_true rfl) (Nat.le_of_ble_eq_true rfl) rfl k) ?_
    refine j_lift (fun _ k => g_aload_n (pc := 20) dX4_deliver_20 rfl k) ?_
    refine j_lift (fun _ k => fg_X4_deliver_31 (pc := 21) dX4_deliver_21 k) ?_
    refine j_lift (fun _ k => fg_X4_deliver_196 (pc := 24) (show 1 < 2 by omega) dX4_deliver_24 k) ?_
    refine j_lift (fun _ k => g_iload_n (pc := 27) dX4_deliver_27 rfl k) ?_
    refine j_ck (fun c5 => ?_)
    refine j_lift (fun _ k => g_iaload (pc := 28) (k := 12) (i := 1) (n := mg_cap 1) (show 1 < 2 by omega) rfl (mg_cap_lt _) c5 dX4_deliver_28 k) ?_
    refine j_lift (fun _ k => g_istore_n (pc := 29) (ls' := [rv Z 4 0, iv a, iv (g2 11 1 a), iv (g2 12 1 a)]) dX4_deliver_29 (Nat.le_of_ble_eq_true rfl) (Nat.le_of_ble_eq_true rfl) rfl k) ?_
    refine j_lift (fun _ k => g_aload_n (pc := 30) dX4_deliver_30 rfl k) ?_
    refine j_lift (fun _ k => fg_X4_deliver_31 (pc := 31) dX4_deliver_31 k) ?_
    refine j_lift (fun _ k => fg_X4_deliver_199 (pc := 34) (show 1 < 2 by omega) dX4_deliver_34 k) ?_
    refine j_lift (fun _ k => g_iload_n (pc := 37) dX4_deliver_37 rfl k) ?_
    refine j_ck (fun c6 => ?_)
    refine j_lift (fun _ k => g_iaload (pc := 38) (k := 13) (i := 1) (n := mg_cap 1) (show 1 < 2 by omega) rfl (mg_cap_lt _) c6 dX4_deliver_38 k) ?_
    refine j_lift (fun _ k => g_istore (pc := 39) (ls' := [rv Z 4 0, iv a, iv (g2 11 1 a), iv (g2 12 1 a), iv (g2 13 1 a)]) dX4_deliver_39 (Nat.le_of_ble_eq_true rfl) (Nat.le_of_ble_eq_true rfl) rfl k) ?_
    refine j_lift (fun _ k => g_aload_n (pc := 41) dX4_deliver_41 rfl k) ?_
    refine j_lift (fun _ k => fg_X4_deliver_31 (pc := 42) dX4_deliver_42 k) ?_
    refine j_lift (fun _ k => fg_X4_deliver_202 (pc := 45) (show 1 < 2 by omega) dX4_deliver_45 k) ?_
    refine j_lift (fun _ k => g_iload_n (pc := 48) dX4_deliver_48 rfl k) ?_
    refine j_ck (fun c7 => ?_)
    refine j_lift (fun _ k => g_iaload (pc := 49) (k := 14) (i := 1) (n := mg_cap 1) (show 1 < 2 by omega) rfl (mg_cap_lt _) c7 dX4_deliver_49 k) ?_
    refine j_lift (fun _ k => g_istore (pc := 50) (ls' := [rv Z 4 0, iv a, iv (g2 11 1 a), iv (g2 12 1 a), iv (g2 13 1 a), iv (g2 14 1 a)]) dX4_deliver_50 (Nat.le_of_ble_eq_true rfl) (Nat.le_of_ble_eq_true rfl) rfl k) ?_
    refine j_lift (fun _ k => g_aload_n (pc := 52) dX4_deliver_52 rfl k) ?_
    refine j_lift (fun _ k => fg_X4_deliver_31 (pc := 53) dX4_deliver_53 k) ?_
    refine j_lift (fun _ k => fg_X4_deliver_205 (pc := 56) (show 1 < 2 by omega) dX4_deliver_56 k) ?_
    refine j_lift (fun _ k => g_iload_n (pc := 59) dX4_deliver_59 rfl k) ?_
    refine j_ck (fun c8 => ?_)
    refine j_lift (fun _ k => g_iaload (pc := 60) (k := 15) (i := 1) (n := mg_cap 1) (show 1 < 2 by omega) rfl (mg_cap_lt _) c8 dX4_deliver_60 k) ?_
    refine j_lift (fun _ k => g_istore (pc := 61) (ls' := [rv Z 4 0, iv a, iv (g2 11 1 a), iv (g2 12 1 a), iv (g2 13 1 a), iv (g2 14 1 a), iv (g2 15 1 a)]) dX4_deliver_61 (Nat.le_of_ble_eq_true rfl) (Nat.le_of_ble_eq_true rfl) rfl k) ?_
    refine j_lift (fun _ k => g_aload_n (pc := 63) dX4_deliver_63 rfl k) ?_
    refine j_lift (fun _ k => fg_X4_deliver_31 (pc := 64) dX4_deliver_64 k) ?_
    refine j_lift (fun _ k => g_iload_n (pc := 67) dX4_deliver_67 rfl k) ?_
    refine j_callVv (pc := 68) (Y' := mX1_remove) (As := [iv a]) (st := []) (k := 1) (i := 1) (p_X1_remove (show 1 < 2 by omega)) gX4_deliver_X1_remove rfl (show 1 < 2 by omega) rfl rfl (na := 1) rfl (by decide +kernel) (by decide) (by decide) (Nat.le_of_ble_eq_true rfl) dX4_deliver_68 (fun _ g10 => ?_)
    refine j_lift (fun _ k => g_aload_n (pc := 71) dX4_deliver_71 rfl k) ?_
    refine j_lift (fun _ k => fg_X4_deliver_18 (pc := 72) dX4_deliver_72 k) ?_
    refine j_lift (fun _ k => g_iload (pc := 75) dX4_deliver_75 rfl k) ?_
    refine j_ck (fun c11 => ?_)
    refine j_lift (fun _ k => g_aastation (pc := 77) (a := g2 13 1 a) c11 dX4_deliver_77 k) ?_
    refine j_lift (fun _ k => fg_X4_deliver_211 (pc := 78) c11 dX4_deliver_78 k) ?_
    refine j_if_eq (pc := 81) 86 dX4_deliver_81 (by decide) (fun h12 => ?_) (fun h12 => ?_)
    · refine j_lift (fun _ k => g_iload_n (pc := 86) dX4_deliver_86 rfl k) ?_
      refine j_lift (fun _ k => g_iconst (pc := 87) (v := 2) dX4_deliver_87 (by decide +kernel) k) ?_
      refine j_icmp_ne (pc := 88) 109 dX4_deliver_88 (by decide) (fun h13 => ?_) (fun h13 => ?_)
      · refine j_lift (fun _ k => g_iload (pc := 109) dX4_deliver_109 rfl k) ?_
        refine j_lift (fun _ k => g_aload_n (pc := 111) dX4_deliver_111 rfl k) ?_
        refine j_lift (fun _ k => fg_X4_deliver_39 (pc := 112) dX4_deliver_112 k) ?_
        refine j_lift (fun _ k => g_iload_n (pc := 115) dX4_deliver_115 rfl k) ?_
        refine j_ck (fun c14 => ?_)
        refine j_lift (fun _ k => g_aarow (pc := 116) (k := 20) (r := 22) (a := g2 12 1 a) (show 0 < 1 by omega) rfl c14 dX4_deliver_116 k) ?_
        refine j_lift (fun _ k => g_iload (pc := 117) dX4_deliver_117 rfl k) ?_
        refine j_lift (fun _ k => g_iaload (pc := 119) (k := 22) (i := g2 12 1 a) (n := 24) c14 rfl (by decide) c11 dX4_deliver_119 k) ?_
        refine j_jn (α := Nat) 128 (fun x18 => [rv Z 4 0, iv a, iv (g2 11 1 a), iv (g2 12 1 a), iv (g2 13 1 a), iv (g2 14 1 a), iv (g2 15 1 a)]) (fun x18 => [iv x18]) (fun x18 g19 => ?_) (fun kj16 hk17 => ?_)
        · refine j_lift (fun _ k => g_istore (pc := 128) (ls' := [rv Z 4 0, iv a, iv (g2 11 1 a), iv (g2 12 1 a), iv (g2 13 1 a), iv (g2 14 1 a), iv (g2 15 1 a), iv x18]) dX4_deliver_128 (Nat.le_of_ble_eq_true rfl) (Nat.le_of_ble_eq_true rfl) rfl k) ?_
          refine j_lift (fun _ k => g_iload (pc := 130) dX4_deliver_130 rfl k) ?_
          refine j_jn (α := Nat) 158 (fun _ => [rv Z 4 0, iv a, iv (g2 11 1 a), iv (g2 12 1 a), iv (g2 13 1 a), iv (g2 14 1 a), iv (g2 15 1 a), iv x18]) (fun _ => []) (fun x23 g24 => ?_) (fun kj21 hk22 => ?_)
          · refine j_lift (fun _ k => g_aload_n (pc := 158) dX4_deliver_158 rfl k) ?_
            refine j_lift (fun _ k => fg_X4_deliver_31 (pc := 159) dX4_deliver_159 k) ?_
            refine j_lift (fun _ k => g_iconst (pc := 162) (v := 2) dX4_deliver_162 (by decide +kernel) k) ?_
            refine j_lift (fun _ k => g_iload (pc := 163) dX4_deliver_163 rfl k) ?_
            refine j_lift (fun _ k => g_iload_n (pc := 165) dX4_deliver_165 rfl k) ?_
            refine j_lift (fun _ k => g_iload (pc := 166) dX4_deliver_166 rfl k) ?_
            refine j_lift (fun _ k => g_iconst (pc := 168) (v := 0) dX4_deliver_168 (by decide +kernel) k) ?_
            refine j_callVv (pc := 169) (Y' := mX1_add) (As := [iv 2, iv (g2 13 1 a), iv (g2 12 1 a), iv (g2 14 1 a), iv 0]) (st := []) (k := 1) (i := 1) (p_X1_add (show 1 < 2 by omega)) gX4_deliver_X1_add rfl (show 1 < 2 by omega) rfl rfl (na := 5) rfl (by decide +kernel) (by decide) (by decide) (Nat.le_of_ble_eq_true rfl) dX4_deliver_169 (fun _ g26 => ?_)
            refine j_lift (fun _ k => g_iload (pc := 172) dX4_deliver_172 rfl k) ?_
            refine j_if_eq (pc := 174) 181 dX4_deliver_174 (by decide) (fun h27 => ?_) (fun h27 => ?_)
            · refine j_lift (fun _ k => g_iconst (pc := 181) (v := 2) dX4_deliver_181 (by decide +kernel) k) ?_
              exact j_iret (pc := 182) dX4_deliver_182 ⟨mg_narI _, Or.inl rfl⟩ rfl
            · refine j_lift (fun _ k => g_iconst (pc := 177) (v := 1) dX4_deliver_177 (by decide +kernel) k) ?_
              refine j_lift (fun _ k => g_goto (pc := 178) 182 dX4_deliver_178 (by decide) k) ?_
              exact j_iret (pc := 182) dX4_deliver_182 ⟨mg_narI _, Or.inl rfl⟩ rfl
          · refine j_if_eq (pc := 132) 158 dX4_deliver_132 (by decide) (fun h20 => ?_) (fun h20 => ?_)
            · exact hk22 0 g19
            · refine j_lift (fun _ k => g_aload_n (pc := 135) dX4_deliver_135 rfl k) ?_
              refine j_lift (fun _ k => fg_X4_deliver_39 (pc := 136) dX4_deliver_136 k) ?_
              refine j_lift (fun _ k => g_iload_n (pc := 139) dX4_deliver_139 rfl k) ?_
              refine j_lift (fun _ k => g_aarow (pc := 140) (k := 20) (r := 22) (a := g2 12 1 a) (show 0 < 1 by omega) rfl c14 dX4_deliver_140 k) ?_
              refine j_lift (fun _ k => g_iload (pc := 141) dX4_deliver_141 rfl k) ?_
              refine j_lift (fun _ k => g_dup2 (pc := 143) dX4_deliver_143 rfl rfl k) ?_
              refine j_lift (fun _ k => g_iaload (pc := 144) (k := 22) (i := g2 12 1 a) (n := 24) c14 rfl (by decide) c11 dX4_deliver_144 k) ?_
              refine j_lift (fun _ k => g_iconst (pc := 145) (v := 1) dX4_deliver_145 (by decide +kernel) k) ?_
              refine j_lift (fun _ k => g_iadd (pc := 146) (a := g19 22 (g2 12 1 a) (g2 13 1 a)) (b := 1) dX4_deliver_146 k) ?_
              refine j_w (fun _ k => g_iastore (pc := 147) (k := 22) (i := g2 12 1 a) (n := 24) c14 (fun _ => rfl) (by decide) c11 dX4_deliver_147 k) (fun g28 => ?_)
              refine j_lift (fun _ k => g_aload_n (pc := 148) dX4_deliver_148 rfl k) ?_
              refine j_lift (fun _ k => g_iload_n (pc := 149) dX4_deliver_149 rfl k) ?_
              refine j_lift (fun _ k => g_iload_n (pc := 150) dX4_deliver_150 rfl k) ?_
              refine j_lift (fun _ k => g_iload (pc := 151) dX4_deliver_151 rfl k) ?_
              refine j_lift (fun _ k => g_iload (pc := 153) dX4_deliver_153 rfl k) ?_
              refine j_callVv (pc := 155) (Y' := mX4_read) (As := [iv (g2 11 1 a), iv (g2 12 1 a), iv (g2 13 1 a), iv (g2 15 1 a)]) (st := []) (k := 4) (i := 0) (p_X4_read) gX4_deliver_X4_read rfl (show 0 < 1 by omega) rfl rfl (na := 4) rfl (by decide +kernel) (by decide) (by decide) (Nat.le_of_ble_eq_true rfl) dX4_deliver_155 (fun _ g30 => ?_)
              exact hk22 0 g30
        · refine j_icmp_ne (pc := 120) 127 dX4_deliver_120 (by decide) (fun h15 => ?_) (fun h15 => ?_)
          · refine j_lift (fun _ k => g_iconst (pc := 127) (v := 0) dX4_deliver_127 (by decide +kernel) k) ?_
            exact hk17 0 g10
          · refine j_lift (fun _ k => g_iconst (pc := 123) (v := 1) dX4_deliver_123 (by decide +kernel) k) ?_
            refine j_lift (fun _ k => g_goto (pc := 124) 128 dX4_deliver_124 (by decide) k) ?_
            exact hk17 1 g10
      · refine j_lift (fun _ k => g_aload_n (pc := 91) dX4_deliver_91 rfl k) ?_
        refine j_lift (fun _ k => g_iload (pc := 92) dX4_deliver_92 rfl k) ?_
        refine j_lift (fun _ k => g_iload_n (pc := 94) dX4_deliver_94 rfl k) ?_
        refine j_lift (fun _ k => g_iload (pc := 95) dX4_deliver_95 rfl k) ?_
        refine j_callVi (pc := 97) (Y' := mX4_takeOut) (As := [iv (g2 13 1 a), iv (g2 12 1 a), iv (g2 14 1 a)]) (st := []) (k := 4) (i := 0) (p_X4_takeOut) gX4_deliver_X4_takeOut rfl (show 0 < 1 by omega) rfl rfl (na := 3) rfl (by decide +kernel) (by decide) (by decide) (Nat.le_of_ble_eq_true rfl) dX4_deliver_97 (fun r31 g32 => ?_)
        refine j_if_eq (pc := 100) 107 dX4_deliver_100 (by decide) (fun h33 => ?_) (fun h33 => ?_)
        · refine j_lift (fun _ k => g_iconst (pc := 107) (v := 4) dX4_deliver_107 (by decide +kernel) k) ?_
          exact j_iret (pc := 108) dX4_deliver_108 ⟨mg_narI _, Or.inl rfl⟩ rfl
        · refine j_lift (fun _ k => g_iconst (pc := 103) (v := 3) dX4_deliver_103 (by decide +kernel) k) ?_
          refine j_lift (fun _ k => g_goto (pc := 104) 108 dX4_deliver_104 (by decide) k) ?_
          exact j_iret (pc := 108) dX4_deliver_108 ⟨mg_narI _, Or.inl rfl⟩ rfl
    · refine j_lift (fun _ k => g_iconst (pc := 84) (v := 0) dX4_deliver_84 (by decide +kernel) k) ?_
      exact j_iret (pc := 85) dX4_deliver_85 ⟨mg_narI _, Or.inl rfl⟩ rfl
  · refine j_lift (fun _ k => g_iconst (pc := 8) (v := 4294967295) dX4_deliver_8 (by decide +kernel) k) ?_
    exact j_iret (pc := 9) dX4_deliver_9 ⟨mg_narI _, Or.inl rfl⟩ rfl

/-- X4_lose -/
def P_X4_lose (a : Nat) (g : mg_F) : mo := bd (P_X4_isCopy a g) fun r1 g2 => if sv r1 = 0 then (some (4294967295, g2)) else (bd (P_X1_remove 1 a g2) fun _ g5 => some (g5 1 1 5, g5))
theorem p_X4_lose {l : Launch} {Z : mg_Zt} {a : Nat} {g : mg_F} : ∀ (r : Nat) (g' : mg_F), P_X4_lose a g = some (r, g') → mg_C l Z mX4_lose [rv Z 4 0, iv a] g (mp mX4_lose r g') := by
  refine mC_of (by decide) rfl (Nat.le_of_ble_eq_true rfl) (List.forall_mem_cons.mpr ⟨rfl, (List.forall_mem_cons.mpr ⟨rfl, (fun _ h => nomatch h)⟩)⟩) (fun K => ?_)
  unfold P_X4_lose
  refine j_lift (fun _ k => g_aload_n (pc := 0) dX4_lose_0 rfl k) ?_
  refine j_lift (fun _ k => g_iload_n (pc := 1) dX4_lose_1 rfl k) ?_
  refine j_callVi (pc := 2) (Y' := mX4_isCopy) (As := [iv a]) (st := []) (k := 4) (i := 0) (p_X4_isCopy) gX4_lose_X4_isCopy rfl (show 0 < 1 by omega) rfl rfl (na := 1) rfl (by decide +kernel) (by decide) (by decide) (Nat.le_of_ble_eq_true rfl) dX4_lose_2 (fun r1 g2 => ?_)
  refine j_if_ne (pc := 5) 10 dX4_lose_5 (by decide) (fun h3 => ?_) (fun h3 => ?_)
  · refine j_lift (fun _ k => g_aload_n (pc := 10) dX4_lose_10 rfl k) ?_
    refine j_lift (fun _ k => fg_X4_lose_31 (pc := 11) dX4_lose_11 k) ?_
    refine j_lift (fun _ k => g_iload_n (pc := 14) dX4_lose_14 rfl k) ?_
    refine j_callVv (pc := 15) (Y' := mX1_remove) (As := [iv a]) (st := []) (k := 1) (i := 1) (p_X1_remove (show 1 < 2 by omega)) gX4_lose_X1_remove rfl (show 1 < 2 by omega) rfl rfl (na := 1) rfl (by decide +kernel) (by decide) (by decide) (Nat.le_of_ble_eq_true rfl) dX4_lose_15 (fun _ g5 => ?_)
    refine j_lift (fun _ k => g_aload_n (pc := 18) dX4_lose_18 rfl k) ?_
    refine j_lift (fun _ k => fg_X4_lose_31 (pc := 19) dX4_lose_19 k) ?_
    refine j_lift (fun _ k => fg_X4_lose_94 (pc := 22) (show 1 < 2 by omega) dX4_lose_22 k) ?_
    exact j_iret (pc := 25) dX4_lose_25 ⟨mg_narI _, Or.inl rfl⟩ rfl
  · refine j_lift (fun _ k => g_iconst (pc := 8) (v := 4294967295) dX4_lose_8 (by decide +kernel) k) ?_
    exact j_iret (pc := 9) dX4_lose_9 ⟨mg_narI _, Or.inl rfl⟩ rfl

/-- X4_twin -/
def P_X4_twin (a : Nat) (g : mg_F) : mo := bd (P_X4_isCopy a g) fun r1 g2 => if sv r1 = 0 then (some (4294967295, g2)) else (if sv (g2 1 1 5) = sv 60 then (some (4294967295, g2)) else (bd (P_X1_addCopy 1 1 a g2) fun _ g6 => some (g6 1 1 5, g6)))
theorem p_X4_twin {l : Launch} {Z : mg_Zt} {a : Nat} {g : mg_F} : ∀ (r : Nat) (g' : mg_F), P_X4_twin a g = some (r, g') → mg_C l Z mX4_twin [rv Z 4 0, iv a] g (mp mX4_twin r g') := by
  refine mC_of (by decide) rfl (Nat.le_of_ble_eq_true rfl) (List.forall_mem_cons.mpr ⟨rfl, (List.forall_mem_cons.mpr ⟨rfl, (fun _ h => nomatch h)⟩)⟩) (fun K => ?_)
  unfold P_X4_twin
  refine j_lift (fun _ k => g_aload_n (pc := 0) dX4_twin_0 rfl k) ?_
  refine j_lift (fun _ k => g_iload_n (pc := 1) dX4_twin_1 rfl k) ?_
  refine j_callVi (pc := 2) (Y' := mX4_isCopy) (As := [iv a]) (st := []) (k := 4) (i := 0) (p_X4_isCopy) gX4_twin_X4_isCopy rfl (show 0 < 1 by omega) rfl rfl (na := 1) rfl (by decide +kernel) (by decide) (by decide) (Nat.le_of_ble_eq_true rfl) dX4_twin_2 (fun r1 g2 => ?_)
  refine j_if_eq (pc := 5) 20 dX4_twin_5 (by decide) (fun h3 => ?_) (fun h3 => ?_)
  · refine j_lift (fun _ k => g_iconst (pc := 20) (v := 4294967295) dX4_twin_20 (by decide +kernel) k) ?_
    exact j_iret (pc := 21) dX4_twin_21 ⟨mg_narI _, Or.inl rfl⟩ rfl
  · refine j_lift (fun _ k => g_aload_n (pc := 8) dX4_twin_8 rfl k) ?_
    refine j_lift (fun _ k => fg_X4_twin_31 (pc := 9) dX4_twin_9 k) ?_
    refine j_lift (fun _ k => fg_X4_twin_94 (pc := 12) (show 1 < 2 by omega) dX4_twin_12 k) ?_
    refine j_lift (fun _ k => g_bipush (pc := 15) (v := 60) dX4_twin_15 (by decide +kernel) k) ?_
    refine j_icmp_ne (pc := 17) 22 dX4_twin_17 (by decide) (fun h4 => ?_) (fun h4 => ?_)
    · refine j_lift (fun _ k => g_aload_n (pc := 22) dX4_twin_22 rfl k) ?_
      refine j_lift (fun _ k => fg_X4_twin_31 (pc := 23) dX4_twin_23 k) ?_
      refine j_lift (fun _ k => g_aload_n (pc := 26) dX4_twin_26 rfl k) ?_
      refine j_lift (fun _ k => fg_X4_twin_31 (pc := 27) dX4_twin_27 k) ?_
      refine j_lift (fun _ k => g_iload_n (pc := 30) dX4_twin_30 rfl k) ?_
      refine j_callVv (pc := 31) (Y' := mX1_addCopy) (As := [rv Z 1 1, iv a]) (st := []) (k := 1) (i := 1) (p_X1_addCopy (show 1 < 2 by omega) (show 1 < 2 by omega)) gX4_twin_X1_addCopy rfl (show 1 < 2 by omega) rfl rfl (na := 2) rfl (by decide +kernel) (by decide) (by decide) (Nat.le_of_ble_eq_true rfl) dX4_twin_31 (fun _ g6 => ?_)
      refine j_lift (fun _ k => g_aload_n (pc := 34) dX4_twin_34 rfl k) ?_
      refine j_lift (fun _ k => fg_X4_twin_31 (pc := 35) dX4_twin_35 k) ?_
      refine j_lift (fun _ k => fg_X4_twin_94 (pc := 38) (show 1 < 2 by omega) dX4_twin_38 k) ?_
      exact j_iret (pc := 41) dX4_twin_41 ⟨mg_narI _, Or.inl rfl⟩ rfl
    · refine j_lift (fun _ k => g_iconst (pc := 20) (v := 4294967295) dX4_twin_20 (by decide +kernel) k) ?_
      exact j_iret (pc := 21) dX4_twin_21 ⟨mg_narI _, Or.inl rfl⟩ rfl

/-- X4_resend -/
def L_X4_resend_12 (a1 : Nat) (k : Nat → mg_F → mo) : Nat → Nat → mg_F → mo
  | 0, _, _ => none
  | n + 1, v2, g => if sv v2 < sv (g 0 0 1) then (bd (P_X4_copyFirst a1 v2 g) fun _ g3 => L_X4_resend_12 a1 k n (v2 + 1) g3) else (k v2 g)
theorem l_X4_resend_12 {K : mg_Kt} {Z : mg_Zt} {a1 : Nat}  {k : Nat → mg_F → mo} (hk : ∀ (v2 : Nat) (g : mg_F), mj K Z mX4_resend (k v2 g) 35 [rv Z 4 0, iv a1, iv v2] [] g) : ∀ (n : Nat) (v2 : Nat) (g : mg_F), mj K Z mX4_resend (L_X4_resend_12 a1 k n v2 g) 12 [rv Z 4 0, iv a1, iv v2] [] g := by
  intro n
  induction n with
  | zero => intro _ _; exact j_none
  | succ n ih =>
    intro v2 g
    unfold L_X4_resend_12
    refine j_lift (fun _ k => g_iload_n (pc := 12) dX4_resend_12 rfl k) ?_
    refine j_lift (fun _ k => g_aload_n (pc := 13) dX4_resend_13 rfl k) ?_
    refine j_lift (fun _ k => fg_X4_resend_10 (pc := 14) dX4_resend_14 k) ?_
    refine j_lift (fun _ k => fg_X4_resend_229 (pc := 17) dX4_resend_17 k) ?_
    refine j_icmp_ge (pc := 20) 35 dX4_resend_20 (by decide) (fun h1 => ?_) (fun h1 => ?_)
    · exact hk v2 g
    · refine j_lift (fun _ k => g_aload_n (pc := 23) dX4_resend_23 rfl k) ?_
      refine j_lift (fun _ k => g_iload_n (pc := 24) dX4_resend_24 rfl k) ?_
      refine j_lift (fun _ k => g_iload_n (pc := 25) dX4_resend_25 rfl k) ?_
      refine j_callVv (pc := 26) (Y' := mX4_copyFirst) (As := [iv a1, iv v2]) (st := []) (k := 4) (i := 0) (p_X4_copyFirst) gX4_resend_X4_copyFirst rfl (show 0 < 1 by omega) rfl rfl (na := 2) rfl (by decide +kernel) (by decide) (by decide) (Nat.le_of_ble_eq_true rfl) dX4_resend_26 (fun _ g3 => ?_)
      refine j_lift (fun _ k => g_iinc (pc := 29) (v := v2 + 1) (ls' := [rv Z 4 0, iv a1, iv (v2 + 1)]) dX4_resend_29 (Nat.le_of_ble_eq_true rfl) rfl (mg_inc _) rfl k) ?_
      refine j_lift (fun _ k => g_goto (pc := 32) 12 dX4_resend_32 (by decide) k) ?_
      exact ih (v2 + 1) g3
def P_X4_resend (a : Nat) (g : mg_F) : mo := bd (P_X4_isUp a g) fun r1 g2 => if sv r1 = 0 then (some (4294967295, g2)) else (L_X4_resend_12 a (fun w4 g5 => some (g5 1 1 5, g5)) 4000 0 g2)
theorem p_X4_resend {l : Launch} {Z : mg_Zt} {a : Nat} {g : mg_F} : ∀ (r : Nat) (g' : mg_F), P_X4_resend a g = some (r, g') → mg_C l Z mX4_resend [rv Z 4 0, iv a] g (mp mX4_resend r g') := by
  refine mC_of (by decide) rfl (Nat.le_of_ble_eq_true rfl) (List.forall_mem_cons.mpr ⟨rfl, (List.forall_mem_cons.mpr ⟨rfl, (fun _ h => nomatch h)⟩)⟩) (fun K => ?_)
  unfold P_X4_resend
  refine j_lift (fun _ k => g_aload_n (pc := 0) dX4_resend_0 rfl k) ?_
  refine j_lift (fun _ k => g_iload_n (pc := 1) dX4_resend_1 rfl k) ?_
  refine j_callVi (pc := 2) (Y' := mX4_isUp) (As := [iv a]) (st := []) (k := 4) (i := 0) (p_X4_isUp) gX4_resend_X4_isUp rfl (show 0 < 1 by omega) rfl rfl (na := 1) rfl (by decide +kernel) (by decide) (by decide) (Nat.le_of_ble_eq_true rfl) dX4_resend_2 (fun r1 g2 => ?_)
  refine j_if_ne (pc := 5) 10 dX4_resend_5 (by decide) (fun h3 => ?_) (fun h3 => ?_)
  · refine j_lift (fun _ k => g_iconst (pc := 10) (v := 0) dX4_resend_10 (by decide +kernel) k) ?_
    refine j_lift (fun _ k => g_istore_n (pc := 11) (ls' := [rv Z 4 0, iv a, iv 0]) dX4_resend_11 (Nat.le_of_ble_eq_true rfl) (Nat.le_of_ble_eq_true rfl) rfl k) ?_
    refine l_X4_resend_12  (fun w4 g5 => ?_) 4000 0 g2
    refine j_lift (fun _ k => g_aload_n (pc := 35) dX4_resend_35 rfl k) ?_
    refine j_lift (fun _ k => fg_X4_resend_31 (pc := 36) dX4_resend_36 k) ?_
    refine j_lift (fun _ k => fg_X4_resend_94 (pc := 39) (show 1 < 2 by omega) dX4_resend_39 k) ?_
    exact j_iret (pc := 42) dX4_resend_42 ⟨mg_narI _, Or.inl rfl⟩ rfl
  · refine j_lift (fun _ k => g_iconst (pc := 8) (v := 4294967295) dX4_resend_8 (by decide +kernel) k) ?_
    exact j_iret (pc := 9) dX4_resend_9 ⟨mg_narI _, Or.inl rfl⟩ rfl

/-- X4_crash -/
def P_X4_crash (a : Nat) (g : mg_F) : mo := bd (P_X4_isUp a g) fun r1 g2 => if sv r1 = 0 then (some (4294967295, g2)) else (ck (a < 24) <| jn (α := Nat) (fun x8 g9 => wr (mg_up g9 3 a 6 1) fun g10 => some (0, g10)) fun kj6 => if sv (g2 3 a 5) = 0 then (kj6 0 g2) else (bd (P_X3_stopPumping a g2) fun _ g12 => kj6 0 g12))
theorem p_X4_crash {l : Launch} {Z : mg_Zt} {a : Nat} {g : mg_F} : ∀ (r : Nat) (g' : mg_F), P_X4_crash a g = some (r, g') → mg_C l Z mX4_crash [rv Z 4 0, iv a] g (mp mX4_crash r g') := by
  refine mC_of (by decide) rfl (Nat.le_of_ble_eq_true rfl) (List.forall_mem_cons.mpr ⟨rfl, (List.forall_mem_cons.mpr ⟨rfl, (fun _ h => nomatch h)⟩)⟩) (fun K => ?_)
  unfold P_X4_crash
  refine j_lift (fun _ k => g_aload_n (pc := 0) dX4_crash_0 rfl k) ?_
  refine j_lift (fun _ k => g_iload_n (pc := 1) dX4_crash_1 rfl k) ?_
  refine j_callVi (pc := 2) (Y' := mX4_isUp) (As := [iv a]) (st := []) (k := 4) (i := 0) (p_X4_isUp) gX4_crash_X4_isUp rfl (show 0 < 1 by omega) rfl rfl (na := 1) rfl (by decide +kernel) (by decide) (by decide) (Nat.le_of_ble_eq_true rfl) dX4_crash_2 (fun r1 g2 => ?_)
  refine j_if_ne (pc := 5) 10 dX4_crash_5 (by decide) (fun h3 => ?_) (fun h3 => ?_)
  · refine j_lift (fun _ k => g_aload_n (pc := 10) dX4_crash_10 rfl k) ?_
    refine j_lift (fun _ k => fg_X4_crash_18 (pc := 11) dX4_crash_11 k) ?_
    refine j_lift (fun _ k => g_iload_n (pc := 14) dX4_crash_14 rfl k) ?_
    refine j_ck (fun c4 => ?_)
    refine j_lift (fun _ k => g_aastation (pc := 15) (a := a) c4 dX4_crash_15 k) ?_
    refine j_lift (fun _ k => g_astore_n (pc := 16) (ls' := [rv Z 4 0, iv a, rv Z 3 a]) dX4_crash_16 (Nat.le_of_ble_eq_true rfl) (Nat.le_of_ble_eq_true rfl) rfl k) ?_
    refine j_lift (fun _ k => g_aload_n (pc := 17) dX4_crash_17 rfl k) ?_
    refine j_lift (fun _ k => fg_X4_crash_111 (pc := 18) c4 dX4_crash_18 k) ?_
    refine j_jn (α := Nat) 28 (fun _ => [rv Z 4 0, iv a, rv Z 3 a]) (fun _ => []) (fun x8 g9 => ?_) (fun kj6 hk7 => ?_)
    · refine j_lift (fun _ k => g_aload_n (pc := 28) dX4_crash_28 rfl k) ?_
      refine j_lift (fun _ k => g_iconst (pc := 29) (v := 1) dX4_crash_29 (by decide +kernel) k) ?_
      refine j_w (fun _ k => fp_X4_crash_211 (pc := 30) c4 (by decide) dX4_crash_30 k) (fun g10 => ?_)
      refine j_lift (fun _ k => g_iconst (pc := 33) (v := 0) dX4_crash_33 (by decide +kernel) k) ?_
      exact j_iret (pc := 34) dX4_crash_34 ⟨mg_narI _, Or.inl rfl⟩ rfl
    · refine j_if_eq (pc := 21) 28 dX4_crash_21 (by decide) (fun h5 => ?_) (fun h5 => ?_)
      · exact hk7 0 g2
      · refine j_lift (fun _ k => g_aload_n (pc := 24) dX4_crash_24 rfl k) ?_
        refine j_callVv (pc := 25) (Y' := mX3_stopPumping) (As := []) (st := []) (k := 3) (i := a) (p_X3_stopPumping c4) gX4_crash_X3_stopPumping rfl c4 rfl rfl (na := 0) rfl (by decide +kernel) (by decide) (by decide) (Nat.le_of_ble_eq_true rfl) dX4_crash_25 (fun _ g12 => ?_)
        exact hk7 0 g12
  · refine j_lift (fun _ k => g_iconst (pc := 8) (v := 4294967295) dX4_crash_8 (by decide +kernel) k) ?_
    exact j_iret (pc := 9) dX4_crash_9 ⟨mg_narI _, Or.inl rfl⟩ rfl

/-- X4_restart -/
def P_X4_restart (a : Nat) (g : mg_F) : mo := bd (P_X4_isStation a g) fun r1 g2 => if sv r1 = 0 then (some (4294967295, g2)) else (ck (a < 24) <| if sv (g2 3 a 6) = 0 then (some (4294967295, g2)) else (wr (mg_up g2 3 a 6 0) fun g6 => some (0, g6)))
theorem p_X4_restart {l : Launch} {Z : mg_Zt} {a : Nat} {g : mg_F} : ∀ (r : Nat) (g' : mg_F), P_X4_restart a g = some (r, g') → mg_C l Z mX4_restart [rv Z 4 0, iv a] g (mp mX4_restart r g') := by
  refine mC_of (by decide) rfl (Nat.le_of_ble_eq_true rfl) (List.forall_mem_cons.mpr ⟨rfl, (List.forall_mem_cons.mpr ⟨rfl, (fun _ h => nomatch h)⟩)⟩) (fun K => ?_)
  unfold P_X4_restart
  refine j_lift (fun _ k => g_aload_n (pc := 0) dX4_restart_0 rfl k) ?_
  refine j_lift (fun _ k => g_iload_n (pc := 1) dX4_restart_1 rfl k) ?_
  refine j_callVi (pc := 2) (Y' := mX4_isStation) (As := [iv a]) (st := []) (k := 4) (i := 0) (p_X4_isStation) gX4_restart_X4_isStation rfl (show 0 < 1 by omega) rfl rfl (na := 1) rfl (by decide +kernel) (by decide) (by decide) (Nat.le_of_ble_eq_true rfl) dX4_restart_2 (fun r1 g2 => ?_)
  refine j_if_eq (pc := 5) 20 dX4_restart_5 (by decide) (fun h3 => ?_) (fun h3 => ?_)
  · refine j_lift (fun _ k => g_iconst (pc := 20) (v := 4294967295) dX4_restart_20 (by decide +kernel) k) ?_
    exact j_iret (pc := 21) dX4_restart_21 ⟨mg_narI _, Or.inl rfl⟩ rfl
  · refine j_lift (fun _ k => g_aload_n (pc := 8) dX4_restart_8 rfl k) ?_
    refine j_lift (fun _ k => fg_X4_restart_18 (pc := 9) dX4_restart_9 k) ?_
    refine j_lift (fun _ k => g_iload_n (pc := 12) dX4_restart_12 rfl k) ?_
    refine j_ck (fun c4 => ?_)
    refine j_lift (fun _ k => g_aastation (pc := 13) (a := a) c4 dX4_restart_13 k) ?_
    refine j_lift (fun _ k => fg_X4_restart_211 (pc := 14) c4 dX4_restart_14 k) ?_
    refine j_if_ne (pc := 17) 22 dX4_restart_17 (by decide) (fun h5 => ?_) (fun h5 => ?_)
    · refine j_lift (fun _ k => g_aload_n (pc := 22) dX4_restart_22 rfl k) ?_
      refine j_lift (fun _ k => fg_X4_restart_18 (pc := 23) dX4_restart_23 k) ?_
      refine j_lift (fun _ k => g_iload_n (pc := 26) dX4_restart_26 rfl k) ?_
      refine j_lift (fun _ k => g_aastation (pc := 27) (a := a) c4 dX4_restart_27 k) ?_
      refine j_lift (fun _ k => g_iconst (pc := 28) (v := 0) dX4_restart_28 (by decide +kernel) k) ?_
      refine j_w (fun _ k => fp_X4_restart_211 (pc := 29) c4 (by decide) dX4_restart_29 k) (fun g6 => ?_)
      refine j_lift (fun _ k => g_iconst (pc := 32) (v := 0) dX4_restart_32 (by decide +kernel) k) ?_
      exact j_iret (pc := 33) dX4_restart_33 ⟨mg_narI _, Or.inl rfl⟩ rfl
    · refine j_lift (fun _ k => g_iconst (pc := 20) (v := 4294967295) dX4_restart_20 (by decide +kernel) k) ?_
      exact j_iret (pc := 21) dX4_restart_21 ⟨mg_narI _, Or.inl rfl⟩ rfl

/-- X4_cut -/
def P_X4_cut (a b : Nat) (g : mg_F) : mo := bd (P_X4_isStation a g) fun r1 g2 => if sv r1 = 0 then (some (4294967295, g2)) else (bd (P_X4_isStation b g2) fun r4 g5 => if sv r4 = 0 then (some (4294967295, g5)) else (bd (P_X0_linked a b g5) fun r7 g8 => if sv r7 = 0 then (some (4294967295, g8)) else (bd (P_X1_hasBetween 0 a b g8) fun r10 g11 => if sv r10 = 0 then (bd (P_X1_hasBetween 1 a b g11) fun r13 g14 => if sv r13 = 0 then (ck (a < 24) <| bd (P_X2_placeOf a b g14) fun r17 g18 => if sv r17 = sv 4294967294 then (ck (b < 24) <| bd (P_X2_placeOf b a g18) fun r21 g22 => if sv r21 = sv 4294967294 then (bd (P_X0_untie a b g22) fun _ g25 => bd (P_X3_forget a b g25) fun _ g27 => bd (P_X3_forget b a g27) fun _ g29 => some (0, g29)) else (some (4294967292, g22))) else (some (4294967292, g18))) else (some (4294967293, g14))) else (some (4294967293, g11)))))
theorem p_X4_cut {l : Launch} {Z : mg_Zt} {a b : Nat} {g : mg_F} : ∀ (r : Nat) (g' : mg_F), P_X4_cut a b g = some (r, g') → mg_C l Z mX4_cut [rv Z 4 0, iv a, iv b] g (mp mX4_cut r g') := by
  refine mC_of (by decide) rfl (Nat.le_of_ble_eq_true rfl) (List.forall_mem_cons.mpr ⟨rfl, (List.forall_mem_cons.mpr ⟨rfl, (List.forall_mem_cons.mpr ⟨rfl, (fun _ h => nomatch h)⟩)⟩)⟩) (fun K => ?_)
  unfold P_X4_cut
  refine j_lift (fun _ k => g_aload_n (pc := 0) dX4_cut_0 rfl k) ?_
  refine j_lift (fun _ k => g_iload_n (pc := 1) dX4_cut_1 rfl k) ?_
  refine j_callVi (pc := 2) (Y' := mX4_isStation) (As := [iv a]) (st := []) (k := 4) (i := 0) (p_X4_isStation) gX4_cut_X4_isStation rfl (show 0 < 1 by omega) rfl rfl (na := 1) rfl (by decide +kernel) (by decide) (by decide) (Nat.le_of_ble_eq_true rfl) dX4_cut_2 (fun r1 g2 => ?_)
  refine j_if_eq (pc := 5) 28 dX4_cut_5 (by decide) (fun h3 => ?_) (fun h3 => ?_)
  · refine j_lift (fun _ k => g_iconst (pc := 28) (v := 4294967295) dX4_cut_28 (by decide +kernel) k) ?_
    exact j_iret (pc := 29) dX4_cut_29 ⟨mg_narI _, Or.inl rfl⟩ rfl
  · refine j_lift (fun _ k => g_aload_n (pc := 8) dX4_cut_8 rfl k) ?_
    refine j_lift (fun _ k => g_iload_n (pc := 9) dX4_cut_9 rfl k) ?_
    refine j_callVi (pc := 10) (Y' := mX4_isStation) (As := [iv b]) (st := []) (k := 4) (i := 0) (p_X4_isStation) gX4_cut_X4_isStation rfl (show 0 < 1 by omega) rfl rfl (na := 1) rfl (by decide +kernel) (by decide) (by decide) (Nat.le_of_ble_eq_true rfl) dX4_cut_10 (fun r4 g5 => ?_)
    refine j_if_eq (pc := 13) 28 dX4_cut_13 (by decide) (fun h6 => ?_) (fun h6 => ?_)
    · refine j_lift (fun _ k => g_iconst (pc := 28) (v := 4294967295) dX4_cut_28 (by decide +kernel) k) ?_
      exact j_iret (pc := 29) dX4_cut_29 ⟨mg_narI _, Or.inl rfl⟩ rfl
    · refine j_lift (fun _ k => g_aload_n (pc := 16) dX4_cut_16 rfl k) ?_
      refine j_lift (fun _ k => fg_X4_cut_10 (pc := 17) dX4_cut_17 k) ?_
      refine j_lift (fun _ k => g_iload_n (pc := 20) dX4_cut_20 rfl k) ?_
      refine j_lift (fun _ k => g_iload_n (pc := 21) dX4_cut_21 rfl k) ?_
      refine j_callVi (pc := 22) (Y' := mX0_linked) (As := [iv a, iv b]) (st := []) (k := 0) (i := 0) (p_X0_linked) gX4_cut_X0_linked rfl (show 0 < 1 by omega) rfl rfl (na := 2) rfl (by decide +kernel) (by decide) (by decide) (Nat.le_of_ble_eq_true rfl) dX4_cut_22 (fun r7 g8 => ?_)
      refine j_if_ne (pc := 25) 30 dX4_cut_25 (by decide) (fun h9 => ?_) (fun h9 => ?_)
      · refine j_lift (fun _ k => g_aload_n (pc := 30) dX4_cut_30 rfl k) ?_
        refine j_lift (fun _ k => fg_X4_cut_27 (pc := 31) dX4_cut_31 k) ?_
        refine j_lift (fun _ k => g_iload_n (pc := 34) dX4_cut_34 rfl k) ?_
        refine j_lift (fun _ k => g_iload_n (pc := 35) dX4_cut_35 rfl k) ?_
        refine j_callVi (pc := 36) (Y' := mX1_hasBetween) (As := [iv a, iv b]) (st := []) (k := 1) (i := 0) (p_X1_hasBetween (show 0 < 2 by omega)) gX4_cut_X1_hasBetween rfl (show 0 < 2 by omega) rfl rfl (na := 2) rfl (by decide +kernel) (by decide) (by decide) (Nat.le_of_ble_eq_true rfl) dX4_cut_36 (fun r10 g11 => ?_)
        refine j_if_ne (pc := 39) 54 dX4_cut_39 (by decide) (fun h12 => ?_) (fun h12 => ?_)
        · refine j_lift (fun _ k => g_bipush (pc := 54) (v := 4294967293) dX4_cut_54 (by decide +kernel) k) ?_
          exact j_iret (pc := 56) dX4_cut_56 ⟨mg_narI _, Or.inl rfl⟩ rfl
        · refine j_lift (fun _ k => g_aload_n (pc := 42) dX4_cut_42 rfl k) ?_
          refine j_lift (fun _ k => fg_X4_cut_31 (pc := 43) dX4_cut_43 k) ?_
          refine j_lift (fun _ k => g_iload_n (pc := 46) dX4_cut_46 rfl k) ?_
          refine j_lift (fun _ k => g_iload_n (pc := 47) dX4_cut_47 rfl k) ?_
          refine j_callVi (pc := 48) (Y' := mX1_hasBetween) (As := [iv a, iv b]) (st := []) (k := 1) (i := 1) (p_X1_hasBetween (show 1 < 2 by omega)) gX4_cut_X1_hasBetween rfl (show 1 < 2 by omega) rfl rfl (na := 2) rfl (by decide +kernel) (by decide) (by decide) (Nat.le_of_ble_eq_true rfl) dX4_cut_48 (fun r13 g14 => ?_)
          refine j_if_eq (pc := 51) 57 dX4_cut_51 (by decide) (fun h15 => ?_) (fun h15 => ?_)
          · refine j_lift (fun _ k => g_aload_n (pc := 57) dX4_cut_57 rfl k) ?_
            refine j_lift (fun _ k => fg_X4_cut_18 (pc := 58) dX4_cut_58 k) ?_
            refine j_lift (fun _ k => g_iload_n (pc := 61) dX4_cut_61 rfl k) ?_
            refine j_ck (fun c16 => ?_)
            refine j_lift (fun _ k => g_aastation (pc := 62) (a := a) c16 dX4_cut_62 k) ?_
            refine j_lift (fun _ k => fg_X4_cut_118 (pc := 63) c16 dX4_cut_63 k) ?_
            refine j_lift (fun _ k => g_iload_n (pc := 66) dX4_cut_66 rfl k) ?_
            refine j_callVi (pc := 67) (Y' := mX2_placeOf) (As := [iv b]) (st := []) (k := 2) (i := a) (p_X2_placeOf c16) gX4_cut_X2_placeOf rfl c16 rfl rfl (na := 1) rfl (by decide +kernel) (by decide) (by decide) (Nat.le_of_ble_eq_true rfl) dX4_cut_67 (fun r17 g18 => ?_)
            refine j_lift (fun _ k => g_bipush (pc := 70) (v := 4294967294) dX4_cut_70 (by decide +kernel) k) ?_
            refine j_icmp_ne (pc := 72) 93 dX4_cut_72 (by decide) (fun h19 => ?_) (fun h19 => ?_)
            · refine j_lift (fun _ k => g_bipush (pc := 93) (v := 4294967292) dX4_cut_93 (by decide +kernel) k) ?_
              exact j_iret (pc := 95) dX4_cut_95 ⟨mg_narI _, Or.inl rfl⟩ rfl
            · refine j_lift (fun _ k => g_aload_n (pc := 75) dX4_cut_75 rfl k) ?_
              refine j_lift (fun _ k => fg_X4_cut_18 (pc := 76) dX4_cut_76 k) ?_
              refine j_lift (fun _ k => g_iload_n (pc := 79) dX4_cut_79 rfl k) ?_
              refine j_ck (fun c20 => ?_)
              refine j_lift (fun _ k => g_aastation (pc := 80) (a := b) c20 dX4_cut_80 k) ?_
              refine j_lift (fun _ k => fg_X4_cut_118 (pc := 81) c20 dX4_cut_81 k) ?_
              refine j_lift (fun _ k => g_iload_n (pc := 84) dX4_cut_84 rfl k) ?_
              refine j_callVi (pc := 85) (Y' := mX2_placeOf) (As := [iv a]) (st := []) (k := 2) (i := b) (p_X2_placeOf c20) gX4_cut_X2_placeOf rfl c20 rfl rfl (na := 1) rfl (by decide +kernel) (by decide) (by decide) (Nat.le_of_ble_eq_true rfl) dX4_cut_85 (fun r21 g22 => ?_)
              refine j_lift (fun _ k => g_bipush (pc := 88) (v := 4294967294) dX4_cut_88 (by decide +kernel) k) ?_
              refine j_icmp_eq (pc := 90) 96 dX4_cut_90 (by decide) (fun h23 => ?_) (fun h23 => ?_)
              · refine j_lift (fun _ k => g_aload_n (pc := 96) dX4_cut_96 rfl k) ?_
                refine j_lift (fun _ k => fg_X4_cut_10 (pc := 97) dX4_cut_97 k) ?_
                refine j_lift (fun _ k => g_iload_n (pc := 100) dX4_cut_100 rfl k) ?_
                refine j_lift (fun _ k => g_iload_n (pc := 101) dX4_cut_101 rfl k) ?_
                refine j_callVv (pc := 102) (Y' := mX0_untie) (As := [iv a, iv b]) (st := []) (k := 0) (i := 0) (p_X0_untie) gX4_cut_X0_untie rfl (show 0 < 1 by omega) rfl rfl (na := 2) rfl (by decide +kernel) (by decide) (by decide) (Nat.le_of_ble_eq_true rfl) dX4_cut_102 (fun _ g25 => ?_)
                refine j_lift (fun _ k => g_aload_n (pc := 105) dX4_cut_105 rfl k) ?_
                refine j_lift (fun _ k => fg_X4_cut_18 (pc := 106) dX4_cut_106 k) ?_
                refine j_lift (fun _ k => g_iload_n (pc := 109) dX4_cut_109 rfl k) ?_
                refine j_lift (fun _ k => g_aastation (pc := 110) (a := a) c16 dX4_cut_110 k) ?_
                refine j_lift (fun _ k => g_iload_n (pc := 111) dX4_cut_111 rfl k) ?_
                refine j_callVv (pc := 112) (Y' := mX3_forget) (As := [iv b]) (st := []) (k := 3) (i := a) (p_X3_forget c16) gX4_cut_X3_forget rfl c16 rfl rfl (na := 1) rfl (by decide +kernel) (by decide) (by decide) (Nat.le_of_ble_eq_true rfl) dX4_cut_112 (fun _ g27 => ?_)
                refine j_lift (fun _ k => g_aload_n (pc := 115) dX4_cut_115 rfl k) ?_
                refine j_lift (fun _ k => fg_X4_cut_18 (pc := 116) dX4_cut_116 k) ?_
                refine j_lift (fun _ k => g_iload_n (pc := 119) dX4_cut_119 rfl k) ?_
                refine j_lift (fun _ k => g_aastation (pc := 120) (a := b) c20 dX4_cut_120 k) ?_
                refine j_lift (fun _ k => g_iload_n (pc := 121) dX4_cut_121 rfl k) ?_
                refine j_callVv (pc := 122) (Y' := mX3_forget) (As := [iv a]) (st := []) (k := 3) (i := b) (p_X3_forget c20) gX4_cut_X3_forget rfl c20 rfl rfl (na := 1) rfl (by decide +kernel) (by decide) (by decide) (Nat.le_of_ble_eq_true rfl) dX4_cut_122 (fun _ g29 => ?_)
                refine j_lift (fun _ k => g_iconst (pc := 125) (v := 0) dX4_cut_125 (by decide +kernel) k) ?_
                exact j_iret (pc := 126) dX4_cut_126 ⟨mg_narI _, Or.inl rfl⟩ rfl
              · refine j_lift (fun _ k => g_bipush (pc := 93) (v := 4294967292) dX4_cut_93 (by decide +kernel) k) ?_
                exact j_iret (pc := 95) dX4_cut_95 ⟨mg_narI _, Or.inl rfl⟩ rfl
          · refine j_lift (fun _ k => g_bipush (pc := 54) (v := 4294967293) dX4_cut_54 (by decide +kernel) k) ?_
            exact j_iret (pc := 56) dX4_cut_56 ⟨mg_narI _, Or.inl rfl⟩ rfl
      · refine j_lift (fun _ k => g_iconst (pc := 28) (v := 4294967295) dX4_cut_28 (by decide +kernel) k) ?_
        exact j_iret (pc := 29) dX4_cut_29 ⟨mg_narI _, Or.inl rfl⟩ rfl

/-- X4_whoHolds -/
def L_X4_whoHolds_2 (k : Nat → mg_F → mo) : Nat → Nat → mg_F → mo
  | 0, _, _ => none
  | n + 1, v1, g => if sv v1 < sv (g 0 0 1) then (ck (v1 < 24) <| bd (P_X3_holds v1 g) fun r3 g4 => if sv r3 = 0 then (L_X4_whoHolds_2  k n (v1 + 1) g4) else (some (v1, g4))) else (k v1 g)
theorem l_X4_whoHolds_2 {K : mg_Kt} {Z : mg_Zt}  {k : Nat → mg_F → mo} (hk : ∀ (v1 : Nat) (g : mg_F), mj K Z mX4_whoHolds (k v1 g) 33 [rv Z 4 0, iv v1] [] g) : ∀ (n : Nat) (v1 : Nat) (g : mg_F), mj K Z mX4_whoHolds (L_X4_whoHolds_2  k n v1 g) 2 [rv Z 4 0, iv v1] [] g := by
  intro n
  induction n with
  | zero => intro _ _; exact j_none
  | succ n ih =>
    intro v1 g
    unfold L_X4_whoHolds_2
    refine j_lift (fun _ k => g_iload_n (pc := 2) dX4_whoHolds_2 rfl k) ?_
    refine j_lift (fun _ k => g_aload_n (pc := 3) dX4_whoHolds_3 rfl k) ?_
    refine j_lift (fun _ k => fg_X4_whoHolds_10 (pc := 4) dX4_whoHolds_4 k) ?_
    refine j_lift (fun _ k => fg_X4_whoHolds_229 (pc := 7) dX4_whoHolds_7 k) ?_
    refine j_icmp_ge (pc := 10) 33 dX4_whoHolds_10 (by decide) (fun h1 => ?_) (fun h1 => ?_)
    · exact hk v1 g
    · refine j_lift (fun _ k => g_aload_n (pc := 13) dX4_whoHolds_13 rfl k) ?_
      refine j_lift (fun _ k => fg_X4_whoHolds_18 (pc := 14) dX4_whoHolds_14 k) ?_
      refine j_lift (fun _ k => g_iload_n (pc := 17) dX4_whoHolds_17 rfl k) ?_
      refine j_ck (fun c2 => ?_)
      refine j_lift (fun _ k => g_aastation (pc := 18) (a := v1) c2 dX4_whoHolds_18 k) ?_
      refine j_callVi (pc := 19) (Y' := mX3_holds) (As := []) (st := []) (k := 3) (i := v1) (p_X3_holds c2) gX4_whoHolds_X3_holds rfl c2 rfl rfl (na := 0) rfl (by decide +kernel) (by decide) (by decide) (Nat.le_of_ble_eq_true rfl) dX4_whoHolds_19 (fun r3 g4 => ?_)
      refine j_if_eq (pc := 22) 27 dX4_whoHolds_22 (by decide) (fun h5 => ?_) (fun h5 => ?_)
      · refine j_lift (fun _ k => g_iinc (pc := 27) (v := v1 + 1) (ls' := [rv Z 4 0, iv (v1 + 1)]) dX4_whoHolds_27 (Nat.le_of_ble_eq_true rfl) rfl (mg_inc _) rfl k) ?_
        refine j_lift (fun _ k => g_goto (pc := 30) 2 dX4_whoHolds_30 (by decide) k) ?_
        exact ih (v1 + 1) g4
      · refine j_lift (fun _ k => g_iload_n (pc := 25) dX4_whoHolds_25 rfl k) ?_
        exact j_iret (pc := 26) dX4_whoHolds_26 ⟨mg_narI _, Or.inl rfl⟩ rfl
def P_X4_whoHolds (g : mg_F) : mo := L_X4_whoHolds_2  (fun w6 g7 => some (4294967294, g7)) 4000 0 g
theorem p_X4_whoHolds {l : Launch} {Z : mg_Zt} {g : mg_F} : ∀ (r : Nat) (g' : mg_F), P_X4_whoHolds g = some (r, g') → mg_C l Z mX4_whoHolds [rv Z 4 0] g (mp mX4_whoHolds r g') := by
  refine mC_of (by decide) rfl (Nat.le_of_ble_eq_true rfl) (List.forall_mem_cons.mpr ⟨rfl, (fun _ h => nomatch h)⟩) (fun K => ?_)
  unfold P_X4_whoHolds
  refine j_lift (fun _ k => g_iconst (pc := 0) (v := 0) dX4_whoHolds_0 (by decide +kernel) k) ?_
  refine j_lift (fun _ k => g_istore_n (pc := 1) (ls' := [rv Z 4 0, iv 0]) dX4_whoHolds_1 (Nat.le_of_ble_eq_true rfl) (Nat.le_of_ble_eq_true rfl) rfl k) ?_
  refine l_X4_whoHolds_2  (fun w6 g7 => ?_) 4000 0 g
  refine j_lift (fun _ k => g_bipush (pc := 33) (v := 4294967294) dX4_whoHolds_33 (by decide +kernel) k) ?_
  exact j_iret (pc := 35) dX4_whoHolds_35 ⟨mg_narI _, Or.inl rfl⟩ rfl

/-- X4_placeOfRight -/
def L_X4_placeOfRight_7 (k : Nat → Nat → mg_F → mo) : Nat → Nat → Nat → mg_F → mo
  | 0, _, _, _ => none
  | n + 1, v1, v2, g => if sv v2 < sv (g 1 0 5) then (if sv v1 = sv 4294967294 then (ck (v2 < mg_cap 0) <| ck (v2 < mg_cap 0) <| jn (α := Nat) (fun x8 g9 => L_X4_placeOfRight_7  k n x8 (v2 + 1) g9) fun kj6 => if sv (g 11 0 v2) = sv 1 then (ck (v2 < mg_cap 0) <| ck (g 12 0 v2 < 24) <| ck (v2 < mg_cap 0) <| ck (g 13 0 v2 < 24) <| if sv (g 14 0 v2) < sv (g 22 (g 12 0 v2) (g 13 0 v2)) then (kj6 v1 g) else (kj6 (g 12 0 v2) g)) else (kj6 v1 g)) else (k v1 v2 g)) else (k v1 v2 g)
theorem l_X4_placeOfRight_7 {K : mg_Kt} {Z : mg_Zt}  {k : Nat → Nat → mg_F → mo} (hk : ∀ (v1 v2 : Nat) (g : mg_F), mj K Z mX4_placeOfRight (k v1 v2 g) 83 [rv Z 4 0, iv v1, iv v2] [] g) : ∀ (n : Nat) (v1 v2 : Nat) (g : mg_F), mj K Z mX4_placeOfRight (L_X4_placeOfRight_7  k n v1 v2 g) 7 [rv Z 4 0, iv v1, iv v2] [] g := by
  intro n
  induction n with
  | zero => intro _ _ _; exact j_none
  | succ n ih =>
    intro v1 v2 g
    unfold L_X4_placeOfRight_7
    refine j_lift (fun _ k => g_iload_n (pc := 7) dX4_placeOfRight_7 rfl k) ?_
    refine j_lift (fun _ k => g_aload_n (pc := 8) dX4_placeOfRight_8 rfl k) ?_
    refine j_lift (fun _ k => fg_X4_placeOfRight_27 (pc := 9) dX4_placeOfRight_9 k) ?_
    refine j_lift (fun _ k => fg_X4_placeOfRight_94 (pc := 12) (show 0 < 2 by omega) dX4_placeOfRight_12 k) ?_
    refine j_icmp_ge (pc := 15) 83 dX4_placeOfRight_15 (by decide) (fun h1 => ?_) (fun h1 => ?_)
    · exact hk v1 v2 g
    · refine j_lift (fun _ k => g_iload_n (pc := 18) dX4_placeOfRight_18 rfl k) ?_
      refine j_lift (fun _ k => g_bipush (pc := 19) (v := 4294967294) dX4_placeOfRight_19 (by decide +kernel) k) ?_
      refine j_icmp_ne (pc := 21) 83 dX4_placeOfRight_21 (by decide) (fun h2 => ?_) (fun h2 => ?_)
      · exact hk v1 v2 g
      · refine j_lift (fun _ k => g_aload_n (pc := 24) dX4_placeOfRight_24 rfl k) ?_
        refine j_lift (fun _ k => fg_X4_placeOfRight_27 (pc := 25) dX4_placeOfRight_25 k) ?_
        refine j_lift (fun _ k => fg_X4_placeOfRight_196 (pc := 28) (show 0 < 2 by omega) dX4_placeOfRight_28 k) ?_
        refine j_lift (fun _ k => g_iload_n (pc := 31) dX4_placeOfRight_31 rfl k) ?_
        refine j_ck (fun c3 => ?_)
        refine j_lift (fun _ k => g_iaload (pc := 32) (k := 12) (i := 0) (n := mg_cap 0) (show 0 < 2 by omega) rfl (mg_cap_lt _) c3 dX4_placeOfRight_32 k) ?_
        refine j_lift (fun _ k => g_istore_n (pc := 33) (ls' := [rv Z 4 0, iv v1, iv v2, iv (g 12 0 v2)]) dX4_placeOfRight_33 (Nat.le_of_ble_eq_true rfl) (Nat.le_of_ble_eq_true rfl) rfl k) ?_
        refine j_lift (fun _ k => g_aload_n (pc := 34) dX4_placeOfRight_34 rfl k) ?_
        refine j_lift (fun _ k => fg_X4_placeOfRight_27 (pc := 35) dX4_placeOfRight_35 k) ?_
        refine j_lift (fun _ k => fg_X4_placeOfRight_193 (pc := 38) (show 0 < 2 by omega) dX4_placeOfRight_38 k) ?_
        refine j_lift (fun _ k => g_iload_n (pc := 41) dX4_placeOfRight_41 rfl k) ?_
        refine j_ck (fun c4 => ?_)
        refine j_lift (fun _ k => g_iaload (pc := 42) (k := 11) (i := 0) (n := mg_cap 0) (show 0 < 2 by omega) rfl (mg_cap_lt _) c4 dX4_placeOfRight_42 k) ?_
        refine j_lift (fun _ k => g_iconst (pc := 43) (v := 1) dX4_placeOfRight_43 (by decide +kernel) k) ?_
        refine j_jn (α := Nat) 77 (fun x8 => [rv Z 4 0, iv x8, iv v2, iv (g 12 0 v2)]) (fun x8 => []) (fun x8 g9 => ?_) (fun kj6 hk7 => ?_)
        · refine j_lift (fun _ k => g_iinc (pc := 77) (v := v2 + 1) (ls' := [rv Z 4 0, iv x8, iv (v2 + 1), iv (g 12 0 v2)]) dX4_placeOfRight_77 (Nat.le_of_ble_eq_true rfl) rfl (mg_inc _) rfl k) ?_
          refine j_lift (fun _ k => g_goto (pc := 80) 7 dX4_placeOfRight_80 (by decide) k) ?_
          refine j_trunc (ls := [rv Z 4 0, iv x8, iv (v2 + 1)]) [iv (g 12 0 v2)] ?_
          exact ih x8 (v2 + 1) g9
        · refine j_icmp_ne (pc := 44) 77 dX4_placeOfRight_44 (by decide) (fun h5 => ?_) (fun h5 => ?_)
          · exact hk7 v1 g
          · refine j_lift (fun _ k => g_aload_n (pc := 47) dX4_placeOfRight_47 rfl k) ?_
            refine j_lift (fun _ k => fg_X4_placeOfRight_27 (pc := 48) dX4_placeOfRight_48 k) ?_
            refine j_lift (fun _ k => fg_X4_placeOfRight_202 (pc := 51) (show 0 < 2 by omega) dX4_placeOfRight_51 k) ?_
            refine j_lift (fun _ k => g_iload_n (pc := 54) dX4_placeOfRight_54 rfl k) ?_
            refine j_ck (fun c10 => ?_)
            refine j_lift (fun _ k => g_iaload (pc := 55) (k := 14) (i := 0) (n := mg_cap 0) (show 0 < 2 by omega) rfl (mg_cap_lt _) c10 dX4_placeOfRight_55 k) ?_
            refine j_lift (fun _ k => g_aload_n (pc := 56) dX4_placeOfRight_56 rfl k) ?_
            refine j_lift (fun _ k => fg_X4_placeOfRight_39 (pc := 57) dX4_placeOfRight_57 k) ?_
            refine j_lift (fun _ k => g_iload_n (pc := 60) dX4_placeOfRight_60 rfl k) ?_
            refine j_ck (fun c11 => ?_)
            refine j_lift (fun _ k => g_aarow (pc := 61) (k := 20) (r := 22) (a := g 12 0 v2) (show 0 < 1 by omega) rfl c11 dX4_placeOfRight_61 k) ?_
            refine j_lift (fun _ k => g_aload_n (pc := 62) dX4_placeOfRight_62 rfl k) ?_
            refine j_lift (fun _ k => fg_X4_placeOfRight_27 (pc := 63) dX4_placeOfRight_63 k) ?_
            refine j_lift (fun _ k => fg_X4_placeOfRight_199 (pc := 66) (show 0 < 2 by omega) dX4_placeOfRight_66 k) ?_
            refine j_lift (fun _ k => g_iload_n (pc := 69) dX4_placeOfRight_69 rfl k) ?_
            refine j_ck (fun c12 => ?_)
            refine j_lift (fun _ k => g_iaload (pc := 70) (k := 13) (i := 0) (n := mg_cap 0) (show 0 < 2 by omega) rfl (mg_cap_lt _) c12 dX4_placeOfRight_70 k) ?_
            refine j_ck (fun c13 => ?_)
            refine j_lift (fun _ k => g_iaload (pc := 71) (k := 22) (i := g 12 0 v2) (n := 24) c11 rfl (by decide) c13 dX4_placeOfRight_71 k) ?_
            refine j_icmp_lt (pc := 72) 77 dX4_placeOfRight_72 (by decide) (fun h14 => ?_) (fun h14 => ?_)
            · exact hk7 v1 g
            · refine j_lift (fun _ k => g_iload_n (pc := 75) dX4_placeOfRight_75 rfl k) ?_
              refine j_lift (fun _ k => g_istore_n (pc := 76) (ls' := [rv Z 4 0, iv (g 12 0 v2), iv v2, iv (g 12 0 v2)]) dX4_placeOfRight_76 (Nat.le_of_ble_eq_true rfl) (Nat.le_of_ble_eq_true rfl) rfl k) ?_
              exact hk7 (g 12 0 v2) g
def P_X4_placeOfRight (g : mg_F) : mo := bd (P_X4_whoHolds g) fun r1 g2 => L_X4_placeOfRight_7  (fun w15 w16 g17 => some (w15, g17)) 4000 r1 0 g2
theorem p_X4_placeOfRight {l : Launch} {Z : mg_Zt} {g : mg_F} : ∀ (r : Nat) (g' : mg_F), P_X4_placeOfRight g = some (r, g') → mg_C l Z mX4_placeOfRight [rv Z 4 0] g (mp mX4_placeOfRight r g') := by
  refine mC_of (by decide) rfl (Nat.le_of_ble_eq_true rfl) (List.forall_mem_cons.mpr ⟨rfl, (fun _ h => nomatch h)⟩) (fun K => ?_)
  unfold P_X4_placeOfRight
  refine j_lift (fun _ k => g_aload_n (pc := 0) dX4_placeOfRight_0 rfl k) ?_
  refine j_callVi (pc := 1) (Y' := mX4_whoHolds) (As := []) (st := []) (k := 4) (i := 0) (p_X4_whoHolds) gX4_placeOfRight_X4_whoHolds rfl (show 0 < 1 by omega) rfl rfl (na := 0) rfl (by decide +kernel) (by decide) (by decide) (Nat.le_of_ble_eq_true rfl) dX4_placeOfRight_1 (fun r1 g2 => ?_)
  refine j_lift (fun _ k => g_istore_n (pc := 4) (ls' := [rv Z 4 0, iv r1]) dX4_placeOfRight_4 (Nat.le_of_ble_eq_true rfl) (Nat.le_of_ble_eq_true rfl) rfl k) ?_
  refine j_lift (fun _ k => g_iconst (pc := 5) (v := 0) dX4_placeOfRight_5 (by decide +kernel) k) ?_
  refine j_lift (fun _ k => g_istore_n (pc := 6) (ls' := [rv Z 4 0, iv r1, iv 0]) dX4_placeOfRight_6 (Nat.le_of_ble_eq_true rfl) (Nat.le_of_ble_eq_true rfl) rfl k) ?_
  refine l_X4_placeOfRight_7  (fun w15 w16 g17 => ?_) 4000 r1 0 g2
  refine j_lift (fun _ k => g_iload_n (pc := 83) dX4_placeOfRight_83 rfl k) ?_
  exact j_iret (pc := 84) dX4_placeOfRight_84 ⟨mg_narI _, Or.inl rfl⟩ rfl

/-- X4_hasMarkFrom -/
def L_X4_hasMarkFrom_4 (a1 : Nat) (k : Nat → Nat → mg_F → mo) : Nat → Nat → Nat → mg_F → mo
  | 0, _, _, _ => none
  | n + 1, v2, v3, g => if sv v3 < sv (g 0 0 1) then (ck (v2 < 24) <| bd (P_X3_pointsAway v2 g) fun r3 g4 => if sv r3 = 0 then (k v2 v3 g4) else (if sv (g4 3 v2 3) = 0 then (L_X4_hasMarkFrom_4 a1 k n (g4 3 v2 2) (v3 + 1) g4) else (some (1, g4)))) else (k v2 v3 g)
theorem l_X4_hasMarkFrom_4 {K : mg_Kt} {Z : mg_Zt} {a1 : Nat}  {k : Nat → Nat → mg_F → mo} (hk : ∀ (v2 v3 : Nat) (g : mg_F), mj K Z mX4_hasMarkFrom (k v2 v3 g) 57 [rv Z 4 0, iv a1, iv v2, iv v3] [] g) : ∀ (n : Nat) (v2 v3 : Nat) (g : mg_F), mj K Z mX4_hasMarkFrom (L_X4_hasMarkFrom_4 a1 k n v2 v3 g) 4 [rv Z 4 0, iv a1, iv v2, iv v3] [] g := by
  intro n
  induction n with
  | zero => intro _ _ _; exact j_none
  | succ n ih =>
    intro v2 v3 g
    unfold L_X4_hasMarkFrom_4
    refine j_lift (fun _ k => g_iload_n (pc := 4) dX4_hasMarkFrom_4 rfl k) ?_
    refine j_lift (fun _ k => g_aload_n (pc := 5) dX4_hasMarkFrom_5 rfl k) ?_
    refine j_lift (fun _ k => fg_X4_hasMarkFrom_10 (pc := 6) dX4_hasMarkFrom_6 k) ?_
    refine j_lift (fun _ k => fg_X4_hasMarkFrom_229 (pc := 9) dX4_hasMarkFrom_9 k) ?_
    refine j_icmp_ge (pc := 12) 57 dX4_hasMarkFrom_12 (by decide) (fun h1 => ?_) (fun h1 => ?_)
    · exact hk v2 v3 g
    · refine j_lift (fun _ k => g_aload_n (pc := 15) dX4_hasMarkFrom_15 rfl k) ?_
      refine j_lift (fun _ k => fg_X4_hasMarkFrom_18 (pc := 16) dX4_hasMarkFrom_16 k) ?_
      refine j_lift (fun _ k => g_iload_n (pc := 19) dX4_hasMarkFrom_19 rfl k) ?_
      refine j_ck (fun c2 => ?_)
      refine j_lift (fun _ k => g_aastation (pc := 20) (a := v2) c2 dX4_hasMarkFrom_20 k) ?_
      refine j_callVi (pc := 21) (Y' := mX3_pointsAway) (As := []) (st := []) (k := 3) (i := v2) (p_X3_pointsAway c2) gX4_hasMarkFrom_X3_pointsAway rfl c2 rfl rfl (na := 0) rfl (by decide +kernel) (by decide) (by decide) (Nat.le_of_ble_eq_true rfl) dX4_hasMarkFrom_21 (fun r3 g4 => ?_)
      refine j_if_eq (pc := 24) 57 dX4_hasMarkFrom_24 (by decide) (fun h5 => ?_) (fun h5 => ?_)
      · exact hk v2 v3 g4
      · refine j_lift (fun _ k => g_aload_n (pc := 27) dX4_hasMarkFrom_27 rfl k) ?_
        refine j_lift (fun _ k => fg_X4_hasMarkFrom_18 (pc := 28) dX4_hasMarkFrom_28 k) ?_
        refine j_lift (fun _ k => g_iload_n (pc := 31) dX4_hasMarkFrom_31 rfl k) ?_
        refine j_lift (fun _ k => g_aastation (pc := 32) (a := v2) c2 dX4_hasMarkFrom_32 k) ?_
        refine j_lift (fun _ k => fg_X4_hasMarkFrom_178 (pc := 33) c2 dX4_hasMarkFrom_33 k) ?_
        refine j_if_eq (pc := 36) 41 dX4_hasMarkFrom_36 (by decide) (fun h6 => ?_) (fun h6 => ?_)
        · refine j_lift (fun _ k => g_aload_n (pc := 41) dX4_hasMarkFrom_41 rfl k) ?_
          refine j_lift (fun _ k => fg_X4_hasMarkFrom_18 (pc := 42) dX4_hasMarkFrom_42 k) ?_
          refine j_lift (fun _ k => g_iload_n (pc := 45) dX4_hasMarkFrom_45 rfl k) ?_
          refine j_lift (fun _ k => g_aastation (pc := 46) (a := v2) c2 dX4_hasMarkFrom_46 k) ?_
          refine j_lift (fun _ k => fg_X4_hasMarkFrom_258 (pc := 47) c2 dX4_hasMarkFrom_47 k) ?_
          refine j_lift (fun _ k => g_istore_n (pc := 50) (ls' := [rv Z 4 0, iv a1, iv (g4 3 v2 2), iv v3]) dX4_hasMarkFrom_50 (Nat.le_of_ble_eq_true rfl) (Nat.le_of_ble_eq_true rfl) rfl k) ?_
          refine j_lift (fun _ k => g_iinc (pc := 51) (v := v3 + 1) (ls' := [rv Z 4 0, iv a1, iv (g4 3 v2 2), iv (v3 + 1)]) dX4_hasMarkFrom_51 (Nat.le_of_ble_eq_true rfl) rfl (mg_inc _) rfl k) ?_
          refine j_lift (fun _ k => g_goto (pc := 54) 4 dX4_hasMarkFrom_54 (by decide) k) ?_
          exact ih (g4 3 v2 2) (v3 + 1) g4
        · refine j_lift (fun _ k => g_iconst (pc := 39) (v := 1) dX4_hasMarkFrom_39 (by decide +kernel) k) ?_
          exact j_iret (pc := 40) dX4_hasMarkFrom_40 ⟨mg_narZ (by decide), Or.inr rfl⟩ rfl
def P_X4_hasMarkFrom (a : Nat) (g : mg_F) : mo := L_X4_hasMarkFrom_4 a (fun w7 w8 g9 => some (0, g9)) 4000 a 0 g
theorem p_X4_hasMarkFrom {l : Launch} {Z : mg_Zt} {a : Nat} {g : mg_F} : ∀ (r : Nat) (g' : mg_F), P_X4_hasMarkFrom a g = some (r, g') → mg_C l Z mX4_hasMarkFrom [rv Z 4 0, iv a] g (mp mX4_hasMarkFrom r g') := by
  refine mC_of (by decide) rfl (Nat.le_of_ble_eq_true rfl) (List.forall_mem_cons.mpr ⟨rfl, (List.forall_mem_cons.mpr ⟨rfl, (fun _ h => nomatch h)⟩)⟩) (fun K => ?_)
  unfold P_X4_hasMarkFrom
  refine j_lift (fun _ k => g_iload_n (pc := 0) dX4_hasMarkFrom_0 rfl k) ?_
  refine j_lift (fun _ k => g_istore_n (pc := 1) (ls' := [rv Z 4 0, iv a, iv a]) dX4_hasMarkFrom_1 (Nat.le_of_ble_eq_true rfl) (Nat.le_of_ble_eq_true rfl) rfl k) ?_
  refine j_lift (fun _ k => g_iconst (pc := 2) (v := 0) dX4_hasMarkFrom_2 (by decide +kernel) k) ?_
  refine j_lift (fun _ k => g_istore_n (pc := 3) (ls' := [rv Z 4 0, iv a, iv a, iv 0]) dX4_hasMarkFrom_3 (Nat.le_of_ble_eq_true rfl) (Nat.le_of_ble_eq_true rfl) rfl k) ?_
  refine l_X4_hasMarkFrom_4  (fun w7 w8 g9 => ?_) 4000 a 0 g
  refine j_lift (fun _ k => g_iconst (pc := 57) (v := 0) dX4_hasMarkFrom_57 (by decide +kernel) k) ?_
  exact j_iret (pc := 58) dX4_hasMarkFrom_58 ⟨mg_narZ (by decide), Or.inr rfl⟩ rfl

/-- X4_turnPointers -/
def L_X4_turnPointers_8 (a1 a2 : Nat) (k : Nat → Nat → Nat → mg_F → mo) : Nat → Nat → Nat → Nat → mg_F → mo
  | 0, _, _, _, _ => none
  | n + 1, v3, v4, v5, g => if sv v5 < sv (g 0 0 1) then (if sv v3 = sv 4294967294 then (k v3 v4 v5 g) else (ck (v3 < 24) <| wr (mg_up g 3 v3 2 v4) fun g4 => L_X4_turnPointers_8 a1 a2 k n (g 3 v3 2) v3 (v5 + 1) g4)) else (k v3 v4 v5 g)
theorem l_X4_turnPointers_8 {K : mg_Kt} {Z : mg_Zt} {a1 a2 : Nat}  {k : Nat → Nat → Nat → mg_F → mo} (hk : ∀ (v3 v4 v5 : Nat) (g : mg_F), mj K Z mX4_turnPointers (k v3 v4 v5 g) 60 [rv Z 4 0, iv a1, iv a2, iv v3, iv v4, iv v5] [] g) : ∀ (n : Nat) (v3 v4 v5 : Nat) (g : mg_F), mj K Z mX4_turnPointers (L_X4_turnPointers_8 a1 a2 k n v3 v4 v5 g) 8 [rv Z 4 0, iv a1, iv a2, iv v3, iv v4, iv v5] [] g := by
  intro n
  induction n with
  | zero => intro _ _ _ _; exact j_none
  | succ n ih =>
    intro v3 v4 v5 g
    unfold L_X4_turnPointers_8
    refine j_lift (fun _ k => g_iload (pc := 8) dX4_turnPointers_8 rfl k) ?_
    refine j_lift (fun _ k => g_aload_n (pc := 10) dX4_turnPointers_10 rfl k) ?_
    refine j_lift (fun _ k => fg_X4_turnPointers_10 (pc := 11) dX4_turnPointers_11 k) ?_
    refine j_lift (fun _ k => fg_X4_turnPointers_229 (pc := 14) dX4_turnPointers_14 k) ?_
    refine j_icmp_ge (pc := 17) 60 dX4_turnPointers_17 (by decide) (fun h1 => ?_) (fun h1 => ?_)
    · exact hk v3 v4 v5 g
    · refine j_lift (fun _ k => g_iload_n (pc := 20) dX4_turnPointers_20 rfl k) ?_
      refine j_lift (fun _ k => g_bipush (pc := 21) (v := 4294967294) dX4_turnPointers_21 (by decide +kernel) k) ?_
      refine j_icmp_eq (pc := 23) 60 dX4_turnPointers_23 (by decide) (fun h2 => ?_) (fun h2 => ?_)
      · exact hk v3 v4 v5 g
      · refine j_lift (fun _ k => g_aload_n (pc := 26) dX4_turnPointers_26 rfl k) ?_
        refine j_lift (fun _ k => fg_X4_turnPointers_18 (pc := 27) dX4_turnPointers_27 k) ?_
        refine j_lift (fun _ k => g_iload_n (pc := 30) dX4_turnPointers_30 rfl k) ?_
        refine j_ck (fun c3 => ?_)
        refine j_lift (fun _ k => g_aastation (pc := 31) (a := v3) c3 dX4_turnPointers_31 k) ?_
        refine j_lift (fun _ k => fg_X4_turnPointers_258 (pc := 32) c3 dX4_turnPointers_32 k) ?_
        refine j_lift (fun _ k => g_istore (pc := 35) (ls' := [rv Z 4 0, iv a1, iv a2, iv v3, iv v4, iv v5, iv (g 3 v3 2)]) dX4_turnPointers_35 (Nat.le_of_ble_eq_true rfl) (Nat.le_of_ble_eq_true rfl) rfl k) ?_
        refine j_lift (fun _ k => g_aload_n (pc := 37) dX4_turnPointers_37 rfl k) ?_
        refine j_lift (fun _ k => fg_X4_turnPointers_18 (pc := 38) dX4_turnPointers_38 k) ?_
        refine j_lift (fun _ k => g_iload_n (pc := 41) dX4_turnPointers_41 rfl k) ?_
        refine j_lift (fun _ k => g_aastation (pc := 42) (a := v3) c3 dX4_turnPointers_42 k) ?_
        refine j_lift (fun _ k => g_iload (pc := 43) dX4_turnPointers_43 rfl k) ?_
        refine j_w (fun _ k => fp_X4_turnPointers_258 (pc := 45) c3 dX4_turnPointers_45 k) (fun g4 => ?_)
        refine j_lift (fun _ k => g_iload_n (pc := 48) dX4_turnPointers_48 rfl k) ?_
        refine j_lift (fun _ k => g_istore (pc := 49) (ls' := [rv Z 4 0, iv a1, iv a2, iv v3, iv v3, iv v5, iv (g 3 v3 2)]) dX4_turnPointers_49 (Nat.le_of_ble_eq_true rfl) (Nat.le_of_ble_eq_true rfl) rfl k) ?_
        refine j_lift (fun _ k => g_iload (pc := 51) dX4_turnPointers_51 rfl k) ?_
        refine j_lift (fun _ k => g_istore_n (pc := 53) (ls' := [rv Z 4 0, iv a1, iv a2, iv (g 3 v3 2), iv v3, iv v5, iv (g 3 v3 2)]) dX4_turnPointers_53 (Nat.le_of_ble_eq_true rfl) (Nat.le_of_ble_eq_true rfl) rfl k) ?_
        refine j_lift (fun _ k => g_iinc (pc := 54) (v := v5 + 1) (ls' := [rv Z 4 0, iv a1, iv a2, iv (g 3 v3 2), iv v3, iv (v5 + 1), iv (g 3 v3 2)]) dX4_turnPointers_54 (Nat.le_of_ble_eq_true rfl) rfl (mg_inc _) rfl k) ?_
        refine j_lift (fun _ k => g_goto (pc := 57) 8 dX4_turnPointers_57 (by decide) k) ?_
        refine j_trunc (ls := [rv Z 4 0, iv a1, iv a2, iv (g 3 v3 2), iv v3, iv (v5 + 1)]) [iv (g 3 v3 2)] ?_
        exact ih (g 3 v3 2) v3 (v5 + 1) g4
def P_X4_turnPointers (a b : Nat) (g : mg_F) : mo := L_X4_turnPointers_8 a b (fun w5 w6 w7 g8 => some (0, g8)) 4000 a b 0 g
theorem p_X4_turnPointers {l : Launch} {Z : mg_Zt} {a b : Nat} {g : mg_F} : ∀ (r : Nat) (g' : mg_F), P_X4_turnPointers a b g = some (r, g') → mg_C l Z mX4_turnPointers [rv Z 4 0, iv a, iv b] g (mp mX4_turnPointers r g') := by
  refine mC_of (by decide) rfl (Nat.le_of_ble_eq_true rfl) (List.forall_mem_cons.mpr ⟨rfl, (List.forall_mem_cons.mpr ⟨rfl, (List.forall_mem_cons.mpr ⟨rfl, (fun _ h => nomatch h)⟩)⟩)⟩) (fun K => ?_)
  unfold P_X4_turnPointers
  refine j_lift (fun _ k => g_iload_n (pc := 0) dX4_turnPointers_0 rfl k) ?_
  refine j_lift (fun _ k => g_istore_n (pc := 1) (ls' := [rv Z 4 0, iv a, iv b, iv a]) dX4_turnPointers_1 (Nat.le_of_ble_eq_true rfl) (Nat.le_of_ble_eq_true rfl) rfl k) ?_
  refine j_lift (fun _ k => g_iload_n (pc := 2) dX4_turnPointers_2 rfl k) ?_
  refine j_lift (fun _ k => g_istore (pc := 3) (ls' := [rv Z 4 0, iv a, iv b, iv a, iv b]) dX4_turnPointers_3 (Nat.le_of_ble_eq_true rfl) (Nat.le_of_ble_eq_true rfl) rfl k) ?_
  refine j_lift (fun _ k => g_iconst (pc := 5) (v := 0) dX4_turnPointers_5 (by decide +kernel) k) ?_
  refine j_lift (fun _ k => g_istore (pc := 6) (ls' := [rv Z 4 0, iv a, iv b, iv a, iv b, iv 0]) dX4_turnPointers_6 (Nat.le_of_ble_eq_true rfl) (Nat.le_of_ble_eq_true rfl) rfl k) ?_
  refine l_X4_turnPointers_8  (fun w5 w6 w7 g8 => ?_) 4000 a b 0 g
  exact j_ret (pc := 60) dX4_turnPointers_60 trivial rfl

/-- X4_hang -/
def P_X4_hang (a b : Nat) (g : mg_F) : mo := bd (P_X4_hasMarkFrom a g) fun r1 g2 => if sv r1 = 0 then (bd (P_X4_turnPointers a b g2) fun _ g5 => bd (P_X0_tie a b g5) fun _ g7 => ck (a < 24) <| ck (b < 24) <| wr (mg_up g7 21 a b 0) fun g10 => wr (mg_up g10 21 b a 0) fun g11 => wr (mg_up g11 22 a b 0) fun g12 => wr (mg_up g12 22 b a 0) fun g13 => some (0, g13)) else (some (4294967291, g2))
theorem p_X4_hang {l : Launch} {Z : mg_Zt} {a b : Nat} {g : mg_F} : ∀ (r : Nat) (g' : mg_F), P_X4_hang a b g = some (r, g') → mg_C l Z mX4_hang [rv Z 4 0, iv a, iv b] g (mp mX4_hang r g') := by
  refine mC_of (by decide) rfl (Nat.le_of_ble_eq_true rfl) (List.forall_mem_cons.mpr ⟨rfl, (List.forall_mem_cons.mpr ⟨rfl, (List.forall_mem_cons.mpr ⟨rfl, (fun _ h => nomatch h)⟩)⟩)⟩) (fun K => ?_)
  unfold P_X4_hang
  refine j_lift (fun _ k => g_aload_n (pc := 0) dX4_hang_0 rfl k) ?_
  refine j_lift (fun _ k => g_iload_n (pc := 1) dX4_hang_1 rfl k) ?_
  refine j_callVi (pc := 2) (Y' := mX4_hasMarkFrom) (As := [iv a]) (st := []) (k := 4) (i := 0) (p_X4_hasMarkFrom) gX4_hang_X4_hasMarkFrom rfl (show 0 < 1 by omega) rfl rfl (na := 1) rfl (by decide +kernel) (by decide) (by decide) (Nat.le_of_ble_eq_true rfl) dX4_hang_2 (fun r1 g2 => ?_)
  refine j_if_eq (pc := 5) 11 dX4_hang_5 (by decide) (fun h3 => ?_) (fun h3 => ?_)
  · refine j_lift (fun _ k => g_aload_n (pc := 11) dX4_hang_11 rfl k) ?_
    refine j_lift (fun _ k => g_iload_n (pc := 12) dX4_hang_12 rfl k) ?_
    refine j_lift (fun _ k => g_iload_n (pc := 13) dX4_hang_13 rfl k) ?_
    refine j_callVv (pc := 14) (Y' := mX4_turnPointers) (As := [iv a, iv b]) (st := []) (k := 4) (i := 0) (p_X4_turnPointers) gX4_hang_X4_turnPointers rfl (show 0 < 1 by omega) rfl rfl (na := 2) rfl (by decide +kernel) (by decide) (by decide) (Nat.le_of_ble_eq_true rfl) dX4_hang_14 (fun _ g5 => ?_)
    refine j_lift (fun _ k => g_aload_n (pc := 17) dX4_hang_17 rfl k) ?_
    refine j_lift (fun _ k => fg_X4_hang_10 (pc := 18) dX4_hang_18 k) ?_
    refine j_lift (fun _ k => g_iload_n (pc := 21) dX4_hang_21 rfl k) ?_
    refine j_lift (fun _ k => g_iload_n (pc := 22) dX4_hang_22 rfl k) ?_
    refine j_callVv (pc := 23) (Y' := mX0_tie) (As := [iv a, iv b]) (st := []) (k := 0) (i := 0) (p_X0_tie) gX4_hang_X0_tie rfl (show 0 < 1 by omega) rfl rfl (na := 2) rfl (by decide +kernel) (by decide) (by decide) (Nat.le_of_ble_eq_true rfl) dX4_hang_23 (fun _ g7 => ?_)
    refine j_lift (fun _ k => g_aload_n (pc := 26) dX4_hang_26 rfl k) ?_
    refine j_lift (fun _ k => fg_X4_hang_36 (pc := 27) dX4_hang_27 k) ?_
    refine j_lift (fun _ k => g_iload_n (pc := 30) dX4_hang_30 rfl k) ?_
    refine j_ck (fun c8 => ?_)
    refine j_lift (fun _ k => g_aarow (pc := 31) (k := 19) (r := 21) (a := a) (show 0 < 1 by omega) rfl c8 dX4_hang_31 k) ?_
    refine j_lift (fun _ k => g_iload_n (pc := 32) dX4_hang_32 rfl k) ?_
    refine j_lift (fun _ k => g_iconst (pc := 33) (v := 0) dX4_hang_33 (by decide +kernel) k) ?_
    refine j_ck (fun c9 => ?_)
    refine j_w (fun _ k => g_iastore (pc := 34) (k := 21) (i := a) (n := 24) c8 (fun _ => rfl) (by decide) c9 dX4_hang_34 k) (fun g10 => ?_)
    refine j_lift (fun _ k => g_aload_n (pc := 35) dX4_hang_35 rfl k) ?_
    refine j_lift (fun _ k => fg_X4_hang_36 (pc := 36) dX4_hang_36 k) ?_
    refine j_lift (fun _ k => g_iload_n (pc := 39) dX4_hang_39 rfl k) ?_
    refine j_lift (fun _ k => g_aarow (pc := 40) (k := 19) (r := 21) (a := b) (show 0 < 1 by omega) rfl c9 dX4_hang_40 k) ?_
    refine j_lift (fun _ k => g_iload_n (pc := 41) dX4_hang_41 rfl k) ?_
    refine j_lift (fun _ k => g_iconst (pc := 42) (v := 0) dX4_hang_42 (by decide +kernel) k) ?_
    refine j_w (fun _ k => g_iastore (pc := 43) (k := 21) (i := b) (n := 24) c9 (fun _ => rfl) (by decide) c8 dX4_hang_43 k) (fun g11 => ?_)
    refine j_lift (fun _ k => g_aload_n (pc := 44) dX4_hang_44 rfl k) ?_
    refine j_lift (fun _ k => fg_X4_hang_39 (pc := 45) dX4_hang_45 k) ?_
    refine j_lift (fun _ k => g_iload_n (pc := 48) dX4_hang_48 rfl k) ?_
    refine j_lift (fun _ k => g_aarow (pc := 49) (k := 20) (r := 22) (a := a) (show 0 < 1 by omega) rfl c8 dX4_hang_49 k) ?_
    refine j_lift (fun _ k => g_iload_n (pc := 50) dX4_hang_50 rfl k) ?_
    refine j_lift (fun _ k => g_iconst (pc := 51) (v := 0) dX4_hang_51 (by decide +kernel) k) ?_
    refine j_w (fun _ k => g_iastore (pc := 52) (k := 22) (i := a) (n := 24) c8 (fun _ => rfl) (by decide) c9 dX4_hang_52 k) (fun g12 => ?_)
    refine j_lift (fun _ k => g_aload_n (pc := 53) dX4_hang_53 rfl k) ?_
    refine j_lift (fun _ k => fg_X4_hang_39 (pc := 54) dX4_hang_54 k) ?_
    refine j_lift (fun _ k => g_iload_n (pc := 57) dX4_hang_57 rfl k) ?_
    refine j_lift (fun _ k => g_aarow (pc := 58) (k := 20) (r := 22) (a := b) (show 0 < 1 by omega) rfl c9 dX4_hang_58 k) ?_
    refine j_lift (fun _ k => g_iload_n (pc := 59) dX4_hang_59 rfl k) ?_
    refine j_lift (fun _ k => g_iconst (pc := 60) (v := 0) dX4_hang_60 (by decide +kernel) k) ?_
    refine j_w (fun _ k => g_iastore (pc := 61) (k := 22) (i := b) (n := 24) c9 (fun _ => rfl) (by decide) c8 dX4_hang_61 k) (fun g13 => ?_)
    refine j_lift (fun _ k => g_iconst (pc := 62) (v := 0) dX4_hang_62 (by decide +kernel) k) ?_
    exact j_iret (pc := 63) dX4_hang_63 ⟨mg_narI _, Or.inl rfl⟩ rfl
  · refine j_lift (fun _ k => g_bipush (pc := 8) (v := 4294967291) dX4_hang_8 (by decide +kernel) k) ?_
    exact j_iret (pc := 10) dX4_hang_10 ⟨mg_narI _, Or.inl rfl⟩ rfl

/-- X4_join -/
def P_X4_join (a b : Nat) (g : mg_F) : mo := bd (P_X4_isStation a g) fun r1 g2 => if sv r1 = 0 then (some (4294967295, g2)) else (bd (P_X4_isStation b g2) fun r4 g5 => if sv r4 = 0 then (some (4294967295, g5)) else (bd (P_X0_partOf a g5) fun r7 g8 => bd (P_X4_placeOfRight g8) fun r9 g10 => bd (P_X4_contains r7 b g10) fun r11 g12 => if sv r11 = 0 then (if sv r9 = sv 4294967294 then (some (4294967295, g12)) else (bd (P_X4_contains r7 r9 g12) fun r15 g16 => if sv r15 = 0 then (bd (P_X0_partOf b g16) fun r18 g19 => bd (P_X4_contains r18 r9 g19) fun r20 g21 => if sv r20 = 0 then (some (4294967295, g21)) else (bd (P_X4_hang a b g21) fun r23 g24 => some (r23, g24))) else (bd (P_X4_hang b a g16) fun r25 g26 => some (r25, g26)))) else (some (4294967295, g12))))
theorem p_X4_join {l : Launch} {Z : mg_Zt} {a b : Nat} {g : mg_F} : ∀ (r : Nat) (g' : mg_F), P_X4_join a b g = some (r, g') → mg_C l Z mX4_join [rv Z 4 0, iv a, iv b] g (mp mX4_join r g') := by
  refine mC_of (by decide) rfl (Nat.le_of_ble_eq_true rfl) (List.forall_mem_cons.mpr ⟨rfl, (List.forall_mem_cons.mpr ⟨rfl, (List.forall_mem_cons.mpr ⟨rfl, (fun _ h => nomatch h)⟩)⟩)⟩) (fun K => ?_)
  unfold P_X4_join
  refine j_lift (fun _ k => g_aload_n (pc := 0) dX4_join_0 rfl k) ?_
  refine j_lift (fun _ k => g_iload_n (pc := 1) dX4_join_1 rfl k) ?_
  refine j_callVi (pc := 2) (Y' := mX4_isStation) (As := [iv a]) (st := []) (k := 4) (i := 0) (p_X4_isStation) gX4_join_X4_isStation rfl (show 0 < 1 by omega) rfl rfl (na := 1) rfl (by decide +kernel) (by decide) (by decide) (Nat.le_of_ble_eq_true rfl) dX4_join_2 (fun r1 g2 => ?_)
  refine j_if_eq (pc := 5) 16 dX4_join_5 (by decide) (fun h3 => ?_) (fun h3 => ?_)
  · refine j_lift (fun _ k => g_iconst (pc := 16) (v := 4294967295) dX4_join_16 (by decide +kernel) k) ?_
    exact j_iret (pc := 17) dX4_join_17 ⟨mg_narI _, Or.inl rfl⟩ rfl
  · refine j_lift (fun _ k => g_aload_n (pc := 8) dX4_join_8 rfl k) ?_
    refine j_lift (fun _ k => g_iload_n (pc := 9) dX4_join_9 rfl k) ?_
    refine j_callVi (pc := 10) (Y' := mX4_isStation) (As := [iv b]) (st := []) (k := 4) (i := 0) (p_X4_isStation) gX4_join_X4_isStation rfl (show 0 < 1 by omega) rfl rfl (na := 1) rfl (by decide +kernel) (by decide) (by decide) (Nat.le_of_ble_eq_true rfl) dX4_join_10 (fun r4 g5 => ?_)
    refine j_if_ne (pc := 13) 18 dX4_join_13 (by decide) (fun h6 => ?_) (fun h6 => ?_)
    · refine j_lift (fun _ k => g_aload_n (pc := 18) dX4_join_18 rfl k) ?_
      refine j_lift (fun _ k => fg_X4_join_10 (pc := 19) dX4_join_19 k) ?_
      refine j_lift (fun _ k => g_iload_n (pc := 22) dX4_join_22 rfl k) ?_
      refine j_callVi (pc := 23) (Y' := mX0_partOf) (As := [iv a]) (st := []) (k := 0) (i := 0) (p_X0_partOf) gX4_join_X0_partOf rfl (show 0 < 1 by omega) rfl rfl (na := 1) rfl (by decide +kernel) (by decide) (by decide) (Nat.le_of_ble_eq_true rfl) dX4_join_23 (fun r7 g8 => ?_)
      refine j_lift (fun _ k => g_istore_n (pc := 26) (ls' := [rv Z 4 0, iv a, iv b, iv r7]) dX4_join_26 (Nat.le_of_ble_eq_true rfl) (Nat.le_of_ble_eq_true rfl) rfl k) ?_
      refine j_lift (fun _ k => g_aload_n (pc := 27) dX4_join_27 rfl k) ?_
      refine j_callVi (pc := 28) (Y' := mX4_placeOfRight) (As := []) (st := []) (k := 4) (i := 0) (p_X4_placeOfRight) gX4_join_X4_placeOfRight rfl (show 0 < 1 by omega) rfl rfl (na := 0) rfl (by decide +kernel) (by decide) (by decide) (Nat.le_of_ble_eq_true rfl) dX4_join_28 (fun r9 g10 => ?_)
      refine j_lift (fun _ k => g_istore (pc := 31) (ls' := [rv Z 4 0, iv a, iv b, iv r7, iv r9]) dX4_join_31 (Nat.le_of_ble_eq_true rfl) (Nat.le_of_ble_eq_true rfl) rfl k) ?_
      refine j_lift (fun _ k => g_iload_n (pc := 33) dX4_join_33 rfl k) ?_
      refine j_lift (fun _ k => g_iload_n (pc := 34) dX4_join_34 rfl k) ?_
      refine j_callSi (pc := 35) (Y' := mX4_contains) (As := [iv r7, iv b]) (st := []) (p_X4_contains) gX4_join_X4_contains rfl (na := 2) rfl (by decide +kernel) (by decide) (by decide) (Nat.le_of_ble_eq_true rfl) dX4_join_35 (fun r11 g12 => ?_)
      refine j_if_ne (pc := 38) 48 dX4_join_38 (by decide) (fun h13 => ?_) (fun h13 => ?_)
      · refine j_lift (fun _ k => g_iconst (pc := 48) (v := 4294967295) dX4_join_48 (by decide +kernel) k) ?_
        exact j_iret (pc := 49) dX4_join_49 ⟨mg_narI _, Or.inl rfl⟩ rfl
      · refine j_lift (fun _ k => g_iload (pc := 41) dX4_join_41 rfl k) ?_
        refine j_lift (fun _ k => g_bipush (pc := 43) (v := 4294967294) dX4_join_43 (by decide +kernel) k) ?_
        refine j_icmp_ne (pc := 45) 50 dX4_join_45 (by decide) (fun h14 => ?_) (fun h14 => ?_)
        · refine j_lift (fun _ k => g_iload_n (pc := 50) dX4_join_50 rfl k) ?_
          refine j_lift (fun _ k => g_iload (pc := 51) dX4_join_51 rfl k) ?_
          refine j_callSi (pc := 53) (Y' := mX4_contains) (As := [iv r7, iv r9]) (st := []) (p_X4_contains) gX4_join_X4_contains rfl (na := 2) rfl (by decide +kernel) (by decide) (by decide) (Nat.le_of_ble_eq_true rfl) dX4_join_53 (fun r15 g16 => ?_)
          refine j_if_eq (pc := 56) 66 dX4_join_56 (by decide) (fun h17 => ?_) (fun h17 => ?_)
          · refine j_lift (fun _ k => g_aload_n (pc := 66) dX4_join_66 rfl k) ?_
            refine j_lift (fun _ k => fg_X4_join_10 (pc := 67) dX4_join_67 k) ?_
            refine j_lift (fun _ k => g_iload_n (pc := 70) dX4_join_70 rfl k) ?_
            refine j_callVi (pc := 71) (Y' := mX0_partOf) (As := [iv b]) (st := []) (k := 0) (i := 0) (p_X0_partOf) gX4_join_X0_partOf rfl (show 0 < 1 by omega) rfl rfl (na := 1) rfl (by decide +kernel) (by decide) (by decide) (Nat.le_of_ble_eq_true rfl) dX4_join_71 (fun r18 g19 => ?_)
            refine j_lift (fun _ k => g_iload (pc := 74) dX4_join_74 rfl k) ?_
            refine j_callSi (pc := 76) (Y' := mX4_contains) (As := [iv r18, iv r9]) (st := []) (p_X4_contains) gX4_join_X4_contains rfl (na := 2) rfl (by decide +kernel) (by decide) (by decide) (Nat.le_of_ble_eq_true rfl) dX4_join_76 (fun r20 g21 => ?_)
            refine j_if_eq (pc := 79) 89 dX4_join_79 (by decide) (fun h22 => ?_) (fun h22 => ?_)
            · refine j_lift (fun _ k => g_iconst (pc := 89) (v := 4294967295) dX4_join_89 (by decide +kernel) k) ?_
              exact j_iret (pc := 90) dX4_join_90 ⟨mg_narI _, Or.inl rfl⟩ rfl
            · refine j_lift (fun _ k => g_aload_n (pc := 82) dX4_join_82 rfl k) ?_
              refine j_lift (fun _ k => g_iload_n (pc := 83) dX4_join_83 rfl k) ?_
              refine j_lift (fun _ k => g_iload_n (pc := 84) dX4_join_84 rfl k) ?_
              refine j_callVi (pc := 85) (Y' := mX4_hang) (As := [iv a, iv b]) (st := []) (k := 4) (i := 0) (p_X4_hang) gX4_join_X4_hang rfl (show 0 < 1 by omega) rfl rfl (na := 2) rfl (by decide +kernel) (by decide) (by decide) (Nat.le_of_ble_eq_true rfl) dX4_join_85 (fun r23 g24 => ?_)
              exact j_iret (pc := 88) dX4_join_88 ⟨mg_narI _, Or.inl rfl⟩ rfl
          · refine j_lift (fun _ k => g_aload_n (pc := 59) dX4_join_59 rfl k) ?_
            refine j_lift (fun _ k => g_iload_n (pc := 60) dX4_join_60 rfl k) ?_
            refine j_lift (fun _ k => g_iload_n (pc := 61) dX4_join_61 rfl k) ?_
            refine j_callVi (pc := 62) (Y' := mX4_hang) (As := [iv b, iv a]) (st := []) (k := 4) (i := 0) (p_X4_hang) gX4_join_X4_hang rfl (show 0 < 1 by omega) rfl rfl (na := 2) rfl (by decide +kernel) (by decide) (by decide) (Nat.le_of_ble_eq_true rfl) dX4_join_62 (fun r25 g26 => ?_)
            exact j_iret (pc := 65) dX4_join_65 ⟨mg_narI _, Or.inl rfl⟩ rfl
        · refine j_lift (fun _ k => g_iconst (pc := 48) (v := 4294967295) dX4_join_48 (by decide +kernel) k) ?_
          exact j_iret (pc := 49) dX4_join_49 ⟨mg_narI _, Or.inl rfl⟩ rfl
    · refine j_lift (fun _ k => g_iconst (pc := 16) (v := 4294967295) dX4_join_16 (by decide +kernel) k) ?_
      exact j_iret (pc := 17) dX4_join_17 ⟨mg_narI _, Or.inl rfl⟩ rfl

/-- X4_holder -/
def P_X4_holder (g : mg_F) : mo := if sv (g 4 0 6) = 0 then (some (4294967295, g)) else (bd (P_X4_whoHolds g) fun r2 g3 => some (r2, g3))
theorem p_X4_holder {l : Launch} {Z : mg_Zt} {g : mg_F} : ∀ (r : Nat) (g' : mg_F), P_X4_holder g = some (r, g') → mg_C l Z mX4_holder [rv Z 4 0] g (mp mX4_holder r g') := by
  refine mC_of (by decide) rfl (Nat.le_of_ble_eq_true rfl) (List.forall_mem_cons.mpr ⟨rfl, (fun _ h => nomatch h)⟩) (fun K => ?_)
  unfold P_X4_holder
  refine j_lift (fun _ k => g_aload_n (pc := 0) dX4_holder_0 rfl k) ?_
  refine j_lift (fun _ k => fg_X4_holder_55 (pc := 1) dX4_holder_1 k) ?_
  refine j_if_eq (pc := 4) 14 dX4_holder_4 (by decide) (fun h1 => ?_) (fun h1 => ?_)
  · refine j_lift (fun _ k => g_iconst (pc := 14) (v := 4294967295) dX4_holder_14 (by decide +kernel) k) ?_
    exact j_iret (pc := 15) dX4_holder_15 ⟨mg_narI _, Or.inl rfl⟩ rfl
  · refine j_lift (fun _ k => g_aload_n (pc := 7) dX4_holder_7 rfl k) ?_
    refine j_callVi (pc := 8) (Y' := mX4_whoHolds) (As := []) (st := []) (k := 4) (i := 0) (p_X4_whoHolds) gX4_holder_X4_whoHolds rfl (show 0 < 1 by omega) rfl rfl (na := 0) rfl (by decide +kernel) (by decide) (by decide) (Nat.le_of_ble_eq_true rfl) dX4_holder_8 (fun r2 g3 => ?_)
    refine j_lift (fun _ k => g_goto (pc := 11) 15 dX4_holder_11 (by decide) k) ?_
    exact j_iret (pc := 15) dX4_holder_15 ⟨mg_narI _, Or.inl rfl⟩ rfl

/-- X4_pointer -/
def P_X4_pointer (a : Nat) (g : mg_F) : mo := bd (P_X4_isStation a g) fun r1 g2 => if sv r1 = 0 then (some (4294967295, g2)) else (ck (a < 24) <| some (g2 3 a 2, g2))
theorem p_X4_pointer {l : Launch} {Z : mg_Zt} {a : Nat} {g : mg_F} : ∀ (r : Nat) (g' : mg_F), P_X4_pointer a g = some (r, g') → mg_C l Z mX4_pointer [rv Z 4 0, iv a] g (mp mX4_pointer r g') := by
  refine mC_of (by decide) rfl (Nat.le_of_ble_eq_true rfl) (List.forall_mem_cons.mpr ⟨rfl, (List.forall_mem_cons.mpr ⟨rfl, (fun _ h => nomatch h)⟩)⟩) (fun K => ?_)
  unfold P_X4_pointer
  refine j_lift (fun _ k => g_aload_n (pc := 0) dX4_pointer_0 rfl k) ?_
  refine j_lift (fun _ k => g_iload_n (pc := 1) dX4_pointer_1 rfl k) ?_
  refine j_callVi (pc := 2) (Y' := mX4_isStation) (As := [iv a]) (st := []) (k := 4) (i := 0) (p_X4_isStation) gX4_pointer_X4_isStation rfl (show 0 < 1 by omega) rfl rfl (na := 1) rfl (by decide +kernel) (by decide) (by decide) (Nat.le_of_ble_eq_true rfl) dX4_pointer_2 (fun r1 g2 => ?_)
  refine j_if_eq (pc := 5) 20 dX4_pointer_5 (by decide) (fun h3 => ?_) (fun h3 => ?_)
  · refine j_lift (fun _ k => g_iconst (pc := 20) (v := 4294967295) dX4_pointer_20 (by decide +kernel) k) ?_
    exact j_iret (pc := 21) dX4_pointer_21 ⟨mg_narI _, Or.inl rfl⟩ rfl
  · refine j_lift (fun _ k => g_aload_n (pc := 8) dX4_pointer_8 rfl k) ?_
    refine j_lift (fun _ k => fg_X4_pointer_18 (pc := 9) dX4_pointer_9 k) ?_
    refine j_lift (fun _ k => g_iload_n (pc := 12) dX4_pointer_12 rfl k) ?_
    refine j_ck (fun c4 => ?_)
    refine j_lift (fun _ k => g_aastation (pc := 13) (a := a) c4 dX4_pointer_13 k) ?_
    refine j_lift (fun _ k => fg_X4_pointer_258 (pc := 14) c4 dX4_pointer_14 k) ?_
    refine j_lift (fun _ k => g_goto (pc := 17) 21 dX4_pointer_17 (by decide) k) ?_
    exact j_iret (pc := 21) dX4_pointer_21 ⟨mg_narI _, Or.inl rfl⟩ rfl

/-- X4_queue -/
def P_X4_queue (a b c : Nat) (g : mg_F) : mo := bd (P_X4_isStation a g) fun r1 g2 => if sv r1 = 0 then (some (4294967295, g2)) else (if sv b < 0 then (some (4294967295, g2)) else (ck (a < 24) <| if sv b < sv (g2 2 a 2) then (if sv c = 0 then (ck (b < 24) <| some (g2 16 a b, g2)) else (ck (b < 24) <| some (g2 17 a b, g2))) else (some (4294967295, g2))))
theorem p_X4_queue {l : Launch} {Z : mg_Zt} {a b c : Nat} {g : mg_F} : ∀ (r : Nat) (g' : mg_F), P_X4_queue a b c g = some (r, g') → mg_C l Z mX4_queue [rv Z 4 0, iv a, iv b, iv c] g (mp mX4_queue r g') := by
  refine mC_of (by decide) rfl (Nat.le_of_ble_eq_true rfl) (List.forall_mem_cons.mpr ⟨rfl, (List.forall_mem_cons.mpr ⟨rfl, (List.forall_mem_cons.mpr ⟨rfl, (List.forall_mem_cons.mpr ⟨rfl, (fun _ h => nomatch h)⟩)⟩)⟩)⟩) (fun K => ?_)
  unfold P_X4_queue
  refine j_lift (fun _ k => g_aload_n (pc := 0) dX4_queue_0 rfl k) ?_
  refine j_lift (fun _ k => g_iload_n (pc := 1) dX4_queue_1 rfl k) ?_
  refine j_callVi (pc := 2) (Y' := mX4_isStation) (As := [iv a]) (st := []) (k := 4) (i := 0) (p_X4_isStation) gX4_queue_X4_isStation rfl (show 0 < 1 by omega) rfl rfl (na := 1) rfl (by decide +kernel) (by decide) (by decide) (Nat.le_of_ble_eq_true rfl) dX4_queue_2 (fun r1 g2 => ?_)
  refine j_if_eq (pc := 5) 28 dX4_queue_5 (by decide) (fun h3 => ?_) (fun h3 => ?_)
  · refine j_lift (fun _ k => g_iconst (pc := 28) (v := 4294967295) dX4_queue_28 (by decide +kernel) k) ?_
    exact j_iret (pc := 29) dX4_queue_29 ⟨mg_narI _, Or.inl rfl⟩ rfl
  · refine j_lift (fun _ k => g_iload_n (pc := 8) dX4_queue_8 rfl k) ?_
    refine j_if_lt (pc := 9) 28 dX4_queue_9 (by decide) (fun h4 => ?_) (fun h4 => ?_)
    · refine j_lift (fun _ k => g_iconst (pc := 28) (v := 4294967295) dX4_queue_28 (by decide +kernel) k) ?_
      exact j_iret (pc := 29) dX4_queue_29 ⟨mg_narI _, Or.inl rfl⟩ rfl
    · refine j_lift (fun _ k => g_iload_n (pc := 12) dX4_queue_12 rfl k) ?_
      refine j_lift (fun _ k => g_aload_n (pc := 13) dX4_queue_13 rfl k) ?_
      refine j_lift (fun _ k => fg_X4_queue_18 (pc := 14) dX4_queue_14 k) ?_
      refine j_lift (fun _ k => g_iload_n (pc := 17) dX4_queue_17 rfl k) ?_
      refine j_ck (fun c5 => ?_)
      refine j_lift (fun _ k => g_aastation (pc := 18) (a := a) c5 dX4_queue_18 k) ?_
      refine j_lift (fun _ k => fg_X4_queue_118 (pc := 19) c5 dX4_queue_19 k) ?_
      refine j_lift (fun _ k => fg_X4_queue_133 (pc := 22) c5 dX4_queue_22 k) ?_
      refine j_icmp_lt (pc := 25) 30 dX4_queue_25 (by decide) (fun h6 => ?_) (fun h6 => ?_)
      · refine j_lift (fun _ k => g_iload_n (pc := 30) dX4_queue_30 rfl k) ?_
        refine j_if_eq (pc := 31) 51 dX4_queue_31 (by decide) (fun h7 => ?_) (fun h7 => ?_)
        · refine j_lift (fun _ k => g_aload_n (pc := 51) dX4_queue_51 rfl k) ?_
          refine j_lift (fun _ k => fg_X4_queue_18 (pc := 52) dX4_queue_52 k) ?_
          refine j_lift (fun _ k => g_iload_n (pc := 55) dX4_queue_55 rfl k) ?_
          refine j_lift (fun _ k => g_aastation (pc := 56) (a := a) c5 dX4_queue_56 k) ?_
          refine j_lift (fun _ k => fg_X4_queue_118 (pc := 57) c5 dX4_queue_57 k) ?_
          refine j_lift (fun _ k => fg_X4_queue_142 (pc := 60) c5 dX4_queue_60 k) ?_
          refine j_lift (fun _ k => g_iload_n (pc := 63) dX4_queue_63 rfl k) ?_
          refine j_ck (fun c8 => ?_)
          refine j_lift (fun _ k => g_iaload (pc := 64) (k := 16) (i := a) (n := 24) c5 rfl (by decide) c8 dX4_queue_64 k) ?_
          exact j_iret (pc := 65) dX4_queue_65 ⟨mg_narI _, Or.inl rfl⟩ rfl
        · refine j_lift (fun _ k => g_aload_n (pc := 34) dX4_queue_34 rfl k) ?_
          refine j_lift (fun _ k => fg_X4_queue_18 (pc := 35) dX4_queue_35 k) ?_
          refine j_lift (fun _ k => g_iload_n (pc := 38) dX4_queue_38 rfl k) ?_
          refine j_lift (fun _ k => g_aastation (pc := 39) (a := a) c5 dX4_queue_39 k) ?_
          refine j_lift (fun _ k => fg_X4_queue_118 (pc := 40) c5 dX4_queue_40 k) ?_
          refine j_lift (fun _ k => fg_X4_queue_261 (pc := 43) c5 dX4_queue_43 k) ?_
          refine j_lift (fun _ k => g_iload_n (pc := 46) dX4_queue_46 rfl k) ?_
          refine j_ck (fun c9 => ?_)
          refine j_lift (fun _ k => g_iaload (pc := 47) (k := 17) (i := a) (n := 24) c5 rfl (by decide) c9 dX4_queue_47 k) ?_
          refine j_lift (fun _ k => g_goto (pc := 48) 65 dX4_queue_48 (by decide) k) ?_
          exact j_iret (pc := 65) dX4_queue_65 ⟨mg_narI _, Or.inl rfl⟩ rfl
      · refine j_lift (fun _ k => g_iconst (pc := 28) (v := 4294967295) dX4_queue_28 (by decide +kernel) k) ?_
        exact j_iret (pc := 29) dX4_queue_29 ⟨mg_narI _, Or.inl rfl⟩ rfl

