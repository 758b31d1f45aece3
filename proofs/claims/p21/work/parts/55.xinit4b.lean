/-! ===== the class's constructor, from its entry ===== -/
section XINIT4B
variable {K : mg_Kt} {Z : kg_Zt} {dm : List (Nat × Nat)} {ad : Nat → Nat → Nat} {ce : Nat → Nat → va_E} {a : Nat}
theorem c_X4_b {P : (Nat → Nat → Nat) → Prop} (hP : ∀ ad', ad' 4 0 = a → P ad') (hmc : kmc K = 161) (hms : kms K = 8195) (hR : kg_R K Z mX4_init (fun dm' ad' ce' => dm' = mg_all false ∧ P ad' ∧ ce' = fun k i => mg_mk (ad', Z.2.1) k i (qcs80 k i))) (ha : ad 4 0 = a) (h4 : (4, 0) ∈ dm) (hce4 : ce 4 0 = .inr (4, [.ref (ad 0 0), .ref (ad 18 0), .ref (ad 1 0), .ref (ad 1 1), .null, .null, iv 0, iv 0, iv 0, iv 0])) (h18 : (18, 0) ∈ dm) (hce18 : ce 18 0 = .inl (Z.2.1.2.2.1, 24, .inr (.inr (.inr (.inr (fun _ => none))))))
    (hb : ∀ k i, i < mg_cnt false k → (k = 0 ∨ k = 1 ∨ k = 10 ∨ k = 11 ∨ k = 12 ∨ k = 13 ∨ k = 14 ∨ k = 15) → (k, i) ∈ dm ∧ ce k i = mg_mk (ad, Z.2.1) k i (fun _ => 0)) (hno : ∀ k i, (k = 19 ∨ k = 20 ∨ k = 21 ∨ k = 22 ∨ k = 2 ∨ k = 3 ∨ k = 16 ∨ k = 17) → (k, i) ∉ dm) : kg_G K Z mX4_init 15 5483 51 [.ref a] [] dm ad ce := by
  refine k_aload_n (pc := 51) dX4_init_51 rfl ?_
  refine k_bipush (pc := 52) (v := 24) dX4_init_52 (by decide +kernel) ?_
  refine k_bipush (pc := 54) (v := 24) dX4_init_54 (by decide +kernel) ?_
  refine k_mna (pc := 56) (kO := 19) (kR := 21) (hno 19 0 (by omega)) (fun i => hno 21 i (by omega)) (by decide) (by decide +kernel) (by decide +kernel) (by rw [hmc]; decide) (by rw [hms]; decide) dX4_init_56 (fun q19 r21 => ?_)
  refine k_putF (pc := 60) (k := 4) (i := 0) (ci := 4) (j := 4) (ty := .array (.array .int)) (ty0 := tyX4) (fs := [.ref (ad 0 0), .ref (ad 18 0), .ref (ad 1 0), .ref (ad 1 1), .null, .null, iv 0, iv 0, iv 0, iv 0]) (by simp [h4]) (by simp [ku, ha]) (by simp [ku, hce4]) rfl (by decide) (by decide +kernel) iw_X4_init_X4 tyX4_ok nmX4 (by decide) rfl rfl rfl rfl (Nat.le_of_ble_eq_true rfl) dX4_init_60 ?_
  refine k_aload_n (pc := 63) dX4_init_63 rfl ?_
  refine k_bipush (pc := 64) (v := 24) dX4_init_64 (by decide +kernel) ?_
  refine k_bipush (pc := 66) (v := 24) dX4_init_66 (by decide +kernel) ?_
  refine k_mna (pc := 68) (kO := 20) (kR := 22) (by simp [hno 20 0]) (fun i => by simp [hno 22 i]) (by decide) (by decide +kernel) (by decide +kernel) (by rw [hmc]; decide) (by rw [hms]; decide) dX4_init_68 (fun q20 r22 => ?_)
  refine k_putF (pc := 72) (k := 4) (i := 0) (ci := 4) (j := 5) (ty := .array (.array .int)) (ty0 := tyX4) (fs := [.ref (ad 0 0), .ref (ad 18 0), .ref (ad 1 0), .ref (ad 1 1), .ref q19, .null, iv 0, iv 0, iv 0, iv 0]) (by simp [h4]) (by simp [ku, ha]) (by simp [ku]) rfl (by decide) (by decide +kernel) iw_X4_init_X4 tyX4_ok nmX4 (by decide) rfl rfl rfl rfl (Nat.le_of_ble_eq_true rfl) dX4_init_72 ?_
  refine k_iconst (pc := 75) (v := 0) dX4_init_75 (by decide +kernel) ?_
  refine k_istore_n (pc := 76) (ls' := [.ref a, iv 0]) dX4_init_76 (Nat.le_of_ble_eq_true rfl) (Nat.le_of_ble_eq_true rfl) rfl ?_
  refine c_X4_loop hP hmc hms hR 24 0 (by decide) rfl _ _ _ (fun _ => none) (by simp [ku, ha]) (by simp [ku, hce18]) (fun j hj => absurd hj (Nat.not_lt_zero j)) (by simp [h18]) (fun k i hi h18' h2' h3' h16' h17' => ?_) (fun k i _ h => absurd h (Nat.not_lt_zero i)) (fun k i hk _ => ?_)
  · have hs := mg_cnt_small hi
    by_cases hbk : k = 0 ∨ k = 1 ∨ k = 10 ∨ k = 11 ∨ k = 12 ∨ k = 13 ∨ k = 14 ∨ k = 15
    · obtain ⟨m1, m2⟩ := hb k i hi hbk
      refine ⟨by simp [m1], ?_⟩
      rcases hbk with rfl | rfl | rfl | rfl | rfl | rfl | rfl | rfl <;> (simp [ku, mg_mk] at m2 ⊢; exact m2)
    · rcases (show k = 4 ∨ k = 6 ∨ k = 7 ∨ k = 8 ∨ k = 9 ∨ k = 19 ∨ k = 20 ∨ k = 21 ∨ k = 22 by omega) with rfl | rfl | rfl | rfl | rfl | rfl | rfl | rfl | rfl
      · have hi0 : i = 0 := by have : i < 1 := hi; omega
        subst hi0
        exact ⟨by simp [h4], by simp [ku, mg_mk]⟩
      · exact absurd hi (Nat.not_lt_zero i)
      · exact absurd hi (Nat.not_lt_zero i)
      · exact absurd hi (Nat.not_lt_zero i)
      · exact absurd hi (Nat.not_lt_zero i)
      · have hi0 : i = 0 := by have : i < 1 := hi; omega
        subst hi0
        exact ⟨by simp, by simp [ku, mg_mk]⟩
      · have hi0 : i = 0 := by have : i < 1 := hi; omega
        subst hi0
        exact ⟨by simp, by simp [ku, mg_mk]⟩
      · have hi0 : i < 24 := hi
        exact ⟨by simp [hi0], by simp [ku, mg_mk, mg_len, mg_lnL]⟩
      · have hi0 : i < 24 := hi
        exact ⟨by simp [hi0], by simp [ku, mg_mk, mg_len, mg_lnL]⟩
  · have := hno k i (by omega)
    have e1 : ¬ (k = 19) := by omega
    have e2 : ¬ (k = 20) := by omega
    have e3 : ¬ (21 = k) := by omega
    have e4 : ¬ (22 = k) := by omega
    simp [this, e1, e2, e3, e4]
set_option maxHeartbeats 4000000 in
theorem c_X4_init (l : Launch) (ha : ad 4 0 = a) (hce : ce 4 0 = .inr (4, [.null, .null, .null, .null, .null, .null, iv 0, iv 0, iv 0, iv 0])) : kg_C l Z mX4_init 161 8195 [.ref a] [(4, 0)] ad ce (fun dm' ad' ce' => dm' = mg_all false ∧ ad' 4 0 = a ∧ ce' = fun k i => mg_mk (ad', Z.2.1) k i (qcs80 k i)) := by
  refine kg_C.of (by decide) rfl rfl rfl (Nat.le_of_ble_eq_true rfl) (List.forall_mem_cons.mpr ⟨rfl, (fun _ h => nomatch h)⟩) (fun K hmc hms hR => ?_)
  refine k_aload_n (pc := 0) dX4_init_0 rfl ?_
  refine k_objInit (pc := 1) (by decide +kernel) (by decide +kernel) (by decide +kernel) (by decide) (Nat.le_of_ble_eq_true rfl) dX4_init_1 ?_
  refine k_aload_n (pc := 4) dX4_init_4 rfl ?_
  refine k_new (pc := 5) (k := 0) (i := 0) (ci := 0) (ty := tyX0) (fs := [.null, iv 0, iv 0]) (by decide +kernel) rfl iw_X4_init_X0 tyX0_ok (by decide +kernel) (by decide +kernel) (by decide +kernel) (fun j hj => by rcases (show j = 0 ∨ j = 1 ∨ j = 2 by omega) with rfl | rfl | rfl <;> rfl) (by rw [hmc]; decide) (by rw [hms]; decide) dX4_init_5 (fun q0 => ?_)
  refine k_dup (pc := 8) dX4_init_8 rfl ?_
  refine k_callIN (pc := 9) (Y' := mX0_init) (As := []) (st := [.ref q0, .ref a]) (c_X0_init K.2.1 (by simp) (ku_at _ _ _ _) (ku_at _ _ _ _) (by decide +kernel)) gX4_init_X0_init_n9 rfl (by decide +kernel) (fun _ h => h.2.2.2.2.1) (by decide +kernel) rfl (na := 0) rfl (by decide +kernel) (by decide) (by decide) (Nat.le_of_ble_eq_true rfl) (by rw [hmc]; decide) (by rw [hms]; decide) dX4_init_9 (fun dm' ad' ce' hp => ?_)
  obtain ⟨q10, rfl, rfl, rfl⟩ := hp
  refine k_putF (pc := 12) (k := 4) (i := 0) (ci := 4) (j := 0) (ty := .object "PumpHouse$Canals") (ty0 := tyX4) (fs := [.null, .null, .null, .null, .null, .null, iv 0, iv 0, iv 0, iv 0]) (by simp) (by simp [ku, ha]) (by simp [ku, hce]) rfl (by decide) (by decide +kernel) iw_X4_init_X4 tyX4_ok nmX4 (by decide) rfl rfl rfl rfl (Nat.le_of_ble_eq_true rfl) dX4_init_12 ?_
  refine k_aload_n (pc := 15) dX4_init_15 rfl ?_
  refine k_bipush (pc := 16) (v := 24) dX4_init_16 (by decide +kernel) ?_
  refine k_newS (pc := 18) (k := 18) (i := 0) (by decide +kernel) (by decide +kernel) (by decide) (by rw [hmc]; decide) (by rw [hms]; decide) dX4_init_18 (fun q18 => ?_)
  refine k_putF (pc := 21) (k := 4) (i := 0) (ci := 4) (j := 1) (ty := .array (.object "PumpHouse$Station")) (ty0 := tyX4) (fs := [.ref q0, .null, .null, .null, .null, .null, iv 0, iv 0, iv 0, iv 0]) (by simp) (by simp [ku, ha]) (by simp [ku]) rfl (by decide) (by decide +kernel) iw_X4_init_X4 tyX4_ok nmX4 (by decide) rfl rfl rfl rfl (Nat.le_of_ble_eq_true rfl) dX4_init_21 ?_
  refine k_aload_n (pc := 24) dX4_init_24 rfl ?_
  refine k_new (pc := 25) (k := 1) (i := 0) (ci := 1) (ty := tyX1) (fs := [.null, .null, .null, .null, .null, iv 0]) (by decide +kernel) rfl iw_X4_init_X1 tyX1_ok (by decide +kernel) (by decide +kernel) (by decide +kernel) (fun j hj => by rcases (show j = 0 ∨ j = 1 ∨ j = 2 ∨ j = 3 ∨ j = 4 ∨ j = 5 by omega) with rfl | rfl | rfl | rfl | rfl | rfl <;> rfl) (by rw [hmc]; decide) (by rw [hms]; decide) dX4_init_25 (fun q1 => ?_)
  refine k_dup (pc := 28) dX4_init_28 rfl ?_
  refine k_sipush (pc := 29) (v := 1024) dX4_init_29 (by decide +kernel) ?_
  refine k_callI (pc := 32) (Y' := mX1_init) (As := [iv 1024]) (st := [.ref q1, .ref a]) (c_X1_init K.2.1 (s := 0) (n := 1024) (by decide) (by simp) (ku_at _ _ _ _) (ku_at _ _ _ _) (by decide +kernel) (by decide +kernel) (by decide +kernel) (by decide +kernel) (by decide +kernel)) gX4_init_X1_init rfl (by decide +kernel) (by decide +kernel) (by decide +kernel) rfl (na := 1) rfl (by decide +kernel) (by decide) (by decide) (Nat.le_of_ble_eq_true rfl) (by rw [hmc]; decide) (by rw [hms]; decide) dX4_init_32 (fun dm' ad' ce' hp => ?_)
  obtain ⟨q11, q12, q13, q14, q15, rfl, rfl, ceA, rfl, a11, a12, a13, a14, a15, ao⟩ := hp
  refine k_putF (pc := 35) (k := 4) (i := 0) (ci := 4) (j := 2) (ty := .object "PumpHouse$Letters") (ty0 := tyX4) (fs := [.ref q0, .ref q18, .null, .null, .null, .null, iv 0, iv 0, iv 0, iv 0]) (by simp) (by simp [ku, ha]) (by simp [ku, ao]) rfl (by decide) (by decide +kernel) iw_X4_init_X4 tyX4_ok nmX4 (by decide) rfl rfl rfl rfl (Nat.le_of_ble_eq_true rfl) dX4_init_35 ?_
  refine k_aload_n (pc := 38) dX4_init_38 rfl ?_
  refine k_new (pc := 39) (k := 1) (i := 1) (ci := 1) (ty := tyX1) (fs := [.null, .null, .null, .null, .null, iv 0]) (by decide +kernel) rfl iw_X4_init_X1 tyX1_ok (by decide +kernel) (by decide +kernel) (by decide +kernel) (fun j hj => by rcases (show j = 0 ∨ j = 1 ∨ j = 2 ∨ j = 3 ∨ j = 4 ∨ j = 5 by omega) with rfl | rfl | rfl | rfl | rfl | rfl <;> rfl) (by rw [hmc]; decide) (by rw [hms]; decide) dX4_init_39 (fun p1 => ?_)
  refine k_dup (pc := 42) dX4_init_42 rfl ?_
  refine k_bipush (pc := 43) (v := 60) dX4_init_43 (by decide +kernel) ?_
  refine k_callI (pc := 45) (Y' := mX1_init) (As := [iv 60]) (st := [.ref p1, .ref a]) (c_X1_init K.2.1 (s := 1) (n := 60) (by decide) (by simp) (ku_at _ _ _ _) (ku_at _ _ _ _) (by decide +kernel) (by decide +kernel) (by decide +kernel) (by decide +kernel) (by decide +kernel)) gX4_init_X1_init rfl (by decide +kernel) (by decide +kernel) (by decide +kernel) rfl (na := 1) rfl (by decide +kernel) (by decide) (by decide) (Nat.le_of_ble_eq_true rfl) (by rw [hmc]; decide) (by rw [hms]; decide) dX4_init_45 (fun dm' ad' ce' hp => ?_)
  obtain ⟨p11, p12, p13, p14, p15, rfl, rfl, ceB, rfl, b11, b12, b13, b14, b15, bo⟩ := hp
  refine k_putF (pc := 48) (k := 4) (i := 0) (ci := 4) (j := 3) (ty := .object "PumpHouse$Letters") (ty0 := tyX4) (fs := [.ref q0, .ref q18, .ref q1, .null, .null, .null, iv 0, iv 0, iv 0, iv 0]) (by simp) (by simp [ku, ha]) (by simp [ku, bo]) rfl (by decide) (by decide +kernel) iw_X4_init_X4 tyX4_ok nmX4 (by decide) rfl rfl rfl rfl (Nat.le_of_ble_eq_true rfl) dX4_init_48 ?_
  refine c_X4_b (P := fun ad' => ad' 4 0 = a) (fun _ h => h) hmc hms hR (by simp [ku, ha]) (by simp) (by simp [ku]) (by simp) (by simp [ku, bo, ao]) (fun k i hi hk => ?_) (fun k i hk => ?_)
  · rcases hk with rfl | rfl | rfl | rfl | rfl | rfl | rfl | rfl
    · have hi0 : i = 0 := by have : i < 1 := hi; omega
      subst hi0
      exact ⟨by simp, by simp [ku, bo, ao, mg_mk]⟩
    · rcases (show i = 0 ∨ i = 1 by have : i < 2 := hi; omega) with rfl | rfl
      · exact ⟨by simp, by simp [ku, bo, mg_mk]⟩
      · exact ⟨by simp, by simp [ku, mg_mk]⟩
    · have hi0 : i = 0 := by have : i < 1 := hi; omega
      subst hi0
      exact ⟨by simp, by simp [ku, bo, ao, mg_mk, mg_len, mg_lnL]⟩
    · rcases (show i = 0 ∨ i = 1 by have : i < 2 := hi; omega) with rfl | rfl
      · exact ⟨by simp, by simp [ku, bo, a11, mg_mk, mg_len, mg_cap]⟩
      · exact ⟨by simp, by simp [ku, b11, mg_mk, mg_len, mg_cap]⟩
    · rcases (show i = 0 ∨ i = 1 by have : i < 2 := hi; omega) with rfl | rfl
      · exact ⟨by simp, by simp [ku, bo, a12, mg_mk, mg_len, mg_cap]⟩
      · exact ⟨by simp, by simp [ku, b12, mg_mk, mg_len, mg_cap]⟩
    · rcases (show i = 0 ∨ i = 1 by have : i < 2 := hi; omega) with rfl | rfl
      · exact ⟨by simp, by simp [ku, bo, a13, mg_mk, mg_len, mg_cap]⟩
      · exact ⟨by simp, by simp [ku, b13, mg_mk, mg_len, mg_cap]⟩
    · rcases (show i = 0 ∨ i = 1 by have : i < 2 := hi; omega) with rfl | rfl
      · exact ⟨by simp, by simp [ku, bo, a14, mg_mk, mg_len, mg_cap]⟩
      · exact ⟨by simp, by simp [ku, b14, mg_mk, mg_len, mg_cap]⟩
    · rcases (show i = 0 ∨ i = 1 by have : i < 2 := hi; omega) with rfl | rfl
      · exact ⟨by simp, by simp [ku, bo, a15, mg_mk, mg_len, mg_cap]⟩
      · exact ⟨by simp, by simp [ku, b15, mg_mk, mg_len, mg_cap]⟩
  · rcases hk with rfl | rfl | rfl | rfl | rfl | rfl | rfl | rfl <;> simp
end XINIT4B
