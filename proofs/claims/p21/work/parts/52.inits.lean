/-! ===== the small constructors ===== -/
theorem iw_X0_init_X0 : ∀ w ∈ wsX00, w ∈ wsX0_init := fun w h => List.mem_cons.mpr (Or.inr (List.mem_append.mpr (Or.inr h)))
theorem iw_X1_init_X1 : ∀ w ∈ wsX10, w ∈ wsX1_init := fun w h => List.mem_cons.mpr (Or.inr (List.mem_append.mpr (Or.inr h)))
theorem iw_X2_init_X2 : ∀ w ∈ wsX20, w ∈ wsX2_init := fun w h => List.mem_cons.mpr (Or.inr (List.mem_append.mpr (Or.inr h)))
theorem iw_X3_init_X3 : ∀ w ∈ wsX30, w ∈ wsX3_init := fun w h => List.mem_cons.mpr (Or.inr (List.mem_append.mpr (Or.inr h)))
theorem iw_X3_init_X2 : ∀ w ∈ wsX20, w ∈ wsX3_init := fun w h => List.mem_cons.mpr (Or.inr (List.mem_append.mpr (Or.inl (List.mem_append.mpr (Or.inr h)))))
abbrev kz (c : ClassId) (n : Nat) : va_E := .inl (c, n, .inl (fun _ => nI 0))
section INITS
variable {Z : kg_Zt} {dm : List (Nat × Nat)} {ad : Nat → Nat → Nat} {ce : Nat → Nat → va_E} {a s : Nat}
theorem c_X0_init (l : Launch) (hin : (0, 0) ∈ dm) (ha : ad 0 0 = a) (hce : ce 0 0 = .inr (0, [.null, iv 0, iv 0])) (hn : (10, 0) ∉ dm) : kg_C l Z mX0_init 1 24 [.ref a] dm ad ce (fun dm' ad' ce' => ∃ q, dm' = dm ++ [(10, 0)] ∧ ad' = ku ad 10 0 q ∧ ce' = ku (ku ce 10 0 (kz Z.2.1.1 24)) 0 0 (.inr (0, [.ref q, iv 0, iv 0]))) := by
  refine kg_C.of (by decide) rfl rfl rfl (Nat.le_of_ble_eq_true rfl) (List.forall_mem_cons.mpr ⟨rfl, (fun _ h => nomatch h)⟩) (fun K hmc hms hR => ?_)
  refine k_aload_n (pc := 0) dX0_init_0 rfl ?_
  refine k_objInit (pc := 1) (by decide +kernel) (by decide +kernel) (by decide +kernel) (by decide) (Nat.le_of_ble_eq_true rfl) dX0_init_1 ?_
  refine k_aload_n (pc := 4) dX0_init_4 rfl ?_
  refine k_bipush (pc := 5) (v := 24) dX0_init_5 (by decide +kernel) ?_
  refine k_newI (pc := 7) (k := 10) (i := 0) hn (by decide +kernel) (by decide) (by rw [hmc]; decide) (by rw [hms]; decide) dX0_init_7 (fun q => ?_)
  refine k_putF (pc := 9) (k := 0) (i := 0) (ci := 0) (j := 0) (ty := .array .int) (ty0 := tyX0) (List.mem_append_left _ hin) ((ku_ne _ _ (by omega)).trans ha) ((ku_ne _ _ (by omega)).trans hce) rfl (by decide) (by decide +kernel) iw_X0_init_X0 tyX0_ok nmX0 (by decide) rfl rfl rfl rfl (Nat.le_of_ble_eq_true rfl) dX0_init_9 ?_
  exact k_ret hR (by rw [hmc]; decide) (by rw [hms]; decide) dX0_init_12 ⟨q, rfl, rfl, rfl⟩
/-- a queue's two rows -/
theorem c_X2_init (l : Launch) (hin : (2, s) ∈ dm) (ha : ad 2 s = a) (hce : ce 2 s = .inr (2, [.null, .null, iv 0])) (hn : (16, s) ∉ dm) (hn' : (17, s) ∉ dm) : kg_C l Z mX2_init 2 48 [.ref a] dm ad ce (fun dm' ad' ce' => ∃ q q', dm' = (dm ++ [(16, s)]) ++ [(17, s)] ∧ ad' = ku (ku ad 16 s q) 17 s q' ∧ ce' = ku (ku (ku (ku ce 16 s (kz Z.2.1.1 24)) 2 s (.inr (2, [.ref q, .null, iv 0]))) 17 s (kz Z.2.1.1 24)) 2 s (.inr (2, [.ref q, .ref q', iv 0]))) := by
  refine kg_C.of (by decide) rfl rfl rfl (Nat.le_of_ble_eq_true rfl) (List.forall_mem_cons.mpr ⟨rfl, (fun _ h => nomatch h)⟩) (fun K hmc hms hR => ?_)
  refine k_aload_n (pc := 0) dX2_init_0 rfl ?_
  refine k_objInit (pc := 1) (by decide +kernel) (by decide +kernel) (by decide +kernel) (by decide) (Nat.le_of_ble_eq_true rfl) dX2_init_1 ?_
  refine k_aload_n (pc := 4) dX2_init_4 rfl ?_
  refine k_bipush (pc := 5) (v := 24) dX2_init_5 (by decide +kernel) ?_
  refine k_newI (pc := 7) (k := 16) (i := s) hn (by decide +kernel) (by decide) (by rw [hmc]; decide) (by rw [hms]; decide) dX2_init_7 (fun q => ?_)
  refine k_putF (pc := 9) (k := 2) (i := s) (ci := 2) (j := 0) (ty := .array .int) (ty0 := tyX2) (List.mem_append_left _ hin) ((ku_ne _ _ (by omega)).trans ha) ((ku_ne _ _ (by omega)).trans hce) rfl (by decide) (by decide +kernel) iw_X2_init_X2 tyX2_ok nmX2 (by decide) rfl rfl rfl rfl (Nat.le_of_ble_eq_true rfl) dX2_init_9 ?_
  refine k_aload_n (pc := 12) dX2_init_12 rfl ?_
  refine k_bipush (pc := 13) (v := 24) dX2_init_13 (by decide +kernel) ?_
  refine k_newI (pc := 15) (k := 17) (i := s) (by simp; exact hn') (by decide +kernel) (by decide) (by rw [hmc]; decide) (by rw [hms]; decide) dX2_init_15 (fun q' => ?_)
  refine k_putF (pc := 17) (k := 2) (i := s) (ci := 2) (j := 1) (ty := .array .int) (ty0 := tyX2) (fs := [.ref q, .null, iv 0]) (List.mem_append_left _ (List.mem_append_left _ hin)) ((ku_ne _ _ (by omega)).trans ((ku_ne _ _ (by omega)).trans ha)) ((ku_ne _ _ (by omega)).trans (ku_at _ _ _ _)) rfl (by decide) (by decide +kernel) iw_X2_init_X2 tyX2_ok nmX2 (by decide) rfl rfl rfl rfl (Nat.le_of_ble_eq_true rfl) dX2_init_17 ?_
  exact k_ret hR (by rw [hmc]; decide) (by rw [hms]; decide) dX2_init_20 ⟨q, q', rfl, rfl, rfl⟩
/-- a station with its queue -/
theorem c_X3_init (l : Launch) (hin : (3, s) ∈ dm) (ha : ad 3 s = a) (hce : ce 3 s = .inr (3, [iv 0, .null, iv 0, iv 0, iv 0, iv 0, iv 0, iv 0, iv 0, iv 0, iv 0, iv 0])) (h2 : (2, s) ∉ dm) (hn : (16, s) ∉ dm) (hn' : (17, s) ∉ dm) : kg_C l Z mX3_init 3 51 [.ref a, iv s] dm ad ce (fun dm' ad' ce' => ∃ q1 q2 q3, dm' = ((dm ++ [(2, s)]) ++ [(16, s)]) ++ [(17, s)] ∧ ad' = ku (ku (ku ad 2 s q1) 16 s q2) 17 s q3 ∧ ∃ ce0 : Nat → Nat → va_E, ce' = ku ce0 3 s (.inr (3, [iv s, .ref q1, iv 0, iv 0, iv 0, iv 0, iv 0, iv 0, iv 0, iv 0, iv 0, iv 0])) ∧ ce0 2 s = .inr (2, [.ref q2, .ref q3, iv 0]) ∧ ce0 16 s = kz Z.2.1.1 24 ∧ ce0 17 s = kz Z.2.1.1 24 ∧ ∀ k i, ¬ (i = s ∧ (k = 2 ∨ k = 3 ∨ k = 16 ∨ k = 17)) → ce0 k i = ce k i) := by
  refine kg_C.of (by decide) rfl rfl rfl (Nat.le_of_ble_eq_true rfl) (List.forall_mem_cons.mpr ⟨rfl, (List.forall_mem_cons.mpr ⟨rfl, (fun _ h => nomatch h)⟩)⟩) (fun K hmc hms hR => ?_)
  refine k_aload_n (pc := 0) dX3_init_0 rfl ?_
  refine k_objInit (pc := 1) (by decide +kernel) (by decide +kernel) (by decide +kernel) (by decide) (Nat.le_of_ble_eq_true rfl) dX3_init_1 ?_
  refine k_aload_n (pc := 4) dX3_init_4 rfl ?_
  refine k_new (pc := 5) (k := 2) (i := s) (ci := 2) (ty := tyX2) (fs := [.null, .null, iv 0]) h2 rfl iw_X3_init_X2 tyX2_ok (by decide +kernel) (by decide +kernel) (by decide +kernel) (fun j hj => by rcases (show j = 0 ∨ j = 1 ∨ j = 2 by omega) with rfl | rfl | rfl <;> rfl) (by rw [hmc]; decide) (by rw [hms]; decide) dX3_init_5 (fun q1 => ?_)
  refine k_dup (pc := 8) dX3_init_8 rfl ?_
  refine k_callIN (pc := 9) (Y' := mX2_init) (As := []) (st := [.ref q1, .ref a]) (c_X2_init K.2.1 (s := s) (by simp) (ku_at _ _ _ _) (ku_at _ _ _ _) (by simp; exact hn) (by simp; exact hn')) gX3_init_X2_init_n11 rfl (by decide +kernel) (fun _ h => h.2.2.2.2.2.1) (by decide +kernel) rfl (na := 0) rfl (by decide +kernel) (by decide) (by decide) (Nat.le_of_ble_eq_true rfl) (by rw [hmc]; decide) (by rw [hms]; decide) dX3_init_9 (fun dm' ad' ce' hp => ?_)
  obtain ⟨q2, q3, rfl, rfl, rfl⟩ := hp
  refine k_putF (pc := 12) (k := 3) (i := s) (ci := 3) (j := 1) (ty := .object "PumpHouse$Line") (ty0 := tyX3) (fs := [iv 0, .null, iv 0, iv 0, iv 0, iv 0, iv 0, iv 0, iv 0, iv 0, iv 0, iv 0]) (List.mem_append_left _ (List.mem_append_left _ (List.mem_append_left _ hin))) ((ku_ne _ _ (by omega)).trans ((ku_ne _ _ (by omega)).trans ((ku_ne _ _ (by omega)).trans ha))) ((ku_ne _ _ (by omega)).trans ((ku_ne _ _ (by omega)).trans ((ku_ne _ _ (by omega)).trans ((ku_ne _ _ (by omega)).trans ((ku_ne _ _ (by omega)).trans hce))))) rfl (by decide) (by decide +kernel) iw_X3_init_X3 tyX3_ok nmX3 (by decide) rfl rfl rfl rfl (Nat.le_of_ble_eq_true rfl) dX3_init_12 ?_
  refine k_aload_n (pc := 15) dX3_init_15 rfl ?_
  refine k_iload_n (pc := 16) dX3_init_16 rfl ?_
  refine k_putF (pc := 17) (k := 3) (i := s) (ci := 3) (j := 0) (ty := .int) (ty0 := tyX3) (fs := [iv 0, .ref q1, iv 0, iv 0, iv 0, iv 0, iv 0, iv 0, iv 0, iv 0, iv 0, iv 0]) (List.mem_append_left _ (List.mem_append_left _ (List.mem_append_left _ hin))) ((ku_ne _ _ (by omega)).trans ((ku_ne _ _ (by omega)).trans ((ku_ne _ _ (by omega)).trans ha))) (ku_at _ _ _ _) rfl (by decide) (by decide +kernel) iw_X3_init_X3 tyX3_ok nmX3 (by decide) rfl rfl rfl rfl (Nat.le_of_ble_eq_true rfl) dX3_init_17 ?_
  refine k_ret hR (by rw [hmc]; decide) (by rw [hms]; decide) dX3_init_20 ⟨q1, q2, q3, rfl, rfl, _, rfl, ?_, ?_, ?_, fun k i h => ?_⟩
  · simp [ku]
  · simp [ku]
  · simp [ku]
  · have e1 : ¬ (k = 3 ∧ i = s) := fun z => h ⟨z.2, Or.inr (Or.inl z.1)⟩
    have e2 : ¬ (k = 2 ∧ i = s) := fun z => h ⟨z.2, Or.inl z.1⟩
    have e3 : ¬ (k = 16 ∧ i = s) := fun z => h ⟨z.2, Or.inr (Or.inr (Or.inl z.1))⟩
    have e4 : ¬ (k = 17 ∧ i = s) := fun z => h ⟨z.2, Or.inr (Or.inr (Or.inr z.1))⟩
    simp [ku, e1, e2, e3, e4]
/-- letters' five rows, each of n -/
theorem c_X1_init (l : Launch) {n : Nat} (hn0 : n ≤ 100000) (hin : (1, s) ∈ dm) (ha : ad 1 s = a) (hce : ce 1 s = .inr (1, [.null, .null, .null, .null, .null, iv 0])) (h1 : (11, s) ∉ dm) (h2 : (12, s) ∉ dm) (h3 : (13, s) ∉ dm) (h4 : (14, s) ∉ dm) (h5 : (15, s) ∉ dm) : kg_C l Z mX1_init 5 (5 * n) [.ref a, iv n] dm ad ce (fun dm' ad' ce' => ∃ q1 q2 q3 q4 q5, dm' = ((((dm ++ [(11, s)]) ++ [(12, s)]) ++ [(13, s)]) ++ [(14, s)]) ++ [(15, s)] ∧ ad' = ku (ku (ku (ku (ku ad 11 s q1) 12 s q2) 13 s q3) 14 s q4) 15 s q5 ∧ ∃ ce0 : Nat → Nat → va_E, ce' = ku ce0 1 s (.inr (1, [.ref q1, .ref q2, .ref q3, .ref q4, .ref q5, iv 0])) ∧ ce0 11 s = kz Z.2.1.1 n ∧ ce0 12 s = kz Z.2.1.1 n ∧ ce0 13 s = kz Z.2.1.1 n ∧ ce0 14 s = kz Z.2.1.1 n ∧ ce0 15 s = kz Z.2.1.1 n ∧ ∀ k i, ¬ (i = s ∧ (k = 1 ∨ k = 11 ∨ k = 12 ∨ k = 13 ∨ k = 14 ∨ k = 15)) → ce0 k i = ce k i) := by
  refine kg_C.of (by decide) rfl rfl rfl (Nat.le_of_ble_eq_true rfl) (List.forall_mem_cons.mpr ⟨rfl, (List.forall_mem_cons.mpr ⟨rfl, (fun _ h => nomatch h)⟩)⟩) (fun K hmc hms hR => ?_)
  refine k_aload_n (pc := 0) dX1_init_0 rfl ?_
  refine k_objInit (pc := 1) (by decide +kernel) (by decide +kernel) (by decide +kernel) (by decide) (Nat.le_of_ble_eq_true rfl) dX1_init_1 ?_
  refine k_aload_n (pc := 4) dX1_init_4 rfl ?_
  refine k_iload_n (pc := 5) dX1_init_5 rfl ?_
  refine k_newI (pc := 6) (k := 11) (i := s) h1 (by decide +kernel) hn0 (by rw [hmc]; decide) (by rw [hms]; omega) dX1_init_6 (fun q1 => ?_)
  refine k_putF (pc := 8) (k := 1) (i := s) (ci := 1) (j := 0) (ty := .array .int) (ty0 := tyX1) (List.mem_append_left _ hin) ((ku_ne _ _ (by omega)).trans ha) ((ku_ne _ _ (by omega)).trans hce) rfl (by decide) (by decide +kernel) iw_X1_init_X1 tyX1_ok nmX1 (by decide) rfl rfl rfl rfl (Nat.le_of_ble_eq_true rfl) dX1_init_8 ?_
  refine k_aload_n (pc := 11) dX1_init_11 rfl ?_
  refine k_iload_n (pc := 12) dX1_init_12 rfl ?_
  refine k_newI (pc := 13) (k := 12) (i := s) (by simp; exact h2) (by decide +kernel) hn0 (by rw [hmc]; decide) (by rw [hms]; omega) dX1_init_13 (fun q2 => ?_)
  refine k_putF (pc := 15) (k := 1) (i := s) (ci := 1) (j := 1) (ty := .array .int) (ty0 := tyX1) (fs := [.ref q1, .null, .null, .null, .null, iv 0]) (by simp [hin]) (by simp [ku, ha]) (by simp [ku]) rfl (by decide) (by decide +kernel) iw_X1_init_X1 tyX1_ok nmX1 (by decide) rfl rfl rfl rfl (Nat.le_of_ble_eq_true rfl) dX1_init_15 ?_
  refine k_aload_n (pc := 18) dX1_init_18 rfl ?_
  refine k_iload_n (pc := 19) dX1_init_19 rfl ?_
  refine k_newI (pc := 20) (k := 13) (i := s) (by simp; exact h3) (by decide +kernel) hn0 (by rw [hmc]; decide) (by rw [hms]; omega) dX1_init_20 (fun q3 => ?_)
  refine k_putF (pc := 22) (k := 1) (i := s) (ci := 1) (j := 2) (ty := .array .int) (ty0 := tyX1) (fs := [.ref q1, .ref q2, .null, .null, .null, iv 0]) (by simp [hin]) (by simp [ku, ha]) (by simp [ku]) rfl (by decide) (by decide +kernel) iw_X1_init_X1 tyX1_ok nmX1 (by decide) rfl rfl rfl rfl (Nat.le_of_ble_eq_true rfl) dX1_init_22 ?_
  refine k_aload_n (pc := 25) dX1_init_25 rfl ?_
  refine k_iload_n (pc := 26) dX1_init_26 rfl ?_
  refine k_newI (pc := 27) (k := 14) (i := s) (by simp; exact h4) (by decide +kernel) hn0 (by rw [hmc]; decide) (by rw [hms]; omega) dX1_init_27 (fun q4 => ?_)
  refine k_putF (pc := 29) (k := 1) (i := s) (ci := 1) (j := 3) (ty := .array .int) (ty0 := tyX1) (fs := [.ref q1, .ref q2, .ref q3, .null, .null, iv 0]) (by simp [hin]) (by simp [ku, ha]) (by simp [ku]) rfl (by decide) (by decide +kernel) iw_X1_init_X1 tyX1_ok nmX1 (by decide) rfl rfl rfl rfl (Nat.le_of_ble_eq_true rfl) dX1_init_29 ?_
  refine k_aload_n (pc := 32) dX1_init_32 rfl ?_
  refine k_iload_n (pc := 33) dX1_init_33 rfl ?_
  refine k_newI (pc := 34) (k := 15) (i := s) (by simp; exact h5) (by decide +kernel) hn0 (by rw [hmc]; decide) (by rw [hms]; omega) dX1_init_34 (fun q5 => ?_)
  refine k_putF (pc := 36) (k := 1) (i := s) (ci := 1) (j := 4) (ty := .array .int) (ty0 := tyX1) (fs := [.ref q1, .ref q2, .ref q3, .ref q4, .null, iv 0]) (by simp [hin]) (by simp [ku, ha]) (by simp [ku]) rfl (by decide) (by decide +kernel) iw_X1_init_X1 tyX1_ok nmX1 (by decide) rfl rfl rfl rfl (Nat.le_of_ble_eq_true rfl) dX1_init_36 ?_
  refine k_ret hR (by rw [hmc]; decide) (by rw [hms]; omega) dX1_init_39 ⟨q1, q2, q3, q4, q5, rfl, rfl, _, rfl, ?_, ?_, ?_, ?_, ?_, fun k i h => ?_⟩
  · simp [ku]
  · simp [ku]
  · simp [ku]
  · simp [ku]
  · simp [ku]
  · have e1 : ¬ (k = 1 ∧ i = s) := fun z => h ⟨z.2, Or.inl z.1⟩
    have e2 : ¬ (k = 11 ∧ i = s) := fun z => h ⟨z.2, Or.inr (Or.inl z.1)⟩
    have e3 : ¬ (k = 12 ∧ i = s) := fun z => h ⟨z.2, Or.inr (Or.inr (Or.inl z.1))⟩
    have e4 : ¬ (k = 13 ∧ i = s) := fun z => h ⟨z.2, Or.inr (Or.inr (Or.inr (Or.inl z.1)))⟩
    have e5 : ¬ (k = 14 ∧ i = s) := fun z => h ⟨z.2, Or.inr (Or.inr (Or.inr (Or.inr (Or.inl z.1))))⟩
    have e6 : ¬ (k = 15 ∧ i = s) := fun z => h ⟨z.2, Or.inr (Or.inr (Or.inr (Or.inr (Or.inr z.1))))⟩
    simp [ku, e1, e2, e3, e4, e5, e6]
end INITS
