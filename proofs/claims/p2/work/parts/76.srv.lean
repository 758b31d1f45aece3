/-! ===== serving, letting in, canal ===== -/
theorem mg_cpy_lt {r : Nat → Nat} {M sp dp n : Nat} (h : ∀ i, i < 24 → r i < M) (hs : sp + n ≤ 24) : ∀ i, i < 24 → mg_cpy r sp dp n i < M := by
  intro i hi
  unfold mg_cpy
  split
  · exact h _ (by omega)
  · exact h i hi
section SRV
variable {Z : mg_Zt} {g : mg_F}
def mg_serve (g : mg_F) (s p : Nat) : mg_F := mg_upr (mg_up (mg_upr (mg_upr g 16 s (mg_cpy (g 16 s) (p + 1) p (g 2 s 2 - p - 1))) 17 s (mg_cpy (g 17 s) (p + 1) p (g 2 s 2 - p - 1))) 2 s 2 (g 2 s 2 - 1)) 17 s (mg_in1 (mg_cpy (g 17 s) (p + 1) p (g 2 s 2 - p - 1)) (g 2 s 2 - 1))
/-- X2_serve -/
theorem c_serve (l : Launch) {s p : Nat} (hs : s < 24) (hl : g 2 s 2 ≤ 24) (hp : p < g 2 s 2) (hr : ∀ i, i < 24 → g 17 s i < 2147483647) : mg_C l Z mX2_serve [rv Z 2 s, iv p] g (fun v g' => v = none ∧ g' = mg_serve g s p) := by
  refine mg_C.of (by decide) rfl (Nat.le_of_ble_eq_true rfl) (List.forall_mem_cons.mpr ⟨rfl, (List.forall_mem_cons.mpr ⟨rfl, (fun _ h => nomatch h)⟩)⟩) (fun K => ?_)
  refine g_aload_n (pc := 0) dX2_serve_0 rfl ?_
  refine fg_X2_serve_9 (pc := 1) (by omega) dX2_serve_1 ?_
  refine g_iload_n (pc := 4) dX2_serve_4 rfl ?_
  refine g_aload_n (pc := 5) dX2_serve_5 rfl ?_
  refine fg_X2_serve_18 (pc := 6) (by omega) dX2_serve_6 ?_
  refine g_callNv (pc := 9) (Y' := mX4_closeGap) (As := [rv Z 16 s, iv p, iv (g 2 s 2)]) (st := []) (c_closeGap K.2.1 (g := g) (k := 16) (i := s) (L := 24) (a := p) (n := g 2 s 2) (show s < 24 by omega) (fun _ => rfl) (by decide) (by omega) (by omega)) gX2_serve_X4_closeGap_n36 rfl (fun _ h => h.2.2.2.1) (by decide +kernel) (by decide +kernel) (na := 3) rfl (by decide +kernel) (by decide) (by decide) (Nat.le_of_ble_eq_true rfl) dX2_serve_9 (fun g2 p3 => ?_)
  obtain ⟨-, hg⟩ := p3
  have hg := hg.symm
  subst hg
  refine g_aload_n (pc := 12) dX2_serve_12 rfl ?_
  refine fg_X2_serve_15 (pc := 13) (by omega) dX2_serve_13 ?_
  refine g_iload_n (pc := 16) dX2_serve_16 rfl ?_
  refine g_aload_n (pc := 17) dX2_serve_17 rfl ?_
  refine fg_X2_serve_18 (pc := 18) (by omega) dX2_serve_18 ?_
  refine g_top (b := g 2 s 2) (by simp [mg_up, mg_upr, mg_us]) ?_
  refine g_callNv (pc := 21) (Y' := mX4_closeGap) (As := [rv Z 17 s, iv p, iv (g 2 s 2)]) (st := []) (c_closeGap K.2.1 (g := (mg_upr g 16 s (mg_cpy (g 16 s) (p + 1) p (g 2 s 2 - p - 1)))) (k := 17) (i := s) (L := 24) (a := p) (n := g 2 s 2) (show s < 24 by omega) (fun _ => rfl) (by decide) (by omega) (by omega)) gX2_serve_X4_closeGap_n36 rfl (fun _ h => h.2.2.2.1) (by decide +kernel) (by decide +kernel) (na := 3) rfl (by decide +kernel) (by decide) (by decide) (Nat.le_of_ble_eq_true rfl) dX2_serve_21 (fun g5 p6 => ?_)
  obtain ⟨-, hg⟩ := p6
  have hg := hg.symm
  subst hg
  refine g_aload_n (pc := 24) dX2_serve_24 rfl ?_
  refine g_dup (pc := 25) dX2_serve_25 rfl ?_
  refine fg_X2_serve_18 (pc := 26) (by omega) dX2_serve_26 ?_
  refine g_top (b := g 2 s 2) (by simp [mg_up, mg_upr, mg_us]) ?_
  refine g_iconst (pc := 29) (v := 1) dX2_serve_29 (by decide +kernel) ?_
  refine g_isub (pc := 30) (by omega) dX2_serve_30 ?_
  refine fp_X2_serve_18 (pc := 31) (by omega) dX2_serve_31 ?_
  refine g_iconst (pc := 34) (v := 0) dX2_serve_34 (by decide +kernel) ?_
  refine g_istore_n (pc := 35) (ls' := [rv Z 2 s, iv p, iv 0]) dX2_serve_35 (Nat.le_of_ble_eq_true rfl) (Nat.le_of_ble_eq_true rfl) rfl ?_
  have e2 : (mg_up (mg_upr (mg_upr g 16 s (mg_cpy (g 16 s) (p + 1) p (g 2 s 2 - p - 1))) 17 s (mg_cpy (g 17 s) (p + 1) p (g 2 s 2 - p - 1))) 2 s 2 ((g 2 s 2) - 1)) 2 s 2 = g 2 s 2 - 1 := by simp [mg_up, mg_upr, mg_us]
  have e17 : (mg_up (mg_upr (mg_upr g 16 s (mg_cpy (g 16 s) (p + 1) p (g 2 s 2 - p - 1))) 17 s (mg_cpy (g 17 s) (p + 1) p (g 2 s 2 - p - 1))) 2 s 2 ((g 2 s 2) - 1)) 17 s = mg_cpy (g 17 s) (p + 1) p (g 2 s 2 - p - 1) := by simp [mg_up, mg_upr]
  have h := c_serve_loop (K := K) (Z := Z) (g := mg_up (mg_upr (mg_upr g 16 s (mg_cpy (g 16 s) (p + 1) p (g 2 s 2 - p - 1))) 17 s (mg_cpy (g 17 s) (p + 1) p (g 2 s 2 - p - 1))) 2 s 2 ((g 2 s 2) - 1)) (s := s) (p := p) (post := fun v g' => v = none ∧ g' = mg_serve g s p) hs (by rw [e2]; omega) (by rw [e17]; exact mg_cpy_lt hr (by omega)) ⟨rfl, by rw [e2, e17]; rfl⟩ (g 2 s 2 + 1) 0 (by rw [e2]; omega) (Nat.zero_le _)
  rw [mg_in1_0, mg_upr_id] at h
  exact h
/-- X2_admit -/
theorem c_letin (l : Launch) {s x r : Nat} (hs : s < 24) (hl : g 2 s 2 ≤ 24) (hw : ∀ i, i < 24 → g 16 s i < 4294967296) (hk : ∀ i, i < 24 → g 17 s i < 2147483648) (hx : x < 4294967296) (hr : r < 2147483648) : mg_C l Z mX2_admit [rv Z 2 s, iv x, iv r] g (fun v g' => (mg_own g s x ≠ 4294967294 ∧ v = none ∧ g' = mg_up g 17 s (mg_own g s x) (max (g 17 s (mg_own g s x)) r)) ∨ ((mg_own g s x = 4294967294 ∧ g 2 s 2 = 24) ∧ v = none ∧ g' = g) ∨ ((mg_own g s x = 4294967294 ∧ g 2 s 2 < 24) ∧ v = none ∧ g' = mg_up (mg_up (mg_up g 16 s (g 2 s 2) x) 17 s (g 2 s 2) r) 2 s 2 (g 2 s 2 + 1))) := by
  refine mg_C.of (by decide) rfl (Nat.le_of_ble_eq_true rfl) (List.forall_mem_cons.mpr ⟨rfl, (List.forall_mem_cons.mpr ⟨rfl, (List.forall_mem_cons.mpr ⟨rfl, (fun _ h => nomatch h)⟩)⟩)⟩) (fun K => ?_)
  have ho : mg_own g s x = 4294967294 ∨ mg_own g s x < g 2 s 2 := by rcases mg_fi_or (fun q => g 16 s q = x) (g 2 s 2) with z | z <;> (unfold mg_own; omega)
  refine g_aload_n (pc := 0) dX2_admit_0 rfl ?_
  refine g_iload_n (pc := 1) dX2_admit_1 rfl ?_
  refine g_callVi (pc := 2) (Y' := mX2_placeOf) (As := [iv x]) (st := []) (k := 2) (i := s) (c_placeF K.2.1 (g := g) (s := s) (x := x) (by first | omega | exact hk _ (by omega)) (by first | omega | exact hk _ (by omega)) hw (by first | omega | exact hk _ (by omega))) gX2_admit_X2_placeOf rfl (show s < 24 by omega) rfl rfl (na := 1) rfl (by decide +kernel) (by decide) (by decide) (Nat.le_of_ble_eq_true rfl) dX2_admit_2 (fun r1 g2 p3 => ?_)
  obtain ⟨hv, hg⟩ := p3
  have hg := hg.symm
  subst hg
  have hv := (Option.some.inj hv).symm
  subst hv
  refine g_istore_n (pc := 5) (ls' := [rv Z 2 s, iv x, iv r, iv (mg_own g s x)]) dX2_admit_5 (Nat.le_of_ble_eq_true rfl) (Nat.le_of_ble_eq_true rfl) rfl ?_
  refine g_iload_n (pc := 6) dX2_admit_6 rfl ?_
  refine g_bipush (pc := 7) (v := 4294967294) dX2_admit_7 (by decide +kernel) ?_
  refine g_icmp_ne (pc := 9) 21 dX2_admit_9 (by decide) (by first | omega | exact hk _ (by omega)) (by first | omega | exact hk _ (by omega)) (fun h4 => ?_) (fun h4 => ?_)
  · refine g_aload_n (pc := 21) dX2_admit_21 rfl ?_
    refine fg_X2_admit_15 (pc := 22) (by first | omega | exact hk _ (by omega)) dX2_admit_22 ?_
    refine g_iload_n (pc := 25) dX2_admit_25 rfl ?_
    refine g_aload_n (pc := 26) dX2_admit_26 rfl ?_
    refine fg_X2_admit_15 (pc := 27) (by first | omega | exact hk _ (by omega)) dX2_admit_27 ?_
    refine g_iload_n (pc := 30) dX2_admit_30 rfl ?_
    refine g_iaload (pc := 31) (k := 17) (i := s) (n := 24) (show s < 24 by omega) rfl (by decide) (by first | omega | exact hk _ (by omega)) dX2_admit_31 ?_
    refine g_iload_n (pc := 32) dX2_admit_32 rfl ?_
    refine g_max (pc := 33) (by first | omega | exact hk _ (by omega)) (by first | omega | exact hk _ (by omega)) (by decide +kernel) (by decide +kernel) (by decide +kernel) (by decide +kernel) (by decide) (Nat.le_of_ble_eq_true rfl) dX2_admit_33 ?_
    refine g_iastore (pc := 36) (k := 17) (i := s) (n := 24) (show s < 24 by omega) (fun _ => rfl) (by decide) (by first | omega | exact hk _ (by omega)) dX2_admit_36 ?_
    exact g_ret (pc := 37) dX2_admit_37 trivial (by first | exact Or.inl ⟨by omega, rfl, rfl⟩ | exact Or.inr (Or.inl ⟨by omega, rfl, rfl⟩) | exact Or.inr (Or.inr ⟨by omega, rfl, rfl⟩))
  · refine g_aload_n (pc := 12) dX2_admit_12 rfl ?_
    refine g_iload_n (pc := 13) dX2_admit_13 rfl ?_
    refine g_iload_n (pc := 14) dX2_admit_14 rfl ?_
    refine g_callVv (pc := 15) (Y' := mX2_add) (As := [iv x, iv r]) (st := []) (k := 2) (i := s) (c_ladd K.2.1 (g := g) (s := s) (by first | omega | exact hk _ (by omega)) (by first | omega | exact hk _ (by omega))) gX2_admit_X2_add rfl (show s < 24 by omega) rfl rfl (na := 2) rfl (by decide +kernel) (by decide) (by decide) (Nat.le_of_ble_eq_true rfl) dX2_admit_15 (fun g6 p7 => ?_)
    rcases p7 with ⟨hfull, -, hg⟩ | ⟨hroom, -, hg⟩
    · have hg := hg.symm
      subst hg
      refine g_goto (pc := 18) 37 dX2_admit_18 (by decide) ?_
      exact g_ret (pc := 37) dX2_admit_37 trivial (by first | exact Or.inl ⟨by omega, rfl, rfl⟩ | exact Or.inr (Or.inl ⟨by omega, rfl, rfl⟩) | exact Or.inr (Or.inr ⟨by omega, rfl, rfl⟩))
    · have hg := hg.symm
      subst hg
      refine g_goto (pc := 18) 37 dX2_admit_18 (by decide) ?_
      exact g_ret (pc := 37) dX2_admit_37 trivial (by first | exact Or.inl ⟨by omega, rfl, rfl⟩ | exact Or.inr (Or.inl ⟨by omega, rfl, rfl⟩) | exact Or.inr (Or.inr ⟨by omega, rfl, rfl⟩))
/-- X0_clear -/
theorem c_cclear (l : Launch) {n : Nat} : mg_C l Z mX0_clear [rv Z 0 0, iv n] g (fun v g' => v = none ∧ g' = mg_up (mg_up (mg_upr g 10 0 (mg_fl (g 10 0) 24 0)) 0 0 1 n) 0 0 2 0) := by
  refine mg_C.of (by decide) rfl (Nat.le_of_ble_eq_true rfl) (List.forall_mem_cons.mpr ⟨rfl, (List.forall_mem_cons.mpr ⟨rfl, (fun _ h => nomatch h)⟩)⟩) (fun K => ?_)
  refine g_aload_n (pc := 0) dX0_clear_0 rfl ?_
  refine fg_X0_clear_9 (pc := 1) dX0_clear_1 ?_
  refine g_iconst (pc := 4) (v := 0) dX0_clear_4 (by decide +kernel) ?_
  refine g_callSv (pc := 5) (Y' := mJ7_fill_53178) (As := [rv Z 10 0, iv 0]) (st := []) (c_fill K.2.1 (g := g) (k := 10) (i := 0) (n := 24) (v := 0) (show 0 < 1 by omega) (fun _ => rfl) (by decide)) gX0_clear_J7_fill_53178 rfl (na := 2) rfl (by decide +kernel) (by decide) (by decide) (Nat.le_of_ble_eq_true rfl) dX0_clear_5 (fun g2 p3 => ?_)
  obtain ⟨-, hg⟩ := p3
  have hg := hg.symm
  subst hg
  refine g_aload_n (pc := 8) dX0_clear_8 rfl ?_
  refine g_iload_n (pc := 9) dX0_clear_9 rfl ?_
  refine fp_X0_clear_21 (pc := 10) dX0_clear_10 ?_
  refine g_aload_n (pc := 13) dX0_clear_13 rfl ?_
  refine g_iconst (pc := 14) (v := 0) dX0_clear_14 (by decide +kernel) ?_
  refine fp_X0_clear_25 (pc := 15) dX0_clear_15 ?_
  exact g_ret (pc := 18) dX0_clear_18 trivial ⟨rfl, rfl⟩
def mg_canal (g : mg_F) (n : Nat) : mg_F := mg_up (mg_up (mg_upr (mg_up g 4 0 6 0) 10 0 (mg_fl (g 10 0) 24 0)) 0 0 1 n) 0 0 2 0
theorem c_canal (l : Launch) {n : Nat} (hn : n < 4294967296) : mg_C l Z mX4_canal [rv Z 4 0, iv n] g (fun v g' => (¬ (2 ≤ n ∧ n ≤ 24) ∧ v = some 4294967295 ∧ g' = g) ∨ ((2 ≤ n ∧ n ≤ 24) ∧ v = some 0 ∧ g' = mg_canal g n)) := by
  refine mg_C.of (by decide) rfl (Nat.le_of_ble_eq_true rfl) (List.forall_mem_cons.mpr ⟨rfl, (List.forall_mem_cons.mpr ⟨rfl, (fun _ h => nomatch h)⟩)⟩) (fun K => ?_)
  refine g_iload_n (pc := 0) dX4_canal_0 rfl ?_
  refine g_iconst (pc := 1) (v := 2) dX4_canal_1 (by decide +kernel) ?_
  refine g_rcmp_lt (pc := 2) 11 dX4_canal_2 (by decide) (by omega) (by omega) (fun h1 => ?_) (fun h1 => ?_)
  · refine g_iconst (pc := 11) (v := 4294967295) dX4_canal_11 (by decide +kernel) ?_
    exact g_iret (pc := 12) dX4_canal_12 ⟨mg_narI _, Or.inl rfl⟩ (by first | exact Or.inl ⟨by omega, rfl, rfl⟩ | exact Or.inr ⟨by omega, rfl, rfl⟩)
  · refine g_iload_n (pc := 5) dX4_canal_5 rfl ?_
    refine g_bipush (pc := 6) (v := 24) dX4_canal_6 (by decide +kernel) ?_
    refine g_rcmp_le (pc := 8) 13 dX4_canal_8 (by decide) (by omega) (by omega) (fun h2 => ?_) (fun h2 => ?_)
    · refine g_aload_n (pc := 13) dX4_canal_13 rfl ?_
      refine g_iconst (pc := 14) (v := 0) dX4_canal_14 (by decide +kernel) ?_
      refine fp_X4_canal_55 (pc := 15) (by decide) dX4_canal_15 ?_
      refine g_aload_n (pc := 18) dX4_canal_18 rfl ?_
      refine fg_X4_canal_10 (pc := 19) dX4_canal_19 ?_
      refine g_iload_n (pc := 22) dX4_canal_22 rfl ?_
      refine g_callVv (pc := 23) (Y' := mX0_clear) (As := [iv n]) (st := []) (k := 0) (i := 0) (c_cclear K.2.1 (g := (mg_up g 4 0 6 0)) (n := n)) gX4_canal_X0_clear rfl (show 0 < 1 by omega) rfl rfl (na := 1) rfl (by decide +kernel) (by decide) (by decide) (Nat.le_of_ble_eq_true rfl) dX4_canal_23 (fun g4 p5 => ?_)
      obtain ⟨-, hg⟩ := p5
      have hg := hg.symm
      subst hg
      refine g_iconst (pc := 26) (v := 0) dX4_canal_26 (by decide +kernel) ?_
      exact g_iret (pc := 27) dX4_canal_27 ⟨mg_narI _, Or.inl rfl⟩ (by first | exact Or.inl ⟨by omega, rfl, rfl⟩ | exact Or.inr ⟨by omega, rfl, rfl⟩)
    · refine g_iconst (pc := 11) (v := 4294967295) dX4_canal_11 (by decide +kernel) ?_
      exact g_iret (pc := 12) dX4_canal_12 ⟨mg_narI _, Or.inl rfl⟩ (by first | exact Or.inl ⟨by omega, rfl, rfl⟩ | exact Or.inr ⟨by omega, rfl, rfl⟩)
end SRV
