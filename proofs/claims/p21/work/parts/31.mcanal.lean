/-! ===== the reference's canal ===== -/
section MCANAL
variable {K : mg_Kt} {D : va_G} {E : mg_E} {B : Nat} {g : mg_F} {n : Nat}
theorem c_mcanal_loop (post : Option Nat → mg_F → Prop) (hp : post (some 0) (mg_upr g 35 0 (mg_fl (g 35 0) 576 0))) : ∀ (m j : Nat), j ≤ 576 → 576 - j = m → mg_G K (D, E, true, B) mX5_canal post 30 [rv (D, E, true, B) 5 0, iv n, iv j] [] (mg_upr g 35 0 (mg_fl (g 35 0) j 0)) := by
  intro m
  induction m with
  | zero =>
    intro j hj hm0
    have e : j = 576 := by omega
    subst e
    refine g_iload_n (pc := 30) dX5_canal_30 rfl ?_
    refine g_sipush (pc := 31) (v := 576) dX5_canal_31 (by decide +kernel) ?_
    refine g_icmp_ge (pc := 34) 50 dX5_canal_34 (by decide) (by decide) (by decide) (fun _ => ?_) (fun h => absurd (Nat.le_refl _) h)
    refine g_iconst (pc := 50) (v := 0) dX5_canal_50 (by decide +kernel) ?_
    exact g_iret dX5_canal_51 ⟨mg_narI _, Or.inl rfl⟩ hp
  | succ m ih =>
    intro j hj hm0
    refine g_iload_n (pc := 30) dX5_canal_30 rfl ?_
    refine g_sipush (pc := 31) (v := 576) dX5_canal_31 (by decide +kernel) ?_
    refine g_icmp_ge (pc := 34) 50 dX5_canal_34 (by decide) (by omega) (by decide) (fun h => absurd h (by omega)) (fun _ => ?_)
    refine g_aload_n (pc := 37) dX5_canal_37 rfl ?_
    refine fg_X5_canal_7 (pc := 38) rfl dX5_canal_38 ?_
    refine g_iload_n (pc := 41) dX5_canal_41 rfl ?_
    refine g_iconst (pc := 42) (v := 0) dX5_canal_42 (by decide +kernel) ?_
    refine g_bastore (pc := 43) (k := 35) (i := 0) (n := 576) (show 0 < 1 by omega) (fun _ => rfl) (by decide) (by omega) (by decide) dX5_canal_43 ?_
    refine g_iinc (pc := 44) (v := j + 1) (ls' := [rv (D, E, true, B) 5 0, iv n, iv (j + 1)]) dX5_canal_44 (Nat.le_of_ble_eq_true rfl) rfl (mg_inc j) rfl ?_
    refine g_goto (pc := 47) 30 dX5_canal_47 (by decide) ?_
    rw [mg_up_upr, mg_fl_s]
    exact ih (j + 1) (by omega) (by omega)
/-- the reference's cells behind canal(n) -/
def mc_canal (g : mg_F) (n : Nat) : mg_F := mg_upr (mg_up (mg_up (mg_up g 5 0 0 n) 5 0 1 0) 5 0 4 0) 35 0 (mg_fl (g 35 0) 576 0)
theorem c_mcanal (l : Launch) (h1 : 2 ≤ n) (h2 : n ≤ 24) : mg_C l (D, E, true, B) mX5_canal [rv (D, E, true, B) 5 0, iv n] g (fun v g' => v = some 0 ∧ g' = mc_canal g n) := by
  refine mg_C.of (by decide) rfl (Nat.le_of_ble_eq_true rfl) (List.forall_mem_cons.mpr ⟨rfl, (List.forall_mem_cons.mpr ⟨rfl, (fun _ h => nomatch h)⟩)⟩) (fun K => ?_)
  refine g_iload_n (pc := 0) dX5_canal_0 rfl ?_
  refine g_iconst (pc := 1) (v := 2) dX5_canal_1 (by decide +kernel) ?_
  refine g_icmp_lt (pc := 2) 11 dX5_canal_2 (by decide) (by omega) (by decide) (fun h => absurd h (by omega)) (fun _ => ?_)
  refine g_iload_n (pc := 5) dX5_canal_5 rfl ?_
  refine g_bipush (pc := 6) (v := 24) dX5_canal_6 (by decide +kernel) ?_
  refine g_icmp_le (pc := 8) 13 dX5_canal_8 (by decide) (by omega) (by decide) (fun _ => ?_) (fun h => absurd (by omega) h)
  refine g_aload_n (pc := 13) dX5_canal_13 rfl ?_
  refine g_iload_n (pc := 14) dX5_canal_14 rfl ?_
  refine fp_X5_canal_101 (pc := 15) rfl dX5_canal_15 ?_
  refine g_aload_n (pc := 18) dX5_canal_18 rfl ?_
  refine g_iconst (pc := 19) (v := 0) dX5_canal_19 (by decide +kernel) ?_
  refine fp_X5_canal_105 (pc := 20) rfl (by decide) dX5_canal_20 ?_
  refine g_aload_n (pc := 23) dX5_canal_23 rfl ?_
  refine g_iconst (pc := 24) (v := 0) dX5_canal_24 (by decide +kernel) ?_
  refine fp_X5_canal_113 (pc := 25) rfl dX5_canal_25 ?_
  refine g_iconst (pc := 28) (v := 0) dX5_canal_28 (by decide +kernel) ?_
  refine g_istore_n (pc := 29) (ls' := [rv (D, E, true, B) 5 0, iv n, iv 0]) dX5_canal_29 (Nat.le_of_ble_eq_true rfl) (Nat.le_of_ble_eq_true rfl) rfl ?_
  have h := c_mcanal_loop (K := K) (D := D) (E := E) (B := B) (n := n) (g := mg_up (mg_up (mg_up g 5 0 0 n) 5 0 1 0) 5 0 4 0) (fun v g' => v = some 0 ∧ g' = mc_canal g n) ⟨rfl, rfl⟩ 576 0 (Nat.zero_le _) rfl
  rw [mg_fl_0, mg_upr_id] at h
  exact h
end MCANAL
