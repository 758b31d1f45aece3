/-! ===== the reference's open: its two long rows ===== -/
theorem mg_upr_comm (g : mg_F) {k i k' i' : Nat} (r r' : Nat → Nat) (h : ¬ (k = k' ∧ i = i')) : mg_upr (mg_upr g k i r) k' i' r' = mg_upr (mg_upr g k' i' r') k i r := by
  funext a b
  unfold mg_upr
  by_cases h1 : a = k' ∧ b = i'
  · have h2 : ¬ (a = k ∧ b = i) := fun z => h ⟨z.1.symm.trans h1.1, z.2.symm.trans h1.2⟩
    rw [if_pos h1, if_neg h2, if_pos h1]
  · rw [if_neg h1]
    by_cases h2 : a = k ∧ b = i
    · rw [if_pos h2, if_pos h2]
    · rw [if_neg h2, if_neg h2, if_neg h1]
theorem mg_upr_ne (g : mg_F) {k i k' i' : Nat} (r : Nat → Nat) (h : ¬ (k' = k ∧ i' = i)) : mg_upr g k i r k' i' = g k' i' := if_neg h
theorem mg_up_comm (g : mg_F) {k i k' i' : Nat} (j v : Nat) (r : Nat → Nat) (h : ¬ (k = k' ∧ i = i')) : mg_up (mg_upr g k' i' r) k i j v = mg_upr (mg_up g k i j v) k' i' r := by
  unfold mg_up
  rw [mg_upr_ne _ _ h, mg_upr_comm _ _ _ (fun z => h ⟨z.1.symm, z.2.symm⟩)]
def mo_fl (g : mg_F) (j : Nat) : mg_F := mg_upr (mg_upr g 49 0 (mg_fl (g 49 0) j 0)) 50 0 (mg_fl (g 50 0) j 0)
theorem mo_fl_0 (g : mg_F) : mo_fl g 0 = g := by
  unfold mo_fl
  rw [mg_fl_0, mg_fl_0, mg_upr_id]
  exact mg_upr_id g 50 0
theorem mo_fl_s (g : mg_F) (j : Nat) : mg_up (mg_up (mo_fl g j) 49 0 j 0) 50 0 j 0 = mo_fl g (j + 1) := by
  unfold mo_fl
  rw [mg_up_comm _ _ _ _ (by omega), mg_up_upr, mg_up_upr, mg_fl_s, mg_fl_s]
section MOPEN
variable {K : mg_Kt} {D : va_G} {E : mg_E} {B : Nat} {g : mg_F} {a b c : Nat} {post : Option Nat → mg_F → Prop}
theorem c_mopen_loop (kk : mg_G K (D, E, true, B) mX5_open post 107 [rv (D, E, true, B) 5 0, iv a, iv b, iv c, iv 576] [] (mo_fl g 576)) : ∀ (m j : Nat), j ≤ 576 → 576 - j = m → mg_G K (D, E, true, B) mX5_open post 77 [rv (D, E, true, B) 5 0, iv a, iv b, iv c, iv j] [] (mo_fl g j) := by
  intro m
  induction m with
  | zero =>
    intro j hj hm0
    have e : j = 576 := by omega
    subst e
    refine g_iload (pc := 77) dX5_open_77 rfl ?_
    refine g_sipush (pc := 79) (v := 576) dX5_open_79 (by decide +kernel) ?_
    exact g_icmp_ge (pc := 82) 107 dX5_open_82 (by decide) (by decide) (by decide) (fun _ => kk) (fun h => absurd (Nat.le_refl _) h)
  | succ m ih =>
    intro j hj hm0
    refine g_iload (pc := 77) dX5_open_77 rfl ?_
    refine g_sipush (pc := 79) (v := 576) dX5_open_79 (by decide +kernel) ?_
    refine g_icmp_ge (pc := 82) 107 dX5_open_82 (by decide) (by omega) (by decide) (fun h => absurd h (by omega)) (fun _ => ?_)
    refine g_aload_n (pc := 85) dX5_open_85 rfl ?_
    refine fg_X5_open_50 (pc := 86) rfl dX5_open_86 ?_
    refine g_iload (pc := 89) dX5_open_89 rfl ?_
    refine g_iconst (pc := 91) (v := 0) dX5_open_91 (by decide +kernel) ?_
    refine g_iastore (pc := 92) (k := 49) (i := 0) (n := 576) (show 0 < 1 by omega) (fun _ => rfl) (by decide) (by omega) dX5_open_92 ?_
    refine g_aload_n (pc := 93) dX5_open_93 rfl ?_
    refine fg_X5_open_53 (pc := 94) rfl dX5_open_94 ?_
    refine g_iload (pc := 97) dX5_open_97 rfl ?_
    refine g_iconst (pc := 99) (v := 0) dX5_open_99 (by decide +kernel) ?_
    refine g_iastore (pc := 100) (k := 50) (i := 0) (n := 576) (show 0 < 1 by omega) (fun _ => rfl) (by decide) (by omega) dX5_open_100 ?_
    refine g_iinc (pc := 101) (v := j + 1) (ls' := [rv (D, E, true, B) 5 0, iv a, iv b, iv c, iv (j + 1)]) dX5_open_101 (Nat.le_of_ble_eq_true rfl) rfl (mg_inc j) rfl ?_
    refine g_goto (pc := 104) 77 dX5_open_104 (by decide) ?_
    rw [mo_fl_s]
    exact ih (j + 1) (by omega) (by omega)
theorem c_mopen (kk : mg_G K (D, E, true, B) mX5_open post 107 [rv (D, E, true, B) 5 0, iv a, iv b, iv c, iv 576] [] (mo_fl g 576)) : mg_G K (D, E, true, B) mX5_open post 77 [rv (D, E, true, B) 5 0, iv a, iv b, iv c, iv 0] [] g := by
  have h := c_mopen_loop (g := g) kk 576 0 (Nat.zero_le _) rfl
  rw [mo_fl_0] at h
  exact h
end MOPEN
