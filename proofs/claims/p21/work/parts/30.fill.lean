/-! ===== rows of numbers ===== -/
theorem mg_upr_upr (g : mg_F) (k i : Nat) (r r' : Nat → Nat) : mg_upr (mg_upr g k i r) k i r' = mg_upr g k i r' := by
  funext k' i'
  unfold mg_upr
  by_cases h : k' = k ∧ i' = i
  · rw [if_pos h, if_pos h]
  · rw [if_neg h, if_neg h, if_neg h]
theorem mg_upr_at (g : mg_F) (k i : Nat) (r : Nat → Nat) : mg_upr g k i r k i = r := by simp [mg_upr]
theorem mg_upr_id (g : mg_F) (k i : Nat) : mg_upr g k i (g k i) = g := by
  funext k' i'
  unfold mg_upr
  by_cases h : k' = k ∧ i' = i
  · rw [if_pos h, h.1, h.2]
  · rw [if_neg h]
theorem mg_up_upr (g : mg_F) (k i : Nat) (r : Nat → Nat) (j v : Nat) : mg_up (mg_upr g k i r) k i j v = mg_upr g k i (mg_us r j v) := by
  unfold mg_up
  rw [mg_upr_at, mg_upr_upr]
/-- the first n of a row made v -/
def mg_fl (r : Nat → Nat) (n v : Nat) : Nat → Nat := fun j => if j < n then v else r j
theorem mg_fl_0 (r : Nat → Nat) (v : Nat) : mg_fl r 0 v = r := by funext j; simp [mg_fl]
theorem mg_fl_s (r : Nat → Nat) (n v : Nat) : mg_us (mg_fl r n v) n v = mg_fl r (n + 1) v := by
  funext j
  unfold mg_us mg_fl
  by_cases h : j = n
  · rw [if_pos h, if_pos (by omega)]
  · rw [if_neg h]
    by_cases h2 : j < n
    · rw [if_pos h2, if_pos (by omega)]
    · rw [if_neg h2, if_neg (by omega)]
section FILL
variable {K : mg_Kt} {Z : mg_Zt} {g : mg_F} {k i n v : Nat}
theorem c_fill_loop (hin : i < mg_cnt Z.2.2.1 k) (hm : ∀ r : Nat → Nat, mg_mk Z.2.1 k i r = .inl (Z.2.1.2.1, n, .inl (fun j => nI (r j)))) (hn : n < 2147483648) : ∀ (m j : Nat), j ≤ n → n - j = m → mg_G K Z mJ7_fill_53178 (fun r g' => r = none ∧ g' = mg_upr g k i (mg_fl (g k i) n v)) 5 [rv Z k i, iv v, iv j, iv n] [] (mg_upr g k i (mg_fl (g k i) j v)) := by
  intro m
  induction m with
  | zero =>
    intro j hj hm0
    have e : j = n := by omega
    subst e
    refine g_iload_n (pc := 5) dJ7_fill_53178_5 rfl ?_
    refine g_iload_n (pc := 6) dJ7_fill_53178_6 rfl ?_
    refine g_icmp_ge (pc := 7) 20 dJ7_fill_53178_7 (by decide) hn hn (fun _ => ?_) (fun h => absurd (Nat.le_refl _) h)
    exact g_ret dJ7_fill_53178_20 trivial ⟨rfl, rfl⟩
  | succ m ih =>
    intro j hj hm0
    refine g_iload_n (pc := 5) dJ7_fill_53178_5 rfl ?_
    refine g_iload_n (pc := 6) dJ7_fill_53178_6 rfl ?_
    refine g_icmp_ge (pc := 7) 20 dJ7_fill_53178_7 (by decide) (by omega) hn (fun h => absurd h (by omega)) (fun _ => ?_)
    refine g_aload_n (pc := 10) dJ7_fill_53178_10 rfl ?_
    refine g_iload_n (pc := 11) dJ7_fill_53178_11 rfl ?_
    refine g_iload_n (pc := 12) dJ7_fill_53178_12 rfl ?_
    refine g_iastore (pc := 13) hin hm hn (by omega) dJ7_fill_53178_13 ?_
    refine g_iinc (pc := 14) (v := j + 1) (ls' := [rv Z k i, iv v, iv (j + 1), iv n]) dJ7_fill_53178_14 (Nat.le_of_ble_eq_true rfl) rfl (mg_inc j) rfl ?_
    refine g_goto (pc := 17) 5 dJ7_fill_53178_17 (by decide) ?_
    rw [mg_up_upr, mg_fl_s]
    exact ih (j + 1) (by omega) (by omega)
theorem c_fill (l : Launch) (hin : i < mg_cnt Z.2.2.1 k) (hm : ∀ r : Nat → Nat, mg_mk Z.2.1 k i r = .inl (Z.2.1.2.1, n, .inl (fun j => nI (r j)))) (hn : n < 2147483648) : mg_C l Z mJ7_fill_53178 [rv Z k i, iv v] g (fun r g' => r = none ∧ g' = mg_upr g k i (mg_fl (g k i) n v)) := by
  refine mg_C.of (by decide) rfl (Nat.le_of_ble_eq_true rfl) (List.forall_mem_cons.mpr ⟨rfl, (List.forall_mem_cons.mpr ⟨rfl, (fun _ h => nomatch h)⟩)⟩) (fun K => ?_)
  refine g_iconst (pc := 0) (v := 0) dJ7_fill_53178_0 (by decide +kernel) ?_
  refine g_istore_n (pc := 1) (ls' := [rv Z k i, iv v, iv 0]) dJ7_fill_53178_1 (Nat.le_of_ble_eq_true rfl) (Nat.le_of_ble_eq_true rfl) rfl ?_
  refine g_aload_n (pc := 2) dJ7_fill_53178_2 rfl ?_
  refine g_alen (pc := 3) (n := n) hin (hm _) dJ7_fill_53178_3 ?_
  refine g_istore_n (pc := 4) (ls' := [rv Z k i, iv v, iv 0, iv n]) dJ7_fill_53178_4 (Nat.le_of_ble_eq_true rfl) (Nat.le_of_ble_eq_true rfl) rfl ?_
  have h := c_fill_loop (K := K) (v := v) (g := g) hin hm hn n 0 (Nat.zero_le _) rfl
  rw [mg_fl_0, mg_upr_id] at h
  exact h
end FILL
