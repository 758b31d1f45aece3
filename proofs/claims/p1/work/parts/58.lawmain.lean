/-! ===== the law, from its loop's head ===== -/
theorem mg_rep (x : Int32) : ∃ a : Nat, a < 4294967296 ∧ x = nI a := mg_any x
section LAWM
variable {K : mg_Kt} {D : va_G} {E : mg_E} {B b L : Nat} {xs : Nat → Int32}
theorem law_out {g : mg_F} {c : Nat} (hc : nI L - nI 4 = nI c) (h0 : mg_sg c < 0) (hc2 : c < 4294967296) (hX : va_X b L xs K.2.2.2.2.1 K.2.2.2.2.1.heap) (hbl : b < K.2.2.2.2.1.heap.size) (hbA : ¬ B ≤ b) : mg_G K (D, E, true, B) mL_law (fun v _ => v = some 1) 18 [.ref b, rv (D, E, true, B) 4 0, rv (D, E, true, B) 5 0, iv 0] [] g := by
  refine g_iload_n (pc := 18) dL_law_18 rfl ?_
  refine g_aload_n (pc := 19) dL_law_19 rfl ?_
  refine g_slen (pc := 20) hX hbl hbA dL_law_20 ?_
  refine g_iconst (pc := 21) (v := 4) dL_law_21 (by decide +kernel) ?_
  refine g_isubw (pc := 22) (c := c) hc dL_law_22 ?_
  refine g_scmp_gt (pc := 23) 727 dL_law_23 (by decide) (by decide) hc2 (fun _ => ?_) (fun h => absurd (show mg_sg c < mg_sg 0 by have e : mg_sg 0 = 0 := (by decide); omega) h)
  refine g_iconst (pc := 727) (v := 1) dL_law_727 (by decide +kernel) ?_
  exact g_iret (pc := 728) dL_law_728 ⟨mg_narZ (by decide), Or.inr rfl⟩ rfl
theorem law_main (hL : L ≤ 4) (hX : va_X b L xs K.2.2.2.2.1 K.2.2.2.2.1.heap) (hbl : b < K.2.2.2.2.1.heap.size) (hbA : ¬ B ≤ b) : mg_G K (D, E, true, B) mL_law (fun v _ => v = some 1) 18 [.ref b, rv (D, E, true, B) 4 0, rv (D, E, true, B) 5 0, iv 0] [] qms6 := by
  rcases (show L = 0 ∨ L = 1 ∨ L = 2 ∨ L = 3 ∨ L = 4 by omega) with rfl | rfl | rfl | rfl | rfl
  · exact law_out (c := 4294967292) (by decide +kernel) (by decide) (by decide) hX hbl hbA
  · exact law_out (c := 4294967293) (by decide +kernel) (by decide) (by decide) hX hbl hbA
  · exact law_out (c := 4294967294) (by decide +kernel) (by decide) (by decide) hX hbl hbA
  · exact law_out (c := 4294967295) (by decide +kernel) (by decide) (by decide) hX hbl hbA
  · refine g_iload_n (pc := 18) dL_law_18 rfl ?_
    refine g_aload_n (pc := 19) dL_law_19 rfl ?_
    refine g_slen (pc := 20) hX hbl hbA dL_law_20 ?_
    refine g_iconst (pc := 21) (v := 4) dL_law_21 (by decide +kernel) ?_
    refine g_isub (pc := 22) (by decide) dL_law_22 ?_
    refine g_top (b := 0) (by decide) ?_
    refine g_icmp_gt (pc := 23) 727 dL_law_23 (by decide) (by decide) (by decide) (fun h => absurd h (by decide)) (fun _ => ?_)
    obtain ⟨v0, u_v0, e_v0⟩ := mg_rep (xs 0)
    obtain ⟨v1, u_v1, e_v1⟩ := mg_rep (xs 1)
    obtain ⟨v2, u_v2, e_v2⟩ := mg_rep (xs 2)
    obtain ⟨v3, u_v3, e_v3⟩ := mg_rep (xs 3)
    refine g_aload_n (pc := 26) dL_law_26 rfl ?_
    refine g_iload_n (pc := 27) dL_law_27 rfl ?_
    refine g_sld (pc := 28) (x := v0) hX hbl hbA (by decide) (by decide) e_v0 dL_law_28 ?_
    refine g_bipush (pc := 29) (v := 31) dL_law_29 (by decide +kernel) ?_
    refine g_iand (pc := 31) dL_law_31 ?_
    have hw : v0 &&& 31 ≤ 31 := Nat.and_le_right
    generalize v0 &&& 31 = w at hw ⊢
    rcases (show w = 0 ∨ w = 1 ∨ w = 2 ∨ w = 3 ∨ w = 4 ∨ w = 5 ∨ w = 6 ∨ w = 7 ∨ w = 8 ∨ w = 9 ∨ w = 10 ∨ w = 11 ∨ w = 12 ∨ w = 13 ∨ w = 14 ∨ w = 15 ∨ w = 16 ∨ w = 17 ∨ w = 18 ∨ w = 19 ∨ w = 20 ∨ 21 ≤ w by omega) with rfl | rfl | rfl | rfl | rfl | rfl | rfl | rfl | rfl | rfl | rfl | rfl | rfl | rfl | rfl | rfl | rfl | rfl | rfl | rfl | rfl | h21
    · refine g_switchIn (pc := 32) 132 dL_law_32 (by decide) (by decide) (by decide) rfl (by decide) ?_
      exact lc_canal u_v1 e_v1 hX hbl hbA
    · refine g_switchIn (pc := 32) 155 dL_law_32 (by decide) (by decide) (by decide) rfl (by decide) ?_
      exact lc_link u_v1 e_v1 u_v2 e_v2 hX hbl hbA
    · refine g_switchIn (pc := 32) 188 dL_law_32 (by decide) (by decide) (by decide) rfl (by decide) ?_
      exact lc_open u_v1 e_v1 u_v2 e_v2 u_v3 e_v3 hX hbl hbA
    · refine g_switchIn (pc := 32) 231 dL_law_32 (by decide) (by decide) (by decide) rfl (by decide) ?_
      exact lc_want u_v1 e_v1 u_v2 e_v2 hX hbl hbA
    · refine g_switchIn (pc := 32) 264 dL_law_32 (by decide) (by decide) (by decide) rfl (by decide) ?_
      exact lc_begin u_v1 e_v1 hX hbl hbA
    · refine g_switchIn (pc := 32) 287 dL_law_32 (by decide) (by decide) (by decide) rfl (by decide) ?_
      exact lc_end u_v1 e_v1 hX hbl hbA
    · refine g_switchIn (pc := 32) 310 dL_law_32 (by decide) (by decide) (by decide) rfl (by decide) ?_
      exact lc_step u_v1 e_v1 hX hbl hbA
    · refine g_switchIn (pc := 32) 333 dL_law_32 (by decide) (by decide) (by decide) rfl (by decide) ?_
      exact lc_deliver u_v1 e_v1 hX hbl hbA
    · refine g_switchIn (pc := 32) 356 dL_law_32 (by decide) (by decide) (by decide) rfl (by decide) ?_
      exact lc_lose u_v1 e_v1 hX hbl hbA
    · refine g_switchIn (pc := 32) 379 dL_law_32 (by decide) (by decide) (by decide) rfl (by decide) ?_
      exact lc_twin u_v1 e_v1 hX hbl hbA
    · refine g_switchIn (pc := 32) 402 dL_law_32 (by decide) (by decide) (by decide) rfl (by decide) ?_
      exact lc_resend u_v1 e_v1 hX hbl hbA
    · refine g_switchIn (pc := 32) 425 dL_law_32 (by decide) (by decide) (by decide) rfl (by decide) ?_
      exact lc_crash u_v1 e_v1 hX hbl hbA
    · refine g_switchIn (pc := 32) 448 dL_law_32 (by decide) (by decide) (by decide) rfl (by decide) ?_
      exact lc_restart u_v1 e_v1 hX hbl hbA
    · refine g_switchIn (pc := 32) 471 dL_law_32 (by decide) (by decide) (by decide) rfl (by decide) ?_
      exact lc_cut u_v1 e_v1 u_v2 e_v2 hX hbl hbA
    · refine g_switchIn (pc := 32) 504 dL_law_32 (by decide) (by decide) (by decide) rfl (by decide) ?_
      exact lc_join u_v1 e_v1 u_v2 e_v2 hX hbl hbA
    · refine g_switchIn (pc := 32) 537 dL_law_32 (by decide) (by decide) (by decide) rfl (by decide) ?_
      exact lc_holder  hX hbl hbA
    · refine g_switchIn (pc := 32) 550 dL_law_32 (by decide) (by decide) (by decide) rfl (by decide) ?_
      exact lc_pointer u_v1 e_v1 hX hbl hbA
    · refine g_switchIn (pc := 32) 573 dL_law_32 (by decide) (by decide) (by decide) rfl (by decide) ?_
      exact lc_queue u_v1 e_v1 u_v2 e_v2 u_v3 e_v3 hX hbl hbA
    · refine g_switchIn (pc := 32) 632 dL_law_32 (by decide) (by decide) (by decide) rfl (by decide) ?_
      exact lc_letter u_v1 e_v1 u_v2 e_v2 hX hbl hbA
    · refine g_switchIn (pc := 32) 665 dL_law_32 (by decide) (by decide) (by decide) rfl (by decide) ?_
      exact lc_told u_v1 e_v1 u_v2 e_v2 hX hbl hbA
    · refine g_switchIn (pc := 32) 698 dL_law_32 (by decide) (by decide) (by decide) rfl (by decide) ?_
      exact lc_count u_v1 e_v1 hX hbl hbA
    · refine g_switchOut (pc := 32) 721 dL_law_32 (by omega) (Or.inr (by have q := mg_sgs (a := w) (by omega); omega)) (by decide) ?_
      exact law_tail hX hbl hbA
end LAWM
