/-! ===== reading and writing each field, method by method ===== -/
section MGF
variable {K : mg_Kt} {Z : mg_Zt} {post : Option Nat → mg_F → Prop} {pc : Nat} {ls st : List Value} {g : mg_F}
theorem iw_X0_clear_X0 : ∀ w ∈ wsX00, w ∈ wsX0_clear := fun w h => List.mem_cons.mpr (Or.inr (List.mem_append.mpr (Or.inr h)))
theorem fg_X0_clear_9 (hd : decode cX0_clear pc = .ok (.getfield 9, 3)) (kk : mg_G K Z mX0_clear post (pc + 3) ls (rv Z 10 0 :: st) g) : mg_G K Z mX0_clear post pc ls (rv Z 0 0 :: st) g :=
  g_get (own := RX0) (ci := 0) (j := 0) (show 0 < 1 by omega) rfl rfl (by decide) (by decide +kernel) iw_X0_clear_X0 rfl hd kk
theorem fp_X0_clear_21 {a : Nat} (hd : decode cX0_clear pc = .ok (.putfield 21, 3)) (kk : mg_G K Z mX0_clear post (pc + 3) ls st (mg_up g 0 0 1 a)) : mg_G K Z mX0_clear post pc ls (iv a :: rv Z 0 0 :: st) g :=
  g_put (ci := 0) (j := 1) (ty := .int) (ty0 := tyX0) (show 0 < 1 by omega) rfl rfl rfl (by decide) (by decide +kernel) iw_X0_clear_X0 tyX0_ok nmX0 (by decide) rfl rfl rfl (Nat.le_of_ble_eq_true rfl) hd kk
theorem fp_X0_clear_25 {a : Nat} (hd : decode cX0_clear pc = .ok (.putfield 25, 3)) (kk : mg_G K Z mX0_clear post (pc + 3) ls st (mg_up g 0 0 2 a)) : mg_G K Z mX0_clear post pc ls (iv a :: rv Z 0 0 :: st) g :=
  g_put (ci := 0) (j := 2) (ty := .int) (ty0 := tyX0) (show 0 < 1 by omega) rfl rfl rfl (by decide) (by decide +kernel) iw_X0_clear_X0 tyX0_ok nmX0 (by decide) rfl rfl rfl (Nat.le_of_ble_eq_true rfl) hd kk
theorem iw_X0_has_X0 : ∀ w ∈ wsX00, w ∈ wsX0_has := fun w h => List.mem_cons.mpr (Or.inr (List.mem_append.mpr (Or.inr h)))
theorem fg_X0_has_21 (hd : decode cX0_has pc = .ok (.getfield 21, 3)) (kk : mg_G K Z mX0_has post (pc + 3) ls (iv (g 0 0 1) :: st) g) : mg_G K Z mX0_has post pc ls (rv Z 0 0 :: st) g :=
  g_get (own := RX0) (ci := 0) (j := 1) (show 0 < 1 by omega) rfl rfl (by decide) (by decide +kernel) iw_X0_has_X0 rfl hd kk
theorem iw_X0_linked_X0 : ∀ w ∈ wsX00, w ∈ wsX0_linked := fun w h => List.mem_cons.mpr (Or.inr (List.mem_append.mpr (Or.inr h)))
theorem fg_X0_linked_9 (hd : decode cX0_linked pc = .ok (.getfield 9, 3)) (kk : mg_G K Z mX0_linked post (pc + 3) ls (rv Z 10 0 :: st) g) : mg_G K Z mX0_linked post pc ls (rv Z 0 0 :: st) g :=
  g_get (own := RX0) (ci := 0) (j := 0) (show 0 < 1 by omega) rfl rfl (by decide) (by decide +kernel) iw_X0_linked_X0 rfl hd kk
theorem iw_X0_neighboursOf_X0 : ∀ w ∈ wsX00, w ∈ wsX0_neighboursOf := fun w h => List.mem_cons.mpr (Or.inr (List.mem_append.mpr (Or.inr h)))
theorem fg_X0_neighboursOf_9 (hd : decode cX0_neighboursOf pc = .ok (.getfield 9, 3)) (kk : mg_G K Z mX0_neighboursOf post (pc + 3) ls (rv Z 10 0 :: st) g) : mg_G K Z mX0_neighboursOf post pc ls (rv Z 0 0 :: st) g :=
  g_get (own := RX0) (ci := 0) (j := 0) (show 0 < 1 by omega) rfl rfl (by decide) (by decide +kernel) iw_X0_neighboursOf_X0 rfl hd kk
theorem iw_X0_tie_X0 : ∀ w ∈ wsX00, w ∈ wsX0_tie := fun w h => List.mem_cons.mpr (Or.inr (List.mem_append.mpr (Or.inr h)))
theorem fg_X0_tie_9 (hd : decode cX0_tie pc = .ok (.getfield 9, 3)) (kk : mg_G K Z mX0_tie post (pc + 3) ls (rv Z 10 0 :: st) g) : mg_G K Z mX0_tie post pc ls (rv Z 0 0 :: st) g :=
  g_get (own := RX0) (ci := 0) (j := 0) (show 0 < 1 by omega) rfl rfl (by decide) (by decide +kernel) iw_X0_tie_X0 rfl hd kk
theorem fg_X0_tie_25 (hd : decode cX0_tie pc = .ok (.getfield 25, 3)) (kk : mg_G K Z mX0_tie post (pc + 3) ls (iv (g 0 0 2) :: st) g) : mg_G K Z mX0_tie post pc ls (rv Z 0 0 :: st) g :=
  g_get (own := RX0) (ci := 0) (j := 2) (show 0 < 1 by omega) rfl rfl (by decide) (by decide +kernel) iw_X0_tie_X0 rfl hd kk
theorem fp_X0_tie_25 {a : Nat} (hd : decode cX0_tie pc = .ok (.putfield 25, 3)) (kk : mg_G K Z mX0_tie post (pc + 3) ls st (mg_up g 0 0 2 a)) : mg_G K Z mX0_tie post pc ls (iv a :: rv Z 0 0 :: st) g :=
  g_put (ci := 0) (j := 2) (ty := .int) (ty0 := tyX0) (show 0 < 1 by omega) rfl rfl rfl (by decide) (by decide +kernel) iw_X0_tie_X0 tyX0_ok nmX0 (by decide) rfl rfl rfl (Nat.le_of_ble_eq_true rfl) hd kk
theorem iw_X0_untie_X0 : ∀ w ∈ wsX00, w ∈ wsX0_untie := fun w h => List.mem_cons.mpr (Or.inr (List.mem_append.mpr (Or.inr h)))
theorem fg_X0_untie_9 (hd : decode cX0_untie pc = .ok (.getfield 9, 3)) (kk : mg_G K Z mX0_untie post (pc + 3) ls (rv Z 10 0 :: st) g) : mg_G K Z mX0_untie post pc ls (rv Z 0 0 :: st) g :=
  g_get (own := RX0) (ci := 0) (j := 0) (show 0 < 1 by omega) rfl rfl (by decide) (by decide +kernel) iw_X0_untie_X0 rfl hd kk
theorem fg_X0_untie_25 (hd : decode cX0_untie pc = .ok (.getfield 25, 3)) (kk : mg_G K Z mX0_untie post (pc + 3) ls (iv (g 0 0 2) :: st) g) : mg_G K Z mX0_untie post pc ls (rv Z 0 0 :: st) g :=
  g_get (own := RX0) (ci := 0) (j := 2) (show 0 < 1 by omega) rfl rfl (by decide) (by decide +kernel) iw_X0_untie_X0 rfl hd kk
theorem fp_X0_untie_25 {a : Nat} (hd : decode cX0_untie pc = .ok (.putfield 25, 3)) (kk : mg_G K Z mX0_untie post (pc + 3) ls st (mg_up g 0 0 2 a)) : mg_G K Z mX0_untie post pc ls (iv a :: rv Z 0 0 :: st) g :=
  g_put (ci := 0) (j := 2) (ty := .int) (ty0 := tyX0) (show 0 < 1 by omega) rfl rfl rfl (by decide) (by decide +kernel) iw_X0_untie_X0 tyX0_ok nmX0 (by decide) rfl rfl rfl (Nat.le_of_ble_eq_true rfl) hd kk
theorem iw_X0_partOf_X0 : ∀ w ∈ wsX00, w ∈ wsX0_partOf := fun w h => List.mem_cons.mpr (Or.inr (List.mem_append.mpr (Or.inr h)))
theorem fg_X0_partOf_21 (hd : decode cX0_partOf pc = .ok (.getfield 21, 3)) (kk : mg_G K Z mX0_partOf post (pc + 3) ls (iv (g 0 0 1) :: st) g) : mg_G K Z mX0_partOf post pc ls (rv Z 0 0 :: st) g :=
  g_get (own := RX0) (ci := 0) (j := 1) (show 0 < 1 by omega) rfl rfl (by decide) (by decide +kernel) iw_X0_partOf_X0 rfl hd kk
theorem fg_X0_partOf_9 (hd : decode cX0_partOf pc = .ok (.getfield 9, 3)) (kk : mg_G K Z mX0_partOf post (pc + 3) ls (rv Z 10 0 :: st) g) : mg_G K Z mX0_partOf post pc ls (rv Z 0 0 :: st) g :=
  g_get (own := RX0) (ci := 0) (j := 0) (show 0 < 1 by omega) rfl rfl (by decide) (by decide +kernel) iw_X0_partOf_X0 rfl hd kk
theorem iw_X0_parts_X0 : ∀ w ∈ wsX00, w ∈ wsX0_parts := fun w h => List.mem_cons.mpr (Or.inr (List.mem_append.mpr (Or.inr h)))
theorem fg_X0_parts_21 (hd : decode cX0_parts pc = .ok (.getfield 21, 3)) (kk : mg_G K Z mX0_parts post (pc + 3) ls (iv (g 0 0 1) :: st) g) : mg_G K Z mX0_parts post pc ls (rv Z 0 0 :: st) g :=
  g_get (own := RX0) (ci := 0) (j := 1) (show 0 < 1 by omega) rfl rfl (by decide) (by decide +kernel) iw_X0_parts_X0 rfl hd kk
theorem fg_X0_parts_25 (hd : decode cX0_parts pc = .ok (.getfield 25, 3)) (kk : mg_G K Z mX0_parts post (pc + 3) ls (iv (g 0 0 2) :: st) g) : mg_G K Z mX0_parts post pc ls (rv Z 0 0 :: st) g :=
  g_get (own := RX0) (ci := 0) (j := 2) (show 0 < 1 by omega) rfl rfl (by decide) (by decide +kernel) iw_X0_parts_X0 rfl hd kk
theorem iw_X1_add_X1 : ∀ w ∈ wsX10, w ∈ wsX1_add := fun w h => List.mem_cons.mpr (Or.inr (List.mem_append.mpr (Or.inr h)))
theorem fg_X1_add_27 {i : Nat} (hin : i < 2) (hd : decode cX1_add pc = .ok (.getfield 27, 3)) (kk : mg_G K Z mX1_add post (pc + 3) ls (iv (g 1 i 5) :: st) g) : mg_G K Z mX1_add post pc ls (rv Z 1 i :: st) g :=
  g_get (own := RX1) (ci := 1) (j := 5) hin rfl rfl (by decide) (by decide +kernel) iw_X1_add_X1 rfl hd kk
theorem fg_X1_add_9 {i : Nat} (hin : i < 2) (hd : decode cX1_add pc = .ok (.getfield 9, 3)) (kk : mg_G K Z mX1_add post (pc + 3) ls (rv Z 11 i :: st) g) : mg_G K Z mX1_add post pc ls (rv Z 1 i :: st) g :=
  g_get (own := RX1) (ci := 1) (j := 0) hin rfl rfl (by decide) (by decide +kernel) iw_X1_add_X1 rfl hd kk
theorem fg_X1_add_15 {i : Nat} (hin : i < 2) (hd : decode cX1_add pc = .ok (.getfield 15, 3)) (kk : mg_G K Z mX1_add post (pc + 3) ls (rv Z 12 i :: st) g) : mg_G K Z mX1_add post pc ls (rv Z 1 i :: st) g :=
  g_get (own := RX1) (ci := 1) (j := 1) hin rfl rfl (by decide) (by decide +kernel) iw_X1_add_X1 rfl hd kk
theorem fg_X1_add_18 {i : Nat} (hin : i < 2) (hd : decode cX1_add pc = .ok (.getfield 18, 3)) (kk : mg_G K Z mX1_add post (pc + 3) ls (rv Z 13 i :: st) g) : mg_G K Z mX1_add post pc ls (rv Z 1 i :: st) g :=
  g_get (own := RX1) (ci := 1) (j := 2) hin rfl rfl (by decide) (by decide +kernel) iw_X1_add_X1 rfl hd kk
theorem fg_X1_add_21 {i : Nat} (hin : i < 2) (hd : decode cX1_add pc = .ok (.getfield 21, 3)) (kk : mg_G K Z mX1_add post (pc + 3) ls (rv Z 14 i :: st) g) : mg_G K Z mX1_add post pc ls (rv Z 1 i :: st) g :=
  g_get (own := RX1) (ci := 1) (j := 3) hin rfl rfl (by decide) (by decide +kernel) iw_X1_add_X1 rfl hd kk
theorem fg_X1_add_24 {i : Nat} (hin : i < 2) (hd : decode cX1_add pc = .ok (.getfield 24, 3)) (kk : mg_G K Z mX1_add post (pc + 3) ls (rv Z 15 i :: st) g) : mg_G K Z mX1_add post pc ls (rv Z 1 i :: st) g :=
  g_get (own := RX1) (ci := 1) (j := 4) hin rfl rfl (by decide) (by decide +kernel) iw_X1_add_X1 rfl hd kk
theorem fp_X1_add_27 {i : Nat} (hin : i < 2) {a : Nat} (hd : decode cX1_add pc = .ok (.putfield 27, 3)) (kk : mg_G K Z mX1_add post (pc + 3) ls st (mg_up g 1 i 5 a)) : mg_G K Z mX1_add post pc ls (iv a :: rv Z 1 i :: st) g :=
  g_put (ci := 1) (j := 5) (ty := .int) (ty0 := tyX1) hin rfl rfl rfl (by decide) (by decide +kernel) iw_X1_add_X1 tyX1_ok nmX1 (by decide) rfl rfl rfl (Nat.le_of_ble_eq_true rfl) hd kk
theorem iw_X1_addCopy_X1 : ∀ w ∈ wsX10, w ∈ wsX1_addCopy := fun w h => List.mem_cons.mpr (Or.inr (List.mem_append.mpr (Or.inr h)))
theorem fg_X1_addCopy_9 {i : Nat} (hin : i < 2) (hd : decode cX1_addCopy pc = .ok (.getfield 9, 3)) (kk : mg_G K Z mX1_addCopy post (pc + 3) ls (rv Z 11 i :: st) g) : mg_G K Z mX1_addCopy post pc ls (rv Z 1 i :: st) g :=
  g_get (own := RX1) (ci := 1) (j := 0) hin rfl rfl (by decide) (by decide +kernel) iw_X1_addCopy_X1 rfl hd kk
theorem fg_X1_addCopy_15 {i : Nat} (hin : i < 2) (hd : decode cX1_addCopy pc = .ok (.getfield 15, 3)) (kk : mg_G K Z mX1_addCopy post (pc + 3) ls (rv Z 12 i :: st) g) : mg_G K Z mX1_addCopy post pc ls (rv Z 1 i :: st) g :=
  g_get (own := RX1) (ci := 1) (j := 1) hin rfl rfl (by decide) (by decide +kernel) iw_X1_addCopy_X1 rfl hd kk
theorem fg_X1_addCopy_18 {i : Nat} (hin : i < 2) (hd : decode cX1_addCopy pc = .ok (.getfield 18, 3)) (kk : mg_G K Z mX1_addCopy post (pc + 3) ls (rv Z 13 i :: st) g) : mg_G K Z mX1_addCopy post pc ls (rv Z 1 i :: st) g :=
  g_get (own := RX1) (ci := 1) (j := 2) hin rfl rfl (by decide) (by decide +kernel) iw_X1_addCopy_X1 rfl hd kk
theorem fg_X1_addCopy_21 {i : Nat} (hin : i < 2) (hd : decode cX1_addCopy pc = .ok (.getfield 21, 3)) (kk : mg_G K Z mX1_addCopy post (pc + 3) ls (rv Z 14 i :: st) g) : mg_G K Z mX1_addCopy post pc ls (rv Z 1 i :: st) g :=
  g_get (own := RX1) (ci := 1) (j := 3) hin rfl rfl (by decide) (by decide +kernel) iw_X1_addCopy_X1 rfl hd kk
theorem fg_X1_addCopy_24 {i : Nat} (hin : i < 2) (hd : decode cX1_addCopy pc = .ok (.getfield 24, 3)) (kk : mg_G K Z mX1_addCopy post (pc + 3) ls (rv Z 15 i :: st) g) : mg_G K Z mX1_addCopy post pc ls (rv Z 1 i :: st) g :=
  g_get (own := RX1) (ci := 1) (j := 4) hin rfl rfl (by decide) (by decide +kernel) iw_X1_addCopy_X1 rfl hd kk
theorem iw_X1_remove_X1 : ∀ w ∈ wsX10, w ∈ wsX1_remove := fun w h => List.mem_cons.mpr (Or.inr (List.mem_append.mpr (Or.inr h)))
theorem fg_X1_remove_9 {i : Nat} (hin : i < 2) (hd : decode cX1_remove pc = .ok (.getfield 9, 3)) (kk : mg_G K Z mX1_remove post (pc + 3) ls (rv Z 11 i :: st) g) : mg_G K Z mX1_remove post pc ls (rv Z 1 i :: st) g :=
  g_get (own := RX1) (ci := 1) (j := 0) hin rfl rfl (by decide) (by decide +kernel) iw_X1_remove_X1 rfl hd kk
theorem fg_X1_remove_27 {i : Nat} (hin : i < 2) (hd : decode cX1_remove pc = .ok (.getfield 27, 3)) (kk : mg_G K Z mX1_remove post (pc + 3) ls (iv (g 1 i 5) :: st) g) : mg_G K Z mX1_remove post pc ls (rv Z 1 i :: st) g :=
  g_get (own := RX1) (ci := 1) (j := 5) hin rfl rfl (by decide) (by decide +kernel) iw_X1_remove_X1 rfl hd kk
theorem fg_X1_remove_15 {i : Nat} (hin : i < 2) (hd : decode cX1_remove pc = .ok (.getfield 15, 3)) (kk : mg_G K Z mX1_remove post (pc + 3) ls (rv Z 12 i :: st) g) : mg_G K Z mX1_remove post pc ls (rv Z 1 i :: st) g :=
  g_get (own := RX1) (ci := 1) (j := 1) hin rfl rfl (by decide) (by decide +kernel) iw_X1_remove_X1 rfl hd kk
theorem fg_X1_remove_18 {i : Nat} (hin : i < 2) (hd : decode cX1_remove pc = .ok (.getfield 18, 3)) (kk : mg_G K Z mX1_remove post (pc + 3) ls (rv Z 13 i :: st) g) : mg_G K Z mX1_remove post pc ls (rv Z 1 i :: st) g :=
  g_get (own := RX1) (ci := 1) (j := 2) hin rfl rfl (by decide) (by decide +kernel) iw_X1_remove_X1 rfl hd kk
theorem fg_X1_remove_21 {i : Nat} (hin : i < 2) (hd : decode cX1_remove pc = .ok (.getfield 21, 3)) (kk : mg_G K Z mX1_remove post (pc + 3) ls (rv Z 14 i :: st) g) : mg_G K Z mX1_remove post pc ls (rv Z 1 i :: st) g :=
  g_get (own := RX1) (ci := 1) (j := 3) hin rfl rfl (by decide) (by decide +kernel) iw_X1_remove_X1 rfl hd kk
theorem fg_X1_remove_24 {i : Nat} (hin : i < 2) (hd : decode cX1_remove pc = .ok (.getfield 24, 3)) (kk : mg_G K Z mX1_remove post (pc + 3) ls (rv Z 15 i :: st) g) : mg_G K Z mX1_remove post pc ls (rv Z 1 i :: st) g :=
  g_get (own := RX1) (ci := 1) (j := 4) hin rfl rfl (by decide) (by decide +kernel) iw_X1_remove_X1 rfl hd kk
theorem fp_X1_remove_27 {i : Nat} (hin : i < 2) {a : Nat} (hd : decode cX1_remove pc = .ok (.putfield 27, 3)) (kk : mg_G K Z mX1_remove post (pc + 3) ls st (mg_up g 1 i 5 a)) : mg_G K Z mX1_remove post pc ls (iv a :: rv Z 1 i :: st) g :=
  g_put (ci := 1) (j := 5) (ty := .int) (ty0 := tyX1) hin rfl rfl rfl (by decide) (by decide +kernel) iw_X1_remove_X1 tyX1_ok nmX1 (by decide) rfl rfl rfl (Nat.le_of_ble_eq_true rfl) hd kk
theorem iw_X1_firstBetween_X1 : ∀ w ∈ wsX10, w ∈ wsX1_firstBetween := fun w h => List.mem_cons.mpr (Or.inr (List.mem_append.mpr (Or.inr h)))
theorem fg_X1_firstBetween_27 {i : Nat} (hin : i < 2) (hd : decode cX1_firstBetween pc = .ok (.getfield 27, 3)) (kk : mg_G K Z mX1_firstBetween post (pc + 3) ls (iv (g 1 i 5) :: st) g) : mg_G K Z mX1_firstBetween post pc ls (rv Z 1 i :: st) g :=
  g_get (own := RX1) (ci := 1) (j := 5) hin rfl rfl (by decide) (by decide +kernel) iw_X1_firstBetween_X1 rfl hd kk
theorem fg_X1_firstBetween_15 {i : Nat} (hin : i < 2) (hd : decode cX1_firstBetween pc = .ok (.getfield 15, 3)) (kk : mg_G K Z mX1_firstBetween post (pc + 3) ls (rv Z 12 i :: st) g) : mg_G K Z mX1_firstBetween post pc ls (rv Z 1 i :: st) g :=
  g_get (own := RX1) (ci := 1) (j := 1) hin rfl rfl (by decide) (by decide +kernel) iw_X1_firstBetween_X1 rfl hd kk
theorem fg_X1_firstBetween_18 {i : Nat} (hin : i < 2) (hd : decode cX1_firstBetween pc = .ok (.getfield 18, 3)) (kk : mg_G K Z mX1_firstBetween post (pc + 3) ls (rv Z 13 i :: st) g) : mg_G K Z mX1_firstBetween post pc ls (rv Z 1 i :: st) g :=
  g_get (own := RX1) (ci := 1) (j := 2) hin rfl rfl (by decide) (by decide +kernel) iw_X1_firstBetween_X1 rfl hd kk
theorem iw_X1_sentBy_X1 : ∀ w ∈ wsX10, w ∈ wsX1_sentBy := fun w h => List.mem_cons.mpr (Or.inr (List.mem_append.mpr (Or.inr h)))
theorem fg_X1_sentBy_27 {i : Nat} (hin : i < 2) (hd : decode cX1_sentBy pc = .ok (.getfield 27, 3)) (kk : mg_G K Z mX1_sentBy post (pc + 3) ls (iv (g 1 i 5) :: st) g) : mg_G K Z mX1_sentBy post pc ls (rv Z 1 i :: st) g :=
  g_get (own := RX1) (ci := 1) (j := 5) hin rfl rfl (by decide) (by decide +kernel) iw_X1_sentBy_X1 rfl hd kk
theorem fg_X1_sentBy_15 {i : Nat} (hin : i < 2) (hd : decode cX1_sentBy pc = .ok (.getfield 15, 3)) (kk : mg_G K Z mX1_sentBy post (pc + 3) ls (rv Z 12 i :: st) g) : mg_G K Z mX1_sentBy post pc ls (rv Z 1 i :: st) g :=
  g_get (own := RX1) (ci := 1) (j := 1) hin rfl rfl (by decide) (by decide +kernel) iw_X1_sentBy_X1 rfl hd kk
theorem iw_X2_placeOf_X2 : ∀ w ∈ wsX20, w ∈ wsX2_placeOf := fun w h => List.mem_cons.mpr (Or.inr (List.mem_append.mpr (Or.inr h)))
theorem fg_X2_placeOf_18 {i : Nat} (hin : i < 24) (hd : decode cX2_placeOf pc = .ok (.getfield 18, 3)) (kk : mg_G K Z mX2_placeOf post (pc + 3) ls (iv (g 2 i 2) :: st) g) : mg_G K Z mX2_placeOf post pc ls (rv Z 2 i :: st) g :=
  g_get (own := RX2) (ci := 2) (j := 2) hin rfl rfl (by decide) (by decide +kernel) iw_X2_placeOf_X2 rfl hd kk
theorem fg_X2_placeOf_9 {i : Nat} (hin : i < 24) (hd : decode cX2_placeOf pc = .ok (.getfield 9, 3)) (kk : mg_G K Z mX2_placeOf post (pc + 3) ls (rv Z 16 i :: st) g) : mg_G K Z mX2_placeOf post pc ls (rv Z 2 i :: st) g :=
  g_get (own := RX2) (ci := 2) (j := 0) hin rfl rfl (by decide) (by decide +kernel) iw_X2_placeOf_X2 rfl hd kk
theorem iw_X2_add_X2 : ∀ w ∈ wsX20, w ∈ wsX2_add := fun w h => List.mem_cons.mpr (Or.inr (List.mem_append.mpr (Or.inr h)))
theorem fg_X2_add_18 {i : Nat} (hin : i < 24) (hd : decode cX2_add pc = .ok (.getfield 18, 3)) (kk : mg_G K Z mX2_add post (pc + 3) ls (iv (g 2 i 2) :: st) g) : mg_G K Z mX2_add post pc ls (rv Z 2 i :: st) g :=
  g_get (own := RX2) (ci := 2) (j := 2) hin rfl rfl (by decide) (by decide +kernel) iw_X2_add_X2 rfl hd kk
theorem fg_X2_add_9 {i : Nat} (hin : i < 24) (hd : decode cX2_add pc = .ok (.getfield 9, 3)) (kk : mg_G K Z mX2_add post (pc + 3) ls (rv Z 16 i :: st) g) : mg_G K Z mX2_add post pc ls (rv Z 2 i :: st) g :=
  g_get (own := RX2) (ci := 2) (j := 0) hin rfl rfl (by decide) (by decide +kernel) iw_X2_add_X2 rfl hd kk
theorem fg_X2_add_15 {i : Nat} (hin : i < 24) (hd : decode cX2_add pc = .ok (.getfield 15, 3)) (kk : mg_G K Z mX2_add post (pc + 3) ls (rv Z 17 i :: st) g) : mg_G K Z mX2_add post pc ls (rv Z 2 i :: st) g :=
  g_get (own := RX2) (ci := 2) (j := 1) hin rfl rfl (by decide) (by decide +kernel) iw_X2_add_X2 rfl hd kk
theorem fp_X2_add_18 {i : Nat} (hin : i < 24) {a : Nat} (hd : decode cX2_add pc = .ok (.putfield 18, 3)) (kk : mg_G K Z mX2_add post (pc + 3) ls st (mg_up g 2 i 2 a)) : mg_G K Z mX2_add post pc ls (iv a :: rv Z 2 i :: st) g :=
  g_put (ci := 2) (j := 2) (ty := .int) (ty0 := tyX2) hin rfl rfl rfl (by decide) (by decide +kernel) iw_X2_add_X2 tyX2_ok nmX2 (by decide) rfl rfl rfl (Nat.le_of_ble_eq_true rfl) hd kk
theorem iw_X2_admit_X2 : ∀ w ∈ wsX20, w ∈ wsX2_admit := fun w h => List.mem_cons.mpr (Or.inr (List.mem_append.mpr (Or.inr h)))
theorem fg_X2_admit_15 {i : Nat} (hin : i < 24) (hd : decode cX2_admit pc = .ok (.getfield 15, 3)) (kk : mg_G K Z mX2_admit post (pc + 3) ls (rv Z 17 i :: st) g) : mg_G K Z mX2_admit post pc ls (rv Z 2 i :: st) g :=
  g_get (own := RX2) (ci := 2) (j := 1) hin rfl rfl (by decide) (by decide +kernel) iw_X2_admit_X2 rfl hd kk
theorem iw_X2_serve_X2 : ∀ w ∈ wsX20, w ∈ wsX2_serve := fun w h => List.mem_cons.mpr (Or.inr (List.mem_append.mpr (Or.inr h)))
theorem fg_X2_serve_9 {i : Nat} (hin : i < 24) (hd : decode cX2_serve pc = .ok (.getfield 9, 3)) (kk : mg_G K Z mX2_serve post (pc + 3) ls (rv Z 16 i :: st) g) : mg_G K Z mX2_serve post pc ls (rv Z 2 i :: st) g :=
  g_get (own := RX2) (ci := 2) (j := 0) hin rfl rfl (by decide) (by decide +kernel) iw_X2_serve_X2 rfl hd kk
theorem fg_X2_serve_18 {i : Nat} (hin : i < 24) (hd : decode cX2_serve pc = .ok (.getfield 18, 3)) (kk : mg_G K Z mX2_serve post (pc + 3) ls (iv (g 2 i 2) :: st) g) : mg_G K Z mX2_serve post pc ls (rv Z 2 i :: st) g :=
  g_get (own := RX2) (ci := 2) (j := 2) hin rfl rfl (by decide) (by decide +kernel) iw_X2_serve_X2 rfl hd kk
theorem fg_X2_serve_15 {i : Nat} (hin : i < 24) (hd : decode cX2_serve pc = .ok (.getfield 15, 3)) (kk : mg_G K Z mX2_serve post (pc + 3) ls (rv Z 17 i :: st) g) : mg_G K Z mX2_serve post pc ls (rv Z 2 i :: st) g :=
  g_get (own := RX2) (ci := 2) (j := 1) hin rfl rfl (by decide) (by decide +kernel) iw_X2_serve_X2 rfl hd kk
theorem fp_X2_serve_18 {i : Nat} (hin : i < 24) {a : Nat} (hd : decode cX2_serve pc = .ok (.putfield 18, 3)) (kk : mg_G K Z mX2_serve post (pc + 3) ls st (mg_up g 2 i 2 a)) : mg_G K Z mX2_serve post pc ls (iv a :: rv Z 2 i :: st) g :=
  g_put (ci := 2) (j := 2) (ty := .int) (ty0 := tyX2) hin rfl rfl rfl (by decide) (by decide +kernel) iw_X2_serve_X2 tyX2_ok nmX2 (by decide) rfl rfl rfl (Nat.le_of_ble_eq_true rfl) hd kk
theorem iw_X2_greatestPlace_X2 : ∀ w ∈ wsX20, w ∈ wsX2_greatestPlace := fun w h => List.mem_cons.mpr (Or.inr (List.mem_append.mpr (Or.inr h)))
theorem fg_X2_greatestPlace_18 {i : Nat} (hin : i < 24) (hd : decode cX2_greatestPlace pc = .ok (.getfield 18, 3)) (kk : mg_G K Z mX2_greatestPlace post (pc + 3) ls (iv (g 2 i 2) :: st) g) : mg_G K Z mX2_greatestPlace post pc ls (rv Z 2 i :: st) g :=
  g_get (own := RX2) (ci := 2) (j := 2) hin rfl rfl (by decide) (by decide +kernel) iw_X2_greatestPlace_X2 rfl hd kk
theorem fg_X2_greatestPlace_15 {i : Nat} (hin : i < 24) (hd : decode cX2_greatestPlace pc = .ok (.getfield 15, 3)) (kk : mg_G K Z mX2_greatestPlace post (pc + 3) ls (rv Z 17 i :: st) g) : mg_G K Z mX2_greatestPlace post pc ls (rv Z 2 i :: st) g :=
  g_get (own := RX2) (ci := 2) (j := 1) hin rfl rfl (by decide) (by decide +kernel) iw_X2_greatestPlace_X2 rfl hd kk
theorem iw_X2_greatestRank_X2 : ∀ w ∈ wsX20, w ∈ wsX2_greatestRank := fun w h => List.mem_cons.mpr (Or.inr (List.mem_append.mpr (Or.inr h)))
theorem fg_X2_greatestRank_15 {i : Nat} (hin : i < 24) (hd : decode cX2_greatestRank pc = .ok (.getfield 15, 3)) (kk : mg_G K Z mX2_greatestRank post (pc + 3) ls (rv Z 17 i :: st) g) : mg_G K Z mX2_greatestRank post pc ls (rv Z 2 i :: st) g :=
  g_get (own := RX2) (ci := 2) (j := 1) hin rfl rfl (by decide) (by decide +kernel) iw_X2_greatestRank_X2 rfl hd kk
theorem iw_X3_clear_X3 : ∀ w ∈ wsX30, w ∈ wsX3_clear := fun w h => List.mem_cons.mpr (Or.inr (List.mem_append.mpr (Or.inl (List.mem_append.mpr (Or.inr h)))))
theorem fg_X3_clear_12 {i : Nat} (hin : i < 24) (hd : decode cX3_clear pc = .ok (.getfield 12, 3)) (kk : mg_G K Z mX3_clear post (pc + 3) ls (rv Z 2 i :: st) g) : mg_G K Z mX3_clear post pc ls (rv Z 3 i :: st) g :=
  g_get (own := RX3) (ci := 3) (j := 1) hin rfl rfl (by decide) (by decide +kernel) iw_X3_clear_X3 rfl hd kk
theorem iw_X3_clear_X2 : ∀ w ∈ wsX20, w ∈ wsX3_clear := fun w h => List.mem_cons.mpr (Or.inr (List.mem_append.mpr (Or.inr h)))
theorem fp_X3_clear_22 {i : Nat} (hin : i < 24) {a : Nat} (hd : decode cX3_clear pc = .ok (.putfield 22, 3)) (kk : mg_G K Z mX3_clear post (pc + 3) ls st (mg_up g 2 i 2 a)) : mg_G K Z mX3_clear post pc ls (iv a :: rv Z 2 i :: st) g :=
  g_put (ci := 2) (j := 2) (ty := .int) (ty0 := tyX2) hin rfl rfl rfl (by decide) (by decide +kernel) iw_X3_clear_X2 tyX2_ok nmX2 (by decide) rfl rfl rfl (Nat.le_of_ble_eq_true rfl) hd kk
theorem fp_X3_clear_25 {i : Nat} (hin : i < 24) {a : Nat} (hd : decode cX3_clear pc = .ok (.putfield 25, 3)) (kk : mg_G K Z mX3_clear post (pc + 3) ls st (mg_up g 3 i 2 a)) : mg_G K Z mX3_clear post pc ls (iv a :: rv Z 3 i :: st) g :=
  g_put (ci := 3) (j := 2) (ty := .int) (ty0 := tyX3) hin rfl rfl rfl (by decide) (by decide +kernel) iw_X3_clear_X3 tyX3_ok nmX3 (by decide) rfl rfl rfl (Nat.le_of_ble_eq_true rfl) hd kk
theorem fp_X3_clear_28 {i : Nat} (hin : i < 24) {a : Nat} (hv : a < 2) (hd : decode cX3_clear pc = .ok (.putfield 28, 3)) (kk : mg_G K Z mX3_clear post (pc + 3) ls st (mg_up g 3 i 3 a)) : mg_G K Z mX3_clear post pc ls (iv a :: rv Z 3 i :: st) g :=
  g_put (ci := 3) (j := 3) (ty := .boolean) (ty0 := tyX3) hin rfl rfl rfl (by decide) (by decide +kernel) iw_X3_clear_X3 tyX3_ok nmX3 (by decide) rfl (mg_narZ hv) (mg_fitZ hv) (Nat.le_of_ble_eq_true rfl) hd kk
theorem fp_X3_clear_32 {i : Nat} (hin : i < 24) {a : Nat} (hd : decode cX3_clear pc = .ok (.putfield 32, 3)) (kk : mg_G K Z mX3_clear post (pc + 3) ls st (mg_up g 3 i 4 a)) : mg_G K Z mX3_clear post pc ls (iv a :: rv Z 3 i :: st) g :=
  g_put (ci := 3) (j := 4) (ty := .int) (ty0 := tyX3) hin rfl rfl rfl (by decide) (by decide +kernel) iw_X3_clear_X3 tyX3_ok nmX3 (by decide) rfl rfl rfl (Nat.le_of_ble_eq_true rfl) hd kk
theorem fp_X3_clear_35 {i : Nat} (hin : i < 24) {a : Nat} (hv : a < 2) (hd : decode cX3_clear pc = .ok (.putfield 35, 3)) (kk : mg_G K Z mX3_clear post (pc + 3) ls st (mg_up g 3 i 5 a)) : mg_G K Z mX3_clear post pc ls (iv a :: rv Z 3 i :: st) g :=
  g_put (ci := 3) (j := 5) (ty := .boolean) (ty0 := tyX3) hin rfl rfl rfl (by decide) (by decide +kernel) iw_X3_clear_X3 tyX3_ok nmX3 (by decide) rfl (mg_narZ hv) (mg_fitZ hv) (Nat.le_of_ble_eq_true rfl) hd kk
theorem fp_X3_clear_38 {i : Nat} (hin : i < 24) {a : Nat} (hv : a < 2) (hd : decode cX3_clear pc = .ok (.putfield 38, 3)) (kk : mg_G K Z mX3_clear post (pc + 3) ls st (mg_up g 3 i 6 a)) : mg_G K Z mX3_clear post pc ls (iv a :: rv Z 3 i :: st) g :=
  g_put (ci := 3) (j := 6) (ty := .boolean) (ty0 := tyX3) hin rfl rfl rfl (by decide) (by decide +kernel) iw_X3_clear_X3 tyX3_ok nmX3 (by decide) rfl (mg_narZ hv) (mg_fitZ hv) (Nat.le_of_ble_eq_true rfl) hd kk
theorem fp_X3_clear_41 {i : Nat} (hin : i < 24) {a : Nat} (hd : decode cX3_clear pc = .ok (.putfield 41, 3)) (kk : mg_G K Z mX3_clear post (pc + 3) ls st (mg_up g 3 i 7 a)) : mg_G K Z mX3_clear post pc ls (iv a :: rv Z 3 i :: st) g :=
  g_put (ci := 3) (j := 7) (ty := .int) (ty0 := tyX3) hin rfl rfl rfl (by decide) (by decide +kernel) iw_X3_clear_X3 tyX3_ok nmX3 (by decide) rfl rfl rfl (Nat.le_of_ble_eq_true rfl) hd kk
theorem fp_X3_clear_44 {i : Nat} (hin : i < 24) {a : Nat} (hd : decode cX3_clear pc = .ok (.putfield 44, 3)) (kk : mg_G K Z mX3_clear post (pc + 3) ls st (mg_up g 3 i 8 a)) : mg_G K Z mX3_clear post pc ls (iv a :: rv Z 3 i :: st) g :=
  g_put (ci := 3) (j := 8) (ty := .int) (ty0 := tyX3) hin rfl rfl rfl (by decide) (by decide +kernel) iw_X3_clear_X3 tyX3_ok nmX3 (by decide) rfl rfl rfl (Nat.le_of_ble_eq_true rfl) hd kk
theorem fp_X3_clear_47 {i : Nat} (hin : i < 24) {a : Nat} (hv : a < 2) (hd : decode cX3_clear pc = .ok (.putfield 47, 3)) (kk : mg_G K Z mX3_clear post (pc + 3) ls st (mg_up g 3 i 9 a)) : mg_G K Z mX3_clear post pc ls (iv a :: rv Z 3 i :: st) g :=
  g_put (ci := 3) (j := 9) (ty := .boolean) (ty0 := tyX3) hin rfl rfl rfl (by decide) (by decide +kernel) iw_X3_clear_X3 tyX3_ok nmX3 (by decide) rfl (mg_narZ hv) (mg_fitZ hv) (Nat.le_of_ble_eq_true rfl) hd kk
theorem fp_X3_clear_50 {i : Nat} (hin : i < 24) {a : Nat} (hd : decode cX3_clear pc = .ok (.putfield 50, 3)) (kk : mg_G K Z mX3_clear post (pc + 3) ls st (mg_up g 3 i 10 a)) : mg_G K Z mX3_clear post pc ls (iv a :: rv Z 3 i :: st) g :=
  g_put (ci := 3) (j := 10) (ty := .int) (ty0 := tyX3) hin rfl rfl rfl (by decide) (by decide +kernel) iw_X3_clear_X3 tyX3_ok nmX3 (by decide) rfl rfl rfl (Nat.le_of_ble_eq_true rfl) hd kk
theorem fp_X3_clear_53 {i : Nat} (hin : i < 24) {a : Nat} (hd : decode cX3_clear pc = .ok (.putfield 53, 3)) (kk : mg_G K Z mX3_clear post (pc + 3) ls st (mg_up g 3 i 11 a)) : mg_G K Z mX3_clear post pc ls (iv a :: rv Z 3 i :: st) g :=
  g_put (ci := 3) (j := 11) (ty := .int) (ty0 := tyX3) hin rfl rfl rfl (by decide) (by decide +kernel) iw_X3_clear_X3 tyX3_ok nmX3 (by decide) rfl rfl rfl (Nat.le_of_ble_eq_true rfl) hd kk
theorem iw_X3_holds_X3 : ∀ w ∈ wsX30, w ∈ wsX3_holds := fun w h => List.mem_cons.mpr (Or.inr (List.mem_append.mpr (Or.inr h)))
theorem fg_X3_holds_25 {i : Nat} (hin : i < 24) (hd : decode cX3_holds pc = .ok (.getfield 25, 3)) (kk : mg_G K Z mX3_holds post (pc + 3) ls (iv (g 3 i 2) :: st) g) : mg_G K Z mX3_holds post pc ls (rv Z 3 i :: st) g :=
  g_get (own := RX3) (ci := 3) (j := 2) hin rfl rfl (by decide) (by decide +kernel) iw_X3_holds_X3 rfl hd kk
theorem fg_X3_holds_18 {i : Nat} (hin : i < 24) (hd : decode cX3_holds pc = .ok (.getfield 18, 3)) (kk : mg_G K Z mX3_holds post (pc + 3) ls (iv i :: st) g) : mg_G K Z mX3_holds post pc ls (rv Z 3 i :: st) g :=
  g_get (own := RX3) (ci := 3) (j := 0) hin rfl rfl (by decide) (by decide +kernel) iw_X3_holds_X3 rfl hd kk
theorem iw_X3_pointsAway_X3 : ∀ w ∈ wsX30, w ∈ wsX3_pointsAway := fun w h => List.mem_cons.mpr (Or.inr (List.mem_append.mpr (Or.inr h)))
theorem fg_X3_pointsAway_25 {i : Nat} (hin : i < 24) (hd : decode cX3_pointsAway pc = .ok (.getfield 25, 3)) (kk : mg_G K Z mX3_pointsAway post (pc + 3) ls (iv (g 3 i 2) :: st) g) : mg_G K Z mX3_pointsAway post pc ls (rv Z 3 i :: st) g :=
  g_get (own := RX3) (ci := 3) (j := 2) hin rfl rfl (by decide) (by decide +kernel) iw_X3_pointsAway_X3 rfl hd kk
theorem fg_X3_pointsAway_18 {i : Nat} (hin : i < 24) (hd : decode cX3_pointsAway pc = .ok (.getfield 18, 3)) (kk : mg_G K Z mX3_pointsAway post (pc + 3) ls (iv i :: st) g) : mg_G K Z mX3_pointsAway post pc ls (rv Z 3 i :: st) g :=
  g_get (own := RX3) (ci := 3) (j := 0) hin rfl rfl (by decide) (by decide +kernel) iw_X3_pointsAway_X3 rfl hd kk
theorem iw_X3_wants_X3 : ∀ w ∈ wsX30, w ∈ wsX3_wants := fun w h => List.mem_cons.mpr (Or.inr (List.mem_append.mpr (Or.inl (List.mem_append.mpr (Or.inr h)))))
theorem fg_X3_wants_12 {i : Nat} (hin : i < 24) (hd : decode cX3_wants pc = .ok (.getfield 12, 3)) (kk : mg_G K Z mX3_wants post (pc + 3) ls (rv Z 2 i :: st) g) : mg_G K Z mX3_wants post pc ls (rv Z 3 i :: st) g :=
  g_get (own := RX3) (ci := 3) (j := 1) hin rfl rfl (by decide) (by decide +kernel) iw_X3_wants_X3 rfl hd kk
theorem fg_X3_wants_18 {i : Nat} (hin : i < 24) (hd : decode cX3_wants pc = .ok (.getfield 18, 3)) (kk : mg_G K Z mX3_wants post (pc + 3) ls (iv i :: st) g) : mg_G K Z mX3_wants post pc ls (rv Z 3 i :: st) g :=
  g_get (own := RX3) (ci := 3) (j := 0) hin rfl rfl (by decide) (by decide +kernel) iw_X3_wants_X3 rfl hd kk
theorem iw_X3_stopPumping_X3 : ∀ w ∈ wsX30, w ∈ wsX3_stopPumping := fun w h => List.mem_cons.mpr (Or.inr (List.mem_append.mpr (Or.inr h)))
theorem fp_X3_stopPumping_35 {i : Nat} (hin : i < 24) {a : Nat} (hv : a < 2) (hd : decode cX3_stopPumping pc = .ok (.putfield 35, 3)) (kk : mg_G K Z mX3_stopPumping post (pc + 3) ls st (mg_up g 3 i 5 a)) : mg_G K Z mX3_stopPumping post pc ls (iv a :: rv Z 3 i :: st) g :=
  g_put (ci := 3) (j := 5) (ty := .boolean) (ty0 := tyX3) hin rfl rfl rfl (by decide) (by decide +kernel) iw_X3_stopPumping_X3 tyX3_ok nmX3 (by decide) rfl (mg_narZ hv) (mg_fitZ hv) (Nat.le_of_ble_eq_true rfl) hd kk
theorem fg_X3_stopPumping_44 {i : Nat} (hin : i < 24) (hd : decode cX3_stopPumping pc = .ok (.getfield 44, 3)) (kk : mg_G K Z mX3_stopPumping post (pc + 3) ls (iv (g 3 i 8) :: st) g) : mg_G K Z mX3_stopPumping post pc ls (rv Z 3 i :: st) g :=
  g_get (own := RX3) (ci := 3) (j := 8) hin rfl rfl (by decide) (by decide +kernel) iw_X3_stopPumping_X3 rfl hd kk
theorem fp_X3_stopPumping_44 {i : Nat} (hin : i < 24) {a : Nat} (hd : decode cX3_stopPumping pc = .ok (.putfield 44, 3)) (kk : mg_G K Z mX3_stopPumping post (pc + 3) ls st (mg_up g 3 i 8 a)) : mg_G K Z mX3_stopPumping post pc ls (iv a :: rv Z 3 i :: st) g :=
  g_put (ci := 3) (j := 8) (ty := .int) (ty0 := tyX3) hin rfl rfl rfl (by decide) (by decide +kernel) iw_X3_stopPumping_X3 tyX3_ok nmX3 (by decide) rfl rfl rfl (Nat.le_of_ble_eq_true rfl) hd kk
theorem iw_X3_forget_X3 : ∀ w ∈ wsX30, w ∈ wsX3_forget := fun w h => List.mem_cons.mpr (Or.inr (List.mem_append.mpr (Or.inr h)))
theorem fg_X3_forget_25 {i : Nat} (hin : i < 24) (hd : decode cX3_forget pc = .ok (.getfield 25, 3)) (kk : mg_G K Z mX3_forget post (pc + 3) ls (iv (g 3 i 2) :: st) g) : mg_G K Z mX3_forget post pc ls (rv Z 3 i :: st) g :=
  g_get (own := RX3) (ci := 3) (j := 2) hin rfl rfl (by decide) (by decide +kernel) iw_X3_forget_X3 rfl hd kk
theorem fp_X3_forget_25 {i : Nat} (hin : i < 24) {a : Nat} (hd : decode cX3_forget pc = .ok (.putfield 25, 3)) (kk : mg_G K Z mX3_forget post (pc + 3) ls st (mg_up g 3 i 2 a)) : mg_G K Z mX3_forget post pc ls (iv a :: rv Z 3 i :: st) g :=
  g_put (ci := 3) (j := 2) (ty := .int) (ty0 := tyX3) hin rfl rfl rfl (by decide) (by decide +kernel) iw_X3_forget_X3 tyX3_ok nmX3 (by decide) rfl rfl rfl (Nat.le_of_ble_eq_true rfl) hd kk
theorem iw_X3_greedyPlace_X3 : ∀ w ∈ wsX30, w ∈ wsX3_greedyPlace := fun w h => List.mem_cons.mpr (Or.inr (List.mem_append.mpr (Or.inl (List.mem_append.mpr (Or.inr h)))))
theorem fg_X3_greedyPlace_12 {i : Nat} (hin : i < 24) (hd : decode cX3_greedyPlace pc = .ok (.getfield 12, 3)) (kk : mg_G K Z mX3_greedyPlace post (pc + 3) ls (rv Z 2 i :: st) g) : mg_G K Z mX3_greedyPlace post pc ls (rv Z 3 i :: st) g :=
  g_get (own := RX3) (ci := 3) (j := 1) hin rfl rfl (by decide) (by decide +kernel) iw_X3_greedyPlace_X3 rfl hd kk
theorem fg_X3_greedyPlace_18 {i : Nat} (hin : i < 24) (hd : decode cX3_greedyPlace pc = .ok (.getfield 18, 3)) (kk : mg_G K Z mX3_greedyPlace post (pc + 3) ls (iv i :: st) g) : mg_G K Z mX3_greedyPlace post pc ls (rv Z 3 i :: st) g :=
  g_get (own := RX3) (ci := 3) (j := 0) hin rfl rfl (by decide) (by decide +kernel) iw_X3_greedyPlace_X3 rfl hd kk
theorem fg_X3_greedyPlace_41 {i : Nat} (hin : i < 24) (hd : decode cX3_greedyPlace pc = .ok (.getfield 41, 3)) (kk : mg_G K Z mX3_greedyPlace post (pc + 3) ls (iv (g 3 i 7) :: st) g) : mg_G K Z mX3_greedyPlace post pc ls (rv Z 3 i :: st) g :=
  g_get (own := RX3) (ci := 3) (j := 7) hin rfl rfl (by decide) (by decide +kernel) iw_X3_greedyPlace_X3 rfl hd kk
theorem iw_X3_greedyPlace_X2 : ∀ w ∈ wsX20, w ∈ wsX3_greedyPlace := fun w h => List.mem_cons.mpr (Or.inr (List.mem_append.mpr (Or.inr h)))
theorem fg_X3_greedyPlace_22 {i : Nat} (hin : i < 24) (hd : decode cX3_greedyPlace pc = .ok (.getfield 22, 3)) (kk : mg_G K Z mX3_greedyPlace post (pc + 3) ls (iv (g 2 i 2) :: st) g) : mg_G K Z mX3_greedyPlace post pc ls (rv Z 2 i :: st) g :=
  g_get (own := RX2) (ci := 2) (j := 2) hin rfl rfl (by decide) (by decide +kernel) iw_X3_greedyPlace_X2 rfl hd kk
theorem iw_X3_firstPlace_X3 : ∀ w ∈ wsX30, w ∈ wsX3_firstPlace := fun w h => List.mem_cons.mpr (Or.inr (List.mem_append.mpr (Or.inl (List.mem_append.mpr (Or.inr h)))))
theorem fg_X3_firstPlace_12 {i : Nat} (hin : i < 24) (hd : decode cX3_firstPlace pc = .ok (.getfield 12, 3)) (kk : mg_G K Z mX3_firstPlace post (pc + 3) ls (rv Z 2 i :: st) g) : mg_G K Z mX3_firstPlace post pc ls (rv Z 3 i :: st) g :=
  g_get (own := RX3) (ci := 3) (j := 1) hin rfl rfl (by decide) (by decide +kernel) iw_X3_firstPlace_X3 rfl hd kk
theorem iw_X3_firstPlace_X2 : ∀ w ∈ wsX20, w ∈ wsX3_firstPlace := fun w h => List.mem_cons.mpr (Or.inr (List.mem_append.mpr (Or.inr h)))
theorem fg_X3_firstPlace_22 {i : Nat} (hin : i < 24) (hd : decode cX3_firstPlace pc = .ok (.getfield 22, 3)) (kk : mg_G K Z mX3_firstPlace post (pc + 3) ls (iv (g 2 i 2) :: st) g) : mg_G K Z mX3_firstPlace post pc ls (rv Z 2 i :: st) g :=
  g_get (own := RX2) (ci := 2) (j := 2) hin rfl rfl (by decide) (by decide +kernel) iw_X3_firstPlace_X2 rfl hd kk
theorem iw_X4_canal_X4 : ∀ w ∈ wsX40, w ∈ wsX4_canal := fun w h => List.mem_cons.mpr (Or.inr (List.mem_append.mpr (Or.inl (List.mem_append.mpr (Or.inr h)))))
theorem fp_X4_canal_55 {a : Nat} (hv : a < 2) (hd : decode cX4_canal pc = .ok (.putfield 55, 3)) (kk : mg_G K Z mX4_canal post (pc + 3) ls st (mg_up g 4 0 6 a)) : mg_G K Z mX4_canal post pc ls (iv a :: rv Z 4 0 :: st) g :=
  g_put (ci := 4) (j := 6) (ty := .boolean) (ty0 := tyX4) (show 0 < 1 by omega) rfl rfl rfl (by decide) (by decide +kernel) iw_X4_canal_X4 tyX4_ok nmX4 (by decide) rfl (mg_narZ hv) (mg_fitZ hv) (Nat.le_of_ble_eq_true rfl) hd kk
theorem fg_X4_canal_10 (hd : decode cX4_canal pc = .ok (.getfield 10, 3)) (kk : mg_G K Z mX4_canal post (pc + 3) ls (rv Z 0 0 :: st) g) : mg_G K Z mX4_canal post pc ls (rv Z 4 0 :: st) g :=
  g_get (own := RX4) (ci := 4) (j := 0) (show 0 < 1 by omega) rfl rfl (by decide) (by decide +kernel) iw_X4_canal_X4 rfl hd kk
theorem iw_X4_link_X4 : ∀ w ∈ wsX40, w ∈ wsX4_link := fun w h => List.mem_cons.mpr (Or.inr (List.mem_append.mpr (Or.inl (List.mem_append.mpr (Or.inr h)))))
theorem fg_X4_link_55 (hd : decode cX4_link pc = .ok (.getfield 55, 3)) (kk : mg_G K Z mX4_link post (pc + 3) ls (iv (g 4 0 6) :: st) g) : mg_G K Z mX4_link post pc ls (rv Z 4 0 :: st) g :=
  g_get (own := RX4) (ci := 4) (j := 6) (show 0 < 1 by omega) rfl rfl (by decide) (by decide +kernel) iw_X4_link_X4 rfl hd kk
theorem fg_X4_link_10 (hd : decode cX4_link pc = .ok (.getfield 10, 3)) (kk : mg_G K Z mX4_link post (pc + 3) ls (rv Z 0 0 :: st) g) : mg_G K Z mX4_link post pc ls (rv Z 4 0 :: st) g :=
  g_get (own := RX4) (ci := 4) (j := 0) (show 0 < 1 by omega) rfl rfl (by decide) (by decide +kernel) iw_X4_link_X4 rfl hd kk
theorem iw_X4_link_X0 : ∀ w ∈ wsX00, w ∈ wsX4_link := fun w h => List.mem_cons.mpr (Or.inr (List.mem_append.mpr (Or.inr h)))
theorem fg_X4_link_77 (hd : decode cX4_link pc = .ok (.getfield 77, 3)) (kk : mg_G K Z mX4_link post (pc + 3) ls (iv (g 0 0 2) :: st) g) : mg_G K Z mX4_link post pc ls (rv Z 0 0 :: st) g :=
  g_get (own := RX0) (ci := 0) (j := 2) (show 0 < 1 by omega) rfl rfl (by decide) (by decide +kernel) iw_X4_link_X0 rfl hd kk
theorem iw_X4_pointNeighboursTo_X4 : ∀ w ∈ wsX40, w ∈ wsX4_pointNeighboursTo := fun w h => List.mem_cons.mpr (Or.inr (List.mem_append.mpr (Or.inl (List.mem_append.mpr (Or.inl (List.mem_append.mpr (Or.inr h)))))))
theorem fg_X4_pointNeighboursTo_10 (hd : decode cX4_pointNeighboursTo pc = .ok (.getfield 10, 3)) (kk : mg_G K Z mX4_pointNeighboursTo post (pc + 3) ls (rv Z 0 0 :: st) g) : mg_G K Z mX4_pointNeighboursTo post pc ls (rv Z 4 0 :: st) g :=
  g_get (own := RX4) (ci := 4) (j := 0) (show 0 < 1 by omega) rfl rfl (by decide) (by decide +kernel) iw_X4_pointNeighboursTo_X4 rfl hd kk
theorem iw_X4_pointNeighboursTo_X0 : ∀ w ∈ wsX00, w ∈ wsX4_pointNeighboursTo := fun w h => List.mem_cons.mpr (Or.inr (List.mem_append.mpr (Or.inl (List.mem_append.mpr (Or.inr h)))))
theorem fg_X4_pointNeighboursTo_229 (hd : decode cX4_pointNeighboursTo pc = .ok (.getfield 229, 3)) (kk : mg_G K Z mX4_pointNeighboursTo post (pc + 3) ls (iv (g 0 0 1) :: st) g) : mg_G K Z mX4_pointNeighboursTo post pc ls (rv Z 0 0 :: st) g :=
  g_get (own := RX0) (ci := 0) (j := 1) (show 0 < 1 by omega) rfl rfl (by decide) (by decide +kernel) iw_X4_pointNeighboursTo_X0 rfl hd kk
theorem fg_X4_pointNeighboursTo_18 (hd : decode cX4_pointNeighboursTo pc = .ok (.getfield 18, 3)) (kk : mg_G K Z mX4_pointNeighboursTo post (pc + 3) ls (rv Z 18 0 :: st) g) : mg_G K Z mX4_pointNeighboursTo post pc ls (rv Z 4 0 :: st) g :=
  g_get (own := RX4) (ci := 4) (j := 1) (show 0 < 1 by omega) rfl rfl (by decide) (by decide +kernel) iw_X4_pointNeighboursTo_X4 rfl hd kk
theorem iw_X4_pointNeighboursTo_X3 : ∀ w ∈ wsX30, w ∈ wsX4_pointNeighboursTo := fun w h => List.mem_cons.mpr (Or.inr (List.mem_append.mpr (Or.inr h)))
theorem fg_X4_pointNeighboursTo_258 {i : Nat} (hin : i < 24) (hd : decode cX4_pointNeighboursTo pc = .ok (.getfield 258, 3)) (kk : mg_G K Z mX4_pointNeighboursTo post (pc + 3) ls (iv (g 3 i 2) :: st) g) : mg_G K Z mX4_pointNeighboursTo post pc ls (rv Z 3 i :: st) g :=
  g_get (own := RX3) (ci := 3) (j := 2) hin rfl rfl (by decide) (by decide +kernel) iw_X4_pointNeighboursTo_X3 rfl hd kk
theorem fp_X4_pointNeighboursTo_258 {i : Nat} (hin : i < 24) {a : Nat} (hd : decode cX4_pointNeighboursTo pc = .ok (.putfield 258, 3)) (kk : mg_G K Z mX4_pointNeighboursTo post (pc + 3) ls st (mg_up g 3 i 2 a)) : mg_G K Z mX4_pointNeighboursTo post pc ls (iv a :: rv Z 3 i :: st) g :=
  g_put (ci := 3) (j := 2) (ty := .int) (ty0 := tyX3) hin rfl rfl rfl (by decide) (by decide +kernel) iw_X4_pointNeighboursTo_X3 tyX3_ok nmX3 (by decide) rfl rfl rfl (Nat.le_of_ble_eq_true rfl) hd kk
theorem iw_X4_pointAllTo_X4 : ∀ w ∈ wsX40, w ∈ wsX4_pointAllTo := fun w h => List.mem_cons.mpr (Or.inr (List.mem_append.mpr (Or.inl (List.mem_append.mpr (Or.inl (List.mem_append.mpr (Or.inr h)))))))
theorem fg_X4_pointAllTo_18 (hd : decode cX4_pointAllTo pc = .ok (.getfield 18, 3)) (kk : mg_G K Z mX4_pointAllTo post (pc + 3) ls (rv Z 18 0 :: st) g) : mg_G K Z mX4_pointAllTo post pc ls (rv Z 4 0 :: st) g :=
  g_get (own := RX4) (ci := 4) (j := 1) (show 0 < 1 by omega) rfl rfl (by decide) (by decide +kernel) iw_X4_pointAllTo_X4 rfl hd kk
theorem iw_X4_pointAllTo_X3 : ∀ w ∈ wsX30, w ∈ wsX4_pointAllTo := fun w h => List.mem_cons.mpr (Or.inr (List.mem_append.mpr (Or.inl (List.mem_append.mpr (Or.inr h)))))
theorem fp_X4_pointAllTo_258 {i : Nat} (hin : i < 24) {a : Nat} (hd : decode cX4_pointAllTo pc = .ok (.putfield 258, 3)) (kk : mg_G K Z mX4_pointAllTo post (pc + 3) ls st (mg_up g 3 i 2 a)) : mg_G K Z mX4_pointAllTo post pc ls (iv a :: rv Z 3 i :: st) g :=
  g_put (ci := 3) (j := 2) (ty := .int) (ty0 := tyX3) hin rfl rfl rfl (by decide) (by decide +kernel) iw_X4_pointAllTo_X3 tyX3_ok nmX3 (by decide) rfl rfl rfl (Nat.le_of_ble_eq_true rfl) hd kk
theorem fg_X4_pointAllTo_10 (hd : decode cX4_pointAllTo pc = .ok (.getfield 10, 3)) (kk : mg_G K Z mX4_pointAllTo post (pc + 3) ls (rv Z 0 0 :: st) g) : mg_G K Z mX4_pointAllTo post pc ls (rv Z 4 0 :: st) g :=
  g_get (own := RX4) (ci := 4) (j := 0) (show 0 < 1 by omega) rfl rfl (by decide) (by decide +kernel) iw_X4_pointAllTo_X4 rfl hd kk
theorem iw_X4_pointAllTo_X0 : ∀ w ∈ wsX00, w ∈ wsX4_pointAllTo := fun w h => List.mem_cons.mpr (Or.inr (List.mem_append.mpr (Or.inr h)))
theorem fg_X4_pointAllTo_229 (hd : decode cX4_pointAllTo pc = .ok (.getfield 229, 3)) (kk : mg_G K Z mX4_pointAllTo post (pc + 3) ls (iv (g 0 0 1) :: st) g) : mg_G K Z mX4_pointAllTo post pc ls (rv Z 0 0 :: st) g :=
  g_get (own := RX0) (ci := 0) (j := 1) (show 0 < 1 by omega) rfl rfl (by decide) (by decide +kernel) iw_X4_pointAllTo_X0 rfl hd kk
theorem fg_X4_pointAllTo_258 {i : Nat} (hin : i < 24) (hd : decode cX4_pointAllTo pc = .ok (.getfield 258, 3)) (kk : mg_G K Z mX4_pointAllTo post (pc + 3) ls (iv (g 3 i 2) :: st) g) : mg_G K Z mX4_pointAllTo post pc ls (rv Z 3 i :: st) g :=
  g_get (own := RX3) (ci := 3) (j := 2) hin rfl rfl (by decide) (by decide +kernel) iw_X4_pointAllTo_X3 rfl hd kk
theorem iw_X4_open_X4 : ∀ w ∈ wsX40, w ∈ wsX4_open := fun w h => List.mem_cons.mpr (Or.inr (List.mem_append.mpr (Or.inl (List.mem_append.mpr (Or.inl (List.mem_append.mpr (Or.inl (List.mem_append.mpr (Or.inl (List.mem_append.mpr (Or.inr h)))))))))))
theorem fg_X4_open_55 (hd : decode cX4_open pc = .ok (.getfield 55, 3)) (kk : mg_G K Z mX4_open post (pc + 3) ls (iv (g 4 0 6) :: st) g) : mg_G K Z mX4_open post pc ls (rv Z 4 0 :: st) g :=
  g_get (own := RX4) (ci := 4) (j := 6) (show 0 < 1 by omega) rfl rfl (by decide) (by decide +kernel) iw_X4_open_X4 rfl hd kk
theorem fg_X4_open_10 (hd : decode cX4_open pc = .ok (.getfield 10, 3)) (kk : mg_G K Z mX4_open post (pc + 3) ls (rv Z 0 0 :: st) g) : mg_G K Z mX4_open post pc ls (rv Z 4 0 :: st) g :=
  g_get (own := RX4) (ci := 4) (j := 0) (show 0 < 1 by omega) rfl rfl (by decide) (by decide +kernel) iw_X4_open_X4 rfl hd kk
theorem fp_X4_open_85 {a : Nat} (hd : decode cX4_open pc = .ok (.putfield 85, 3)) (kk : mg_G K Z mX4_open post (pc + 3) ls st (mg_up g 4 0 7 a)) : mg_G K Z mX4_open post pc ls (iv a :: rv Z 4 0 :: st) g :=
  g_put (ci := 4) (j := 7) (ty := .int) (ty0 := tyX4) (show 0 < 1 by omega) rfl rfl rfl (by decide) (by decide +kernel) iw_X4_open_X4 tyX4_ok nmX4 (by decide) rfl rfl rfl (Nat.le_of_ble_eq_true rfl) hd kk
theorem fp_X4_open_88 {a : Nat} (hd : decode cX4_open pc = .ok (.putfield 88, 3)) (kk : mg_G K Z mX4_open post (pc + 3) ls st (mg_up g 4 0 8 a)) : mg_G K Z mX4_open post pc ls (iv a :: rv Z 4 0 :: st) g :=
  g_put (ci := 4) (j := 8) (ty := .int) (ty0 := tyX4) (show 0 < 1 by omega) rfl rfl rfl (by decide) (by decide +kernel) iw_X4_open_X4 tyX4_ok nmX4 (by decide) rfl rfl rfl (Nat.le_of_ble_eq_true rfl) hd kk
theorem fp_X4_open_91 {a : Nat} (hd : decode cX4_open pc = .ok (.putfield 91, 3)) (kk : mg_G K Z mX4_open post (pc + 3) ls st (mg_up g 4 0 9 a)) : mg_G K Z mX4_open post pc ls (iv a :: rv Z 4 0 :: st) g :=
  g_put (ci := 4) (j := 9) (ty := .int) (ty0 := tyX4) (show 0 < 1 by omega) rfl rfl rfl (by decide) (by decide +kernel) iw_X4_open_X4 tyX4_ok nmX4 (by decide) rfl rfl rfl (Nat.le_of_ble_eq_true rfl) hd kk
theorem fg_X4_open_27 (hd : decode cX4_open pc = .ok (.getfield 27, 3)) (kk : mg_G K Z mX4_open post (pc + 3) ls (rv Z 1 0 :: st) g) : mg_G K Z mX4_open post pc ls (rv Z 4 0 :: st) g :=
  g_get (own := RX4) (ci := 4) (j := 2) (show 0 < 1 by omega) rfl rfl (by decide) (by decide +kernel) iw_X4_open_X4 rfl hd kk
theorem iw_X4_open_X1 : ∀ w ∈ wsX10, w ∈ wsX4_open := fun w h => List.mem_cons.mpr (Or.inr (List.mem_append.mpr (Or.inl (List.mem_append.mpr (Or.inl (List.mem_append.mpr (Or.inl (List.mem_append.mpr (Or.inr h)))))))))
theorem fp_X4_open_94 {i : Nat} (hin : i < 2) {a : Nat} (hd : decode cX4_open pc = .ok (.putfield 94, 3)) (kk : mg_G K Z mX4_open post (pc + 3) ls st (mg_up g 1 i 5 a)) : mg_G K Z mX4_open post pc ls (iv a :: rv Z 1 i :: st) g :=
  g_put (ci := 1) (j := 5) (ty := .int) (ty0 := tyX1) hin rfl rfl rfl (by decide) (by decide +kernel) iw_X4_open_X1 tyX1_ok nmX1 (by decide) rfl rfl rfl (Nat.le_of_ble_eq_true rfl) hd kk
theorem fg_X4_open_31 (hd : decode cX4_open pc = .ok (.getfield 31, 3)) (kk : mg_G K Z mX4_open post (pc + 3) ls (rv Z 1 1 :: st) g) : mg_G K Z mX4_open post pc ls (rv Z 4 0 :: st) g :=
  g_get (own := RX4) (ci := 4) (j := 3) (show 0 < 1 by omega) rfl rfl (by decide) (by decide +kernel) iw_X4_open_X4 rfl hd kk
theorem fg_X4_open_18 (hd : decode cX4_open pc = .ok (.getfield 18, 3)) (kk : mg_G K Z mX4_open post (pc + 3) ls (rv Z 18 0 :: st) g) : mg_G K Z mX4_open post pc ls (rv Z 4 0 :: st) g :=
  g_get (own := RX4) (ci := 4) (j := 1) (show 0 < 1 by omega) rfl rfl (by decide) (by decide +kernel) iw_X4_open_X4 rfl hd kk
theorem fg_X4_open_36 (hd : decode cX4_open pc = .ok (.getfield 36, 3)) (kk : mg_G K Z mX4_open post (pc + 3) ls (rv Z 19 0 :: st) g) : mg_G K Z mX4_open post pc ls (rv Z 4 0 :: st) g :=
  g_get (own := RX4) (ci := 4) (j := 4) (show 0 < 1 by omega) rfl rfl (by decide) (by decide +kernel) iw_X4_open_X4 rfl hd kk
theorem fg_X4_open_39 (hd : decode cX4_open pc = .ok (.getfield 39, 3)) (kk : mg_G K Z mX4_open post (pc + 3) ls (rv Z 20 0 :: st) g) : mg_G K Z mX4_open post pc ls (rv Z 4 0 :: st) g :=
  g_get (own := RX4) (ci := 4) (j := 5) (show 0 < 1 by omega) rfl rfl (by decide) (by decide +kernel) iw_X4_open_X4 rfl hd kk
theorem fp_X4_open_55 {a : Nat} (hv : a < 2) (hd : decode cX4_open pc = .ok (.putfield 55, 3)) (kk : mg_G K Z mX4_open post (pc + 3) ls st (mg_up g 4 0 6 a)) : mg_G K Z mX4_open post pc ls (iv a :: rv Z 4 0 :: st) g :=
  g_put (ci := 4) (j := 6) (ty := .boolean) (ty0 := tyX4) (show 0 < 1 by omega) rfl rfl rfl (by decide) (by decide +kernel) iw_X4_open_X4 tyX4_ok nmX4 (by decide) rfl (mg_narZ hv) (mg_fitZ hv) (Nat.le_of_ble_eq_true rfl) hd kk
theorem iw_X4_isStation_X4 : ∀ w ∈ wsX40, w ∈ wsX4_isStation := fun w h => List.mem_cons.mpr (Or.inr (List.mem_append.mpr (Or.inl (List.mem_append.mpr (Or.inr h)))))
theorem fg_X4_isStation_55 (hd : decode cX4_isStation pc = .ok (.getfield 55, 3)) (kk : mg_G K Z mX4_isStation post (pc + 3) ls (iv (g 4 0 6) :: st) g) : mg_G K Z mX4_isStation post pc ls (rv Z 4 0 :: st) g :=
  g_get (own := RX4) (ci := 4) (j := 6) (show 0 < 1 by omega) rfl rfl (by decide) (by decide +kernel) iw_X4_isStation_X4 rfl hd kk
theorem fg_X4_isStation_10 (hd : decode cX4_isStation pc = .ok (.getfield 10, 3)) (kk : mg_G K Z mX4_isStation post (pc + 3) ls (rv Z 0 0 :: st) g) : mg_G K Z mX4_isStation post pc ls (rv Z 4 0 :: st) g :=
  g_get (own := RX4) (ci := 4) (j := 0) (show 0 < 1 by omega) rfl rfl (by decide) (by decide +kernel) iw_X4_isStation_X4 rfl hd kk
theorem iw_X4_isUp_X4 : ∀ w ∈ wsX40, w ∈ wsX4_isUp := fun w h => List.mem_cons.mpr (Or.inr (List.mem_append.mpr (Or.inl (List.mem_append.mpr (Or.inl (List.mem_append.mpr (Or.inr h)))))))
theorem fg_X4_isUp_18 (hd : decode cX4_isUp pc = .ok (.getfield 18, 3)) (kk : mg_G K Z mX4_isUp post (pc + 3) ls (rv Z 18 0 :: st) g) : mg_G K Z mX4_isUp post pc ls (rv Z 4 0 :: st) g :=
  g_get (own := RX4) (ci := 4) (j := 1) (show 0 < 1 by omega) rfl rfl (by decide) (by decide +kernel) iw_X4_isUp_X4 rfl hd kk
theorem iw_X4_isUp_X3 : ∀ w ∈ wsX30, w ∈ wsX4_isUp := fun w h => List.mem_cons.mpr (Or.inr (List.mem_append.mpr (Or.inl (List.mem_append.mpr (Or.inr h)))))
theorem fg_X4_isUp_211 {i : Nat} (hin : i < 24) (hd : decode cX4_isUp pc = .ok (.getfield 211, 3)) (kk : mg_G K Z mX4_isUp post (pc + 3) ls (iv (g 3 i 6) :: st) g) : mg_G K Z mX4_isUp post pc ls (rv Z 3 i :: st) g :=
  g_get (own := RX3) (ci := 3) (j := 6) hin rfl rfl (by decide) (by decide +kernel) iw_X4_isUp_X3 rfl hd kk
theorem iw_X4_want_X4 : ∀ w ∈ wsX40, w ∈ wsX4_want := fun w h => List.mem_cons.mpr (Or.inr (List.mem_append.mpr (Or.inl (List.mem_append.mpr (Or.inl (List.mem_append.mpr (Or.inl (List.mem_append.mpr (Or.inr h)))))))))
theorem fg_X4_want_18 (hd : decode cX4_want pc = .ok (.getfield 18, 3)) (kk : mg_G K Z mX4_want post (pc + 3) ls (rv Z 18 0 :: st) g) : mg_G K Z mX4_want post pc ls (rv Z 4 0 :: st) g :=
  g_get (own := RX4) (ci := 4) (j := 1) (show 0 < 1 by omega) rfl rfl (by decide) (by decide +kernel) iw_X4_want_X4 rfl hd kk
theorem iw_X4_want_X3 : ∀ w ∈ wsX30, w ∈ wsX4_want := fun w h => List.mem_cons.mpr (Or.inr (List.mem_append.mpr (Or.inl (List.mem_append.mpr (Or.inl (List.mem_append.mpr (Or.inr h)))))))
theorem fg_X4_want_111 {i : Nat} (hin : i < 24) (hd : decode cX4_want pc = .ok (.getfield 111, 3)) (kk : mg_G K Z mX4_want post (pc + 3) ls (iv (g 3 i 5) :: st) g) : mg_G K Z mX4_want post pc ls (rv Z 3 i :: st) g :=
  g_get (own := RX3) (ci := 3) (j := 5) hin rfl rfl (by decide) (by decide +kernel) iw_X4_want_X3 rfl hd kk
theorem fg_X4_want_118 {i : Nat} (hin : i < 24) (hd : decode cX4_want pc = .ok (.getfield 118, 3)) (kk : mg_G K Z mX4_want post (pc + 3) ls (rv Z 2 i :: st) g) : mg_G K Z mX4_want post pc ls (rv Z 3 i :: st) g :=
  g_get (own := RX3) (ci := 3) (j := 1) hin rfl rfl (by decide) (by decide +kernel) iw_X4_want_X3 rfl hd kk
theorem fp_X4_want_127 {i : Nat} (hin : i < 24) {a : Nat} (hv : a < 2) (hd : decode cX4_want pc = .ok (.putfield 127, 3)) (kk : mg_G K Z mX4_want post (pc + 3) ls st (mg_up g 3 i 9 a)) : mg_G K Z mX4_want post pc ls (iv a :: rv Z 3 i :: st) g :=
  g_put (ci := 3) (j := 9) (ty := .boolean) (ty0 := tyX3) hin rfl rfl rfl (by decide) (by decide +kernel) iw_X4_want_X3 tyX3_ok nmX3 (by decide) rfl (mg_narZ hv) (mg_fitZ hv) (Nat.le_of_ble_eq_true rfl) hd kk
theorem fp_X4_want_130 {i : Nat} (hin : i < 24) {a : Nat} (hd : decode cX4_want pc = .ok (.putfield 130, 3)) (kk : mg_G K Z mX4_want post (pc + 3) ls st (mg_up g 3 i 10 a)) : mg_G K Z mX4_want post pc ls (iv a :: rv Z 3 i :: st) g :=
  g_put (ci := 3) (j := 10) (ty := .int) (ty0 := tyX3) hin rfl rfl rfl (by decide) (by decide +kernel) iw_X4_want_X3 tyX3_ok nmX3 (by decide) rfl rfl rfl (Nat.le_of_ble_eq_true rfl) hd kk
theorem iw_X4_want_X2 : ∀ w ∈ wsX20, w ∈ wsX4_want := fun w h => List.mem_cons.mpr (Or.inr (List.mem_append.mpr (Or.inl (List.mem_append.mpr (Or.inr h)))))
theorem fg_X4_want_133 {i : Nat} (hin : i < 24) (hd : decode cX4_want pc = .ok (.getfield 133, 3)) (kk : mg_G K Z mX4_want post (pc + 3) ls (iv (g 2 i 2) :: st) g) : mg_G K Z mX4_want post pc ls (rv Z 2 i :: st) g :=
  g_get (own := RX2) (ci := 2) (j := 2) hin rfl rfl (by decide) (by decide +kernel) iw_X4_want_X2 rfl hd kk
theorem iw_X4_tellOthersOfBegin_X4 : ∀ w ∈ wsX40, w ∈ wsX4_tellOthersOfBegin := fun w h => List.mem_cons.mpr (Or.inr (List.mem_append.mpr (Or.inl (List.mem_append.mpr (Or.inl (List.mem_append.mpr (Or.inr h)))))))
theorem fg_X4_tellOthersOfBegin_10 (hd : decode cX4_tellOthersOfBegin pc = .ok (.getfield 10, 3)) (kk : mg_G K Z mX4_tellOthersOfBegin post (pc + 3) ls (rv Z 0 0 :: st) g) : mg_G K Z mX4_tellOthersOfBegin post pc ls (rv Z 4 0 :: st) g :=
  g_get (own := RX4) (ci := 4) (j := 0) (show 0 < 1 by omega) rfl rfl (by decide) (by decide +kernel) iw_X4_tellOthersOfBegin_X4 rfl hd kk
theorem iw_X4_tellOthersOfBegin_X0 : ∀ w ∈ wsX00, w ∈ wsX4_tellOthersOfBegin := fun w h => List.mem_cons.mpr (Or.inr (List.mem_append.mpr (Or.inl (List.mem_append.mpr (Or.inr h)))))
theorem fg_X4_tellOthersOfBegin_229 (hd : decode cX4_tellOthersOfBegin pc = .ok (.getfield 229, 3)) (kk : mg_G K Z mX4_tellOthersOfBegin post (pc + 3) ls (iv (g 0 0 1) :: st) g) : mg_G K Z mX4_tellOthersOfBegin post pc ls (rv Z 0 0 :: st) g :=
  g_get (own := RX0) (ci := 0) (j := 1) (show 0 < 1 by omega) rfl rfl (by decide) (by decide +kernel) iw_X4_tellOthersOfBegin_X0 rfl hd kk
theorem fg_X4_tellOthersOfBegin_18 (hd : decode cX4_tellOthersOfBegin pc = .ok (.getfield 18, 3)) (kk : mg_G K Z mX4_tellOthersOfBegin post (pc + 3) ls (rv Z 18 0 :: st) g) : mg_G K Z mX4_tellOthersOfBegin post pc ls (rv Z 4 0 :: st) g :=
  g_get (own := RX4) (ci := 4) (j := 1) (show 0 < 1 by omega) rfl rfl (by decide) (by decide +kernel) iw_X4_tellOthersOfBegin_X4 rfl hd kk
theorem iw_X4_tellOthersOfBegin_X3 : ∀ w ∈ wsX30, w ∈ wsX4_tellOthersOfBegin := fun w h => List.mem_cons.mpr (Or.inr (List.mem_append.mpr (Or.inr h)))
theorem fg_X4_tellOthersOfBegin_127 {i : Nat} (hin : i < 24) (hd : decode cX4_tellOthersOfBegin pc = .ok (.getfield 127, 3)) (kk : mg_G K Z mX4_tellOthersOfBegin post (pc + 3) ls (iv (g 3 i 9) :: st) g) : mg_G K Z mX4_tellOthersOfBegin post pc ls (rv Z 3 i :: st) g :=
  g_get (own := RX3) (ci := 3) (j := 9) hin rfl rfl (by decide) (by decide +kernel) iw_X4_tellOthersOfBegin_X3 rfl hd kk
theorem fg_X4_tellOthersOfBegin_130 {i : Nat} (hin : i < 24) (hd : decode cX4_tellOthersOfBegin pc = .ok (.getfield 130, 3)) (kk : mg_G K Z mX4_tellOthersOfBegin post (pc + 3) ls (iv (g 3 i 10) :: st) g) : mg_G K Z mX4_tellOthersOfBegin post pc ls (rv Z 3 i :: st) g :=
  g_get (own := RX3) (ci := 3) (j := 10) hin rfl rfl (by decide) (by decide +kernel) iw_X4_tellOthersOfBegin_X3 rfl hd kk
theorem fp_X4_tellOthersOfBegin_130 {i : Nat} (hin : i < 24) {a : Nat} (hd : decode cX4_tellOthersOfBegin pc = .ok (.putfield 130, 3)) (kk : mg_G K Z mX4_tellOthersOfBegin post (pc + 3) ls st (mg_up g 3 i 10 a)) : mg_G K Z mX4_tellOthersOfBegin post pc ls (iv a :: rv Z 3 i :: st) g :=
  g_put (ci := 3) (j := 10) (ty := .int) (ty0 := tyX3) hin rfl rfl rfl (by decide) (by decide +kernel) iw_X4_tellOthersOfBegin_X3 tyX3_ok nmX3 (by decide) rfl rfl rfl (Nat.le_of_ble_eq_true rfl) hd kk
theorem iw_X4_begin_X4 : ∀ w ∈ wsX40, w ∈ wsX4_begin := fun w h => List.mem_cons.mpr (Or.inr (List.mem_append.mpr (Or.inl (List.mem_append.mpr (Or.inl (List.mem_append.mpr (Or.inl (List.mem_append.mpr (Or.inr h)))))))))
theorem fg_X4_begin_18 (hd : decode cX4_begin pc = .ok (.getfield 18, 3)) (kk : mg_G K Z mX4_begin post (pc + 3) ls (rv Z 18 0 :: st) g) : mg_G K Z mX4_begin post pc ls (rv Z 4 0 :: st) g :=
  g_get (own := RX4) (ci := 4) (j := 1) (show 0 < 1 by omega) rfl rfl (by decide) (by decide +kernel) iw_X4_begin_X4 rfl hd kk
theorem fg_X4_begin_85 (hd : decode cX4_begin pc = .ok (.getfield 85, 3)) (kk : mg_G K Z mX4_begin post (pc + 3) ls (iv (g 4 0 7) :: st) g) : mg_G K Z mX4_begin post pc ls (rv Z 4 0 :: st) g :=
  g_get (own := RX4) (ci := 4) (j := 7) (show 0 < 1 by omega) rfl rfl (by decide) (by decide +kernel) iw_X4_begin_X4 rfl hd kk
theorem fg_X4_begin_88 (hd : decode cX4_begin pc = .ok (.getfield 88, 3)) (kk : mg_G K Z mX4_begin post (pc + 3) ls (iv (g 4 0 8) :: st) g) : mg_G K Z mX4_begin post pc ls (rv Z 4 0 :: st) g :=
  g_get (own := RX4) (ci := 4) (j := 8) (show 0 < 1 by omega) rfl rfl (by decide) (by decide +kernel) iw_X4_begin_X4 rfl hd kk
theorem iw_X4_begin_X3 : ∀ w ∈ wsX30, w ∈ wsX4_begin := fun w h => List.mem_cons.mpr (Or.inr (List.mem_append.mpr (Or.inl (List.mem_append.mpr (Or.inl (List.mem_append.mpr (Or.inr h)))))))
theorem fg_X4_begin_111 {i : Nat} (hin : i < 24) (hd : decode cX4_begin pc = .ok (.getfield 111, 3)) (kk : mg_G K Z mX4_begin post (pc + 3) ls (iv (g 3 i 5) :: st) g) : mg_G K Z mX4_begin post pc ls (rv Z 3 i :: st) g :=
  g_get (own := RX3) (ci := 3) (j := 5) hin rfl rfl (by decide) (by decide +kernel) iw_X4_begin_X3 rfl hd kk
theorem fg_X4_begin_118 {i : Nat} (hin : i < 24) (hd : decode cX4_begin pc = .ok (.getfield 118, 3)) (kk : mg_G K Z mX4_begin post (pc + 3) ls (rv Z 2 i :: st) g) : mg_G K Z mX4_begin post pc ls (rv Z 3 i :: st) g :=
  g_get (own := RX3) (ci := 3) (j := 1) hin rfl rfl (by decide) (by decide +kernel) iw_X4_begin_X3 rfl hd kk
theorem iw_X4_begin_X2 : ∀ w ∈ wsX20, w ∈ wsX4_begin := fun w h => List.mem_cons.mpr (Or.inr (List.mem_append.mpr (Or.inl (List.mem_append.mpr (Or.inr h)))))
theorem fg_X4_begin_142 {i : Nat} (hin : i < 24) (hd : decode cX4_begin pc = .ok (.getfield 142, 3)) (kk : mg_G K Z mX4_begin post (pc + 3) ls (rv Z 16 i :: st) g) : mg_G K Z mX4_begin post pc ls (rv Z 2 i :: st) g :=
  g_get (own := RX2) (ci := 2) (j := 0) hin rfl rfl (by decide) (by decide +kernel) iw_X4_begin_X2 rfl hd kk
theorem fg_X4_begin_146 {i : Nat} (hin : i < 24) (hd : decode cX4_begin pc = .ok (.getfield 146, 3)) (kk : mg_G K Z mX4_begin post (pc + 3) ls (iv (g 3 i 11) :: st) g) : mg_G K Z mX4_begin post pc ls (rv Z 3 i :: st) g :=
  g_get (own := RX3) (ci := 3) (j := 11) hin rfl rfl (by decide) (by decide +kernel) iw_X4_begin_X3 rfl hd kk
theorem fp_X4_begin_146 {i : Nat} (hin : i < 24) {a : Nat} (hd : decode cX4_begin pc = .ok (.putfield 146, 3)) (kk : mg_G K Z mX4_begin post (pc + 3) ls st (mg_up g 3 i 11 a)) : mg_G K Z mX4_begin post pc ls (iv a :: rv Z 3 i :: st) g :=
  g_put (ci := 3) (j := 11) (ty := .int) (ty0 := tyX3) hin rfl rfl rfl (by decide) (by decide +kernel) iw_X4_begin_X3 tyX3_ok nmX3 (by decide) rfl rfl rfl (Nat.le_of_ble_eq_true rfl) hd kk
theorem fg_X4_begin_133 {i : Nat} (hin : i < 24) (hd : decode cX4_begin pc = .ok (.getfield 133, 3)) (kk : mg_G K Z mX4_begin post (pc + 3) ls (iv (g 2 i 2) :: st) g) : mg_G K Z mX4_begin post pc ls (rv Z 2 i :: st) g :=
  g_get (own := RX2) (ci := 2) (j := 2) hin rfl rfl (by decide) (by decide +kernel) iw_X4_begin_X2 rfl hd kk
theorem fg_X4_begin_152 {i : Nat} (hin : i < 24) (hd : decode cX4_begin pc = .ok (.getfield 152, 3)) (kk : mg_G K Z mX4_begin post (pc + 3) ls (iv (g 3 i 7) :: st) g) : mg_G K Z mX4_begin post pc ls (rv Z 3 i :: st) g :=
  g_get (own := RX3) (ci := 3) (j := 7) hin rfl rfl (by decide) (by decide +kernel) iw_X4_begin_X3 rfl hd kk
theorem fp_X4_begin_152 {i : Nat} (hin : i < 24) {a : Nat} (hd : decode cX4_begin pc = .ok (.putfield 152, 3)) (kk : mg_G K Z mX4_begin post (pc + 3) ls st (mg_up g 3 i 7 a)) : mg_G K Z mX4_begin post pc ls (iv a :: rv Z 3 i :: st) g :=
  g_put (ci := 3) (j := 7) (ty := .int) (ty0 := tyX3) hin rfl rfl rfl (by decide) (by decide +kernel) iw_X4_begin_X3 tyX3_ok nmX3 (by decide) rfl rfl rfl (Nat.le_of_ble_eq_true rfl) hd kk
theorem fp_X4_begin_111 {i : Nat} (hin : i < 24) {a : Nat} (hv : a < 2) (hd : decode cX4_begin pc = .ok (.putfield 111, 3)) (kk : mg_G K Z mX4_begin post (pc + 3) ls st (mg_up g 3 i 5 a)) : mg_G K Z mX4_begin post pc ls (iv a :: rv Z 3 i :: st) g :=
  g_put (ci := 3) (j := 5) (ty := .boolean) (ty0 := tyX3) hin rfl rfl rfl (by decide) (by decide +kernel) iw_X4_begin_X3 tyX3_ok nmX3 (by decide) rfl (mg_narZ hv) (mg_fitZ hv) (Nat.le_of_ble_eq_true rfl) hd kk
theorem fg_X4_begin_91 (hd : decode cX4_begin pc = .ok (.getfield 91, 3)) (kk : mg_G K Z mX4_begin post (pc + 3) ls (iv (g 4 0 9) :: st) g) : mg_G K Z mX4_begin post pc ls (rv Z 4 0 :: st) g :=
  g_get (own := RX4) (ci := 4) (j := 9) (show 0 < 1 by omega) rfl rfl (by decide) (by decide +kernel) iw_X4_begin_X4 rfl hd kk
theorem fp_X4_begin_91 {a : Nat} (hd : decode cX4_begin pc = .ok (.putfield 91, 3)) (kk : mg_G K Z mX4_begin post (pc + 3) ls st (mg_up g 4 0 9 a)) : mg_G K Z mX4_begin post pc ls (iv a :: rv Z 4 0 :: st) g :=
  g_put (ci := 4) (j := 9) (ty := .int) (ty0 := tyX4) (show 0 < 1 by omega) rfl rfl rfl (by decide) (by decide +kernel) iw_X4_begin_X4 tyX4_ok nmX4 (by decide) rfl rfl rfl (Nat.le_of_ble_eq_true rfl) hd kk
theorem iw_X4_end_X4 : ∀ w ∈ wsX40, w ∈ wsX4_end := fun w h => List.mem_cons.mpr (Or.inr (List.mem_append.mpr (Or.inl (List.mem_append.mpr (Or.inl (List.mem_append.mpr (Or.inr h)))))))
theorem fg_X4_end_18 (hd : decode cX4_end pc = .ok (.getfield 18, 3)) (kk : mg_G K Z mX4_end post (pc + 3) ls (rv Z 18 0 :: st) g) : mg_G K Z mX4_end post pc ls (rv Z 4 0 :: st) g :=
  g_get (own := RX4) (ci := 4) (j := 1) (show 0 < 1 by omega) rfl rfl (by decide) (by decide +kernel) iw_X4_end_X4 rfl hd kk
theorem iw_X4_end_X3 : ∀ w ∈ wsX30, w ∈ wsX4_end := fun w h => List.mem_cons.mpr (Or.inr (List.mem_append.mpr (Or.inl (List.mem_append.mpr (Or.inr h)))))
theorem fg_X4_end_111 {i : Nat} (hin : i < 24) (hd : decode cX4_end pc = .ok (.getfield 111, 3)) (kk : mg_G K Z mX4_end post (pc + 3) ls (iv (g 3 i 5) :: st) g) : mg_G K Z mX4_end post pc ls (rv Z 3 i :: st) g :=
  g_get (own := RX3) (ci := 3) (j := 5) hin rfl rfl (by decide) (by decide +kernel) iw_X4_end_X3 rfl hd kk
theorem fg_X4_end_164 {i : Nat} (hin : i < 24) (hd : decode cX4_end pc = .ok (.getfield 164, 3)) (kk : mg_G K Z mX4_end post (pc + 3) ls (iv (g 3 i 8) :: st) g) : mg_G K Z mX4_end post pc ls (rv Z 3 i :: st) g :=
  g_get (own := RX3) (ci := 3) (j := 8) hin rfl rfl (by decide) (by decide +kernel) iw_X4_end_X3 rfl hd kk
theorem iw_X4_canPassOn_X4 : ∀ w ∈ wsX40, w ∈ wsX4_canPassOn := fun w h => List.mem_cons.mpr (Or.inr (List.mem_append.mpr (Or.inl (List.mem_append.mpr (Or.inl (List.mem_append.mpr (Or.inr h)))))))
theorem fg_X4_canPassOn_85 (hd : decode cX4_canPassOn pc = .ok (.getfield 85, 3)) (kk : mg_G K Z mX4_canPassOn post (pc + 3) ls (iv (g 4 0 7) :: st) g) : mg_G K Z mX4_canPassOn post pc ls (rv Z 4 0 :: st) g :=
  g_get (own := RX4) (ci := 4) (j := 7) (show 0 < 1 by omega) rfl rfl (by decide) (by decide +kernel) iw_X4_canPassOn_X4 rfl hd kk
theorem fg_X4_canPassOn_88 (hd : decode cX4_canPassOn pc = .ok (.getfield 88, 3)) (kk : mg_G K Z mX4_canPassOn post (pc + 3) ls (iv (g 4 0 8) :: st) g) : mg_G K Z mX4_canPassOn post pc ls (rv Z 4 0 :: st) g :=
  g_get (own := RX4) (ci := 4) (j := 8) (show 0 < 1 by omega) rfl rfl (by decide) (by decide +kernel) iw_X4_canPassOn_X4 rfl hd kk
theorem iw_X4_canPassOn_X3 : ∀ w ∈ wsX30, w ∈ wsX4_canPassOn := fun w h => List.mem_cons.mpr (Or.inr (List.mem_append.mpr (Or.inl (List.mem_append.mpr (Or.inr h)))))
theorem fg_X4_canPassOn_111 {i : Nat} (hin : i < 24) (hd : decode cX4_canPassOn pc = .ok (.getfield 111, 3)) (kk : mg_G K Z mX4_canPassOn post (pc + 3) ls (iv (g 3 i 5) :: st) g) : mg_G K Z mX4_canPassOn post pc ls (rv Z 3 i :: st) g :=
  g_get (own := RX3) (ci := 3) (j := 5) hin rfl rfl (by decide) (by decide +kernel) iw_X4_canPassOn_X3 rfl hd kk
theorem fg_X4_canPassOn_118 {i : Nat} (hin : i < 24) (hd : decode cX4_canPassOn pc = .ok (.getfield 118, 3)) (kk : mg_G K Z mX4_canPassOn post (pc + 3) ls (rv Z 2 i :: st) g) : mg_G K Z mX4_canPassOn post pc ls (rv Z 3 i :: st) g :=
  g_get (own := RX3) (ci := 3) (j := 1) hin rfl rfl (by decide) (by decide +kernel) iw_X4_canPassOn_X3 rfl hd kk
theorem iw_X4_canPassOn_X2 : ∀ w ∈ wsX20, w ∈ wsX4_canPassOn := fun w h => List.mem_cons.mpr (Or.inr (List.mem_append.mpr (Or.inr h)))
theorem fg_X4_canPassOn_142 {i : Nat} (hin : i < 24) (hd : decode cX4_canPassOn pc = .ok (.getfield 142, 3)) (kk : mg_G K Z mX4_canPassOn post (pc + 3) ls (rv Z 16 i :: st) g) : mg_G K Z mX4_canPassOn post pc ls (rv Z 2 i :: st) g :=
  g_get (own := RX2) (ci := 2) (j := 0) hin rfl rfl (by decide) (by decide +kernel) iw_X4_canPassOn_X2 rfl hd kk
theorem fg_X4_canPassOn_274 {i : Nat} (hin : i < 24) (hd : decode cX4_canPassOn pc = .ok (.getfield 274, 3)) (kk : mg_G K Z mX4_canPassOn post (pc + 3) ls (iv i :: st) g) : mg_G K Z mX4_canPassOn post pc ls (rv Z 3 i :: st) g :=
  g_get (own := RX3) (ci := 3) (j := 0) hin rfl rfl (by decide) (by decide +kernel) iw_X4_canPassOn_X3 rfl hd kk
theorem iw_X4_copyFirst_X4 : ∀ w ∈ wsX40, w ∈ wsX4_copyFirst := fun w h => List.mem_cons.mpr (Or.inr (List.mem_append.mpr (Or.inl (List.mem_append.mpr (Or.inr h)))))
theorem fg_X4_copyFirst_27 (hd : decode cX4_copyFirst pc = .ok (.getfield 27, 3)) (kk : mg_G K Z mX4_copyFirst post (pc + 3) ls (rv Z 1 0 :: st) g) : mg_G K Z mX4_copyFirst post pc ls (rv Z 4 0 :: st) g :=
  g_get (own := RX4) (ci := 4) (j := 2) (show 0 < 1 by omega) rfl rfl (by decide) (by decide +kernel) iw_X4_copyFirst_X4 rfl hd kk
theorem fg_X4_copyFirst_31 (hd : decode cX4_copyFirst pc = .ok (.getfield 31, 3)) (kk : mg_G K Z mX4_copyFirst post (pc + 3) ls (rv Z 1 1 :: st) g) : mg_G K Z mX4_copyFirst post pc ls (rv Z 4 0 :: st) g :=
  g_get (own := RX4) (ci := 4) (j := 3) (show 0 < 1 by omega) rfl rfl (by decide) (by decide +kernel) iw_X4_copyFirst_X4 rfl hd kk
theorem iw_X4_send_X4 : ∀ w ∈ wsX40, w ∈ wsX4_send := fun w h => List.mem_cons.mpr (Or.inr (List.mem_append.mpr (Or.inl (List.mem_append.mpr (Or.inr h)))))
theorem fg_X4_send_27 (hd : decode cX4_send pc = .ok (.getfield 27, 3)) (kk : mg_G K Z mX4_send post (pc + 3) ls (rv Z 1 0 :: st) g) : mg_G K Z mX4_send post pc ls (rv Z 4 0 :: st) g :=
  g_get (own := RX4) (ci := 4) (j := 2) (show 0 < 1 by omega) rfl rfl (by decide) (by decide +kernel) iw_X4_send_X4 rfl hd kk
theorem fg_X4_send_36 (hd : decode cX4_send pc = .ok (.getfield 36, 3)) (kk : mg_G K Z mX4_send post (pc + 3) ls (rv Z 19 0 :: st) g) : mg_G K Z mX4_send post pc ls (rv Z 4 0 :: st) g :=
  g_get (own := RX4) (ci := 4) (j := 4) (show 0 < 1 by omega) rfl rfl (by decide) (by decide +kernel) iw_X4_send_X4 rfl hd kk
theorem iw_X4_ask_X3 : ∀ w ∈ wsX30, w ∈ wsX4_ask := fun w h => List.mem_cons.mpr (Or.inr (List.mem_append.mpr (Or.inl (List.mem_append.mpr (Or.inl (List.mem_append.mpr (Or.inl (List.mem_append.mpr (Or.inr h)))))))))
theorem fg_X4_ask_118 {i : Nat} (hin : i < 24) (hd : decode cX4_ask pc = .ok (.getfield 118, 3)) (kk : mg_G K Z mX4_ask post (pc + 3) ls (rv Z 2 i :: st) g) : mg_G K Z mX4_ask post pc ls (rv Z 3 i :: st) g :=
  g_get (own := RX3) (ci := 3) (j := 1) hin rfl rfl (by decide) (by decide +kernel) iw_X4_ask_X3 rfl hd kk
theorem fp_X4_ask_187 {i : Nat} (hin : i < 24) {a : Nat} (hd : decode cX4_ask pc = .ok (.putfield 187, 3)) (kk : mg_G K Z mX4_ask post (pc + 3) ls st (mg_up g 3 i 4 a)) : mg_G K Z mX4_ask post pc ls (iv a :: rv Z 3 i :: st) g :=
  g_put (ci := 3) (j := 4) (ty := .int) (ty0 := tyX3) hin rfl rfl rfl (by decide) (by decide +kernel) iw_X4_ask_X3 tyX3_ok nmX3 (by decide) rfl rfl rfl (Nat.le_of_ble_eq_true rfl) hd kk
theorem fp_X4_ask_178 {i : Nat} (hin : i < 24) {a : Nat} (hv : a < 2) (hd : decode cX4_ask pc = .ok (.putfield 178, 3)) (kk : mg_G K Z mX4_ask post (pc + 3) ls st (mg_up g 3 i 3 a)) : mg_G K Z mX4_ask post pc ls (iv a :: rv Z 3 i :: st) g :=
  g_put (ci := 3) (j := 3) (ty := .boolean) (ty0 := tyX3) hin rfl rfl rfl (by decide) (by decide +kernel) iw_X4_ask_X3 tyX3_ok nmX3 (by decide) rfl (mg_narZ hv) (mg_fitZ hv) (Nat.le_of_ble_eq_true rfl) hd kk
theorem fg_X4_ask_274 {i : Nat} (hin : i < 24) (hd : decode cX4_ask pc = .ok (.getfield 274, 3)) (kk : mg_G K Z mX4_ask post (pc + 3) ls (iv i :: st) g) : mg_G K Z mX4_ask post pc ls (rv Z 3 i :: st) g :=
  g_get (own := RX3) (ci := 3) (j := 0) hin rfl rfl (by decide) (by decide +kernel) iw_X4_ask_X3 rfl hd kk
theorem fg_X4_ask_258 {i : Nat} (hin : i < 24) (hd : decode cX4_ask pc = .ok (.getfield 258, 3)) (kk : mg_G K Z mX4_ask post (pc + 3) ls (iv (g 3 i 2) :: st) g) : mg_G K Z mX4_ask post pc ls (rv Z 3 i :: st) g :=
  g_get (own := RX3) (ci := 3) (j := 2) hin rfl rfl (by decide) (by decide +kernel) iw_X4_ask_X3 rfl hd kk
theorem fg_X4_ask_187 {i : Nat} (hin : i < 24) (hd : decode cX4_ask pc = .ok (.getfield 187, 3)) (kk : mg_G K Z mX4_ask post (pc + 3) ls (iv (g 3 i 4) :: st) g) : mg_G K Z mX4_ask post pc ls (rv Z 3 i :: st) g :=
  g_get (own := RX3) (ci := 3) (j := 4) hin rfl rfl (by decide) (by decide +kernel) iw_X4_ask_X3 rfl hd kk
theorem iw_X4_passOn_X4 : ∀ w ∈ wsX40, w ∈ wsX4_passOn := fun w h => List.mem_cons.mpr (Or.inr (List.mem_append.mpr (Or.inl (List.mem_append.mpr (Or.inl (List.mem_append.mpr (Or.inl (List.mem_append.mpr (Or.inr h)))))))))
theorem fg_X4_passOn_85 (hd : decode cX4_passOn pc = .ok (.getfield 85, 3)) (kk : mg_G K Z mX4_passOn post (pc + 3) ls (iv (g 4 0 7) :: st) g) : mg_G K Z mX4_passOn post pc ls (rv Z 4 0 :: st) g :=
  g_get (own := RX4) (ci := 4) (j := 7) (show 0 < 1 by omega) rfl rfl (by decide) (by decide +kernel) iw_X4_passOn_X4 rfl hd kk
theorem fg_X4_passOn_88 (hd : decode cX4_passOn pc = .ok (.getfield 88, 3)) (kk : mg_G K Z mX4_passOn post (pc + 3) ls (iv (g 4 0 8) :: st) g) : mg_G K Z mX4_passOn post pc ls (rv Z 4 0 :: st) g :=
  g_get (own := RX4) (ci := 4) (j := 8) (show 0 < 1 by omega) rfl rfl (by decide) (by decide +kernel) iw_X4_passOn_X4 rfl hd kk
theorem iw_X4_passOn_X3 : ∀ w ∈ wsX30, w ∈ wsX4_passOn := fun w h => List.mem_cons.mpr (Or.inr (List.mem_append.mpr (Or.inl (List.mem_append.mpr (Or.inl (List.mem_append.mpr (Or.inr h)))))))
theorem fg_X4_passOn_118 {i : Nat} (hin : i < 24) (hd : decode cX4_passOn pc = .ok (.getfield 118, 3)) (kk : mg_G K Z mX4_passOn post (pc + 3) ls (rv Z 2 i :: st) g) : mg_G K Z mX4_passOn post pc ls (rv Z 3 i :: st) g :=
  g_get (own := RX3) (ci := 3) (j := 1) hin rfl rfl (by decide) (by decide +kernel) iw_X4_passOn_X3 rfl hd kk
theorem iw_X4_passOn_X2 : ∀ w ∈ wsX20, w ∈ wsX4_passOn := fun w h => List.mem_cons.mpr (Or.inr (List.mem_append.mpr (Or.inl (List.mem_append.mpr (Or.inr h)))))
theorem fg_X4_passOn_142 {i : Nat} (hin : i < 24) (hd : decode cX4_passOn pc = .ok (.getfield 142, 3)) (kk : mg_G K Z mX4_passOn post (pc + 3) ls (rv Z 16 i :: st) g) : mg_G K Z mX4_passOn post pc ls (rv Z 2 i :: st) g :=
  g_get (own := RX2) (ci := 2) (j := 0) hin rfl rfl (by decide) (by decide +kernel) iw_X4_passOn_X2 rfl hd kk
theorem fp_X4_passOn_258 {i : Nat} (hin : i < 24) {a : Nat} (hd : decode cX4_passOn pc = .ok (.putfield 258, 3)) (kk : mg_G K Z mX4_passOn post (pc + 3) ls st (mg_up g 3 i 2 a)) : mg_G K Z mX4_passOn post pc ls (iv a :: rv Z 3 i :: st) g :=
  g_put (ci := 3) (j := 2) (ty := .int) (ty0 := tyX3) hin rfl rfl rfl (by decide) (by decide +kernel) iw_X4_passOn_X3 tyX3_ok nmX3 (by decide) rfl rfl rfl (Nat.le_of_ble_eq_true rfl) hd kk
theorem fp_X4_passOn_152 {i : Nat} (hin : i < 24) {a : Nat} (hd : decode cX4_passOn pc = .ok (.putfield 152, 3)) (kk : mg_G K Z mX4_passOn post (pc + 3) ls st (mg_up g 3 i 7 a)) : mg_G K Z mX4_passOn post pc ls (iv a :: rv Z 3 i :: st) g :=
  g_put (ci := 3) (j := 7) (ty := .int) (ty0 := tyX3) hin rfl rfl rfl (by decide) (by decide +kernel) iw_X4_passOn_X3 tyX3_ok nmX3 (by decide) rfl rfl rfl (Nat.le_of_ble_eq_true rfl) hd kk
theorem fg_X4_passOn_274 {i : Nat} (hin : i < 24) (hd : decode cX4_passOn pc = .ok (.getfield 274, 3)) (kk : mg_G K Z mX4_passOn post (pc + 3) ls (iv i :: st) g) : mg_G K Z mX4_passOn post pc ls (rv Z 3 i :: st) g :=
  g_get (own := RX3) (ci := 3) (j := 0) hin rfl rfl (by decide) (by decide +kernel) iw_X4_passOn_X3 rfl hd kk
theorem fg_X4_passOn_258 {i : Nat} (hin : i < 24) (hd : decode cX4_passOn pc = .ok (.getfield 258, 3)) (kk : mg_G K Z mX4_passOn post (pc + 3) ls (iv (g 3 i 2) :: st) g) : mg_G K Z mX4_passOn post pc ls (rv Z 3 i :: st) g :=
  g_get (own := RX3) (ci := 3) (j := 2) hin rfl rfl (by decide) (by decide +kernel) iw_X4_passOn_X3 rfl hd kk
theorem fg_X4_passOn_133 {i : Nat} (hin : i < 24) (hd : decode cX4_passOn pc = .ok (.getfield 133, 3)) (kk : mg_G K Z mX4_passOn post (pc + 3) ls (iv (g 2 i 2) :: st) g) : mg_G K Z mX4_passOn post pc ls (rv Z 2 i :: st) g :=
  g_get (own := RX2) (ci := 2) (j := 2) hin rfl rfl (by decide) (by decide +kernel) iw_X4_passOn_X2 rfl hd kk
theorem iw_X4_step_X4 : ∀ w ∈ wsX40, w ∈ wsX4_step := fun w h => List.mem_cons.mpr (Or.inr (List.mem_append.mpr (Or.inl (List.mem_append.mpr (Or.inl (List.mem_append.mpr (Or.inl (List.mem_append.mpr (Or.inl (List.mem_append.mpr (Or.inr h)))))))))))
theorem fg_X4_step_18 (hd : decode cX4_step pc = .ok (.getfield 18, 3)) (kk : mg_G K Z mX4_step post (pc + 3) ls (rv Z 18 0 :: st) g) : mg_G K Z mX4_step post pc ls (rv Z 4 0 :: st) g :=
  g_get (own := RX4) (ci := 4) (j := 1) (show 0 < 1 by omega) rfl rfl (by decide) (by decide +kernel) iw_X4_step_X4 rfl hd kk
theorem iw_X4_step_X3 : ∀ w ∈ wsX30, w ∈ wsX4_step := fun w h => List.mem_cons.mpr (Or.inr (List.mem_append.mpr (Or.inl (List.mem_append.mpr (Or.inl (List.mem_append.mpr (Or.inl (List.mem_append.mpr (Or.inr h)))))))))
theorem fg_X4_step_118 {i : Nat} (hin : i < 24) (hd : decode cX4_step pc = .ok (.getfield 118, 3)) (kk : mg_G K Z mX4_step post (pc + 3) ls (rv Z 2 i :: st) g) : mg_G K Z mX4_step post pc ls (rv Z 3 i :: st) g :=
  g_get (own := RX3) (ci := 3) (j := 1) hin rfl rfl (by decide) (by decide +kernel) iw_X4_step_X3 rfl hd kk
theorem iw_X4_step_X2 : ∀ w ∈ wsX20, w ∈ wsX4_step := fun w h => List.mem_cons.mpr (Or.inr (List.mem_append.mpr (Or.inl (List.mem_append.mpr (Or.inl (List.mem_append.mpr (Or.inr h)))))))
theorem fg_X4_step_133 {i : Nat} (hin : i < 24) (hd : decode cX4_step pc = .ok (.getfield 133, 3)) (kk : mg_G K Z mX4_step post (pc + 3) ls (iv (g 2 i 2) :: st) g) : mg_G K Z mX4_step post pc ls (rv Z 2 i :: st) g :=
  g_get (own := RX2) (ci := 2) (j := 2) hin rfl rfl (by decide) (by decide +kernel) iw_X4_step_X2 rfl hd kk
theorem fg_X4_step_178 {i : Nat} (hin : i < 24) (hd : decode cX4_step pc = .ok (.getfield 178, 3)) (kk : mg_G K Z mX4_step post (pc + 3) ls (iv (g 3 i 3) :: st) g) : mg_G K Z mX4_step post pc ls (rv Z 3 i :: st) g :=
  g_get (own := RX3) (ci := 3) (j := 3) hin rfl rfl (by decide) (by decide +kernel) iw_X4_step_X3 rfl hd kk
theorem fg_X4_step_85 (hd : decode cX4_step pc = .ok (.getfield 85, 3)) (kk : mg_G K Z mX4_step post (pc + 3) ls (iv (g 4 0 7) :: st) g) : mg_G K Z mX4_step post pc ls (rv Z 4 0 :: st) g :=
  g_get (own := RX4) (ci := 4) (j := 7) (show 0 < 1 by omega) rfl rfl (by decide) (by decide +kernel) iw_X4_step_X4 rfl hd kk
theorem fg_X4_step_187 {i : Nat} (hin : i < 24) (hd : decode cX4_step pc = .ok (.getfield 187, 3)) (kk : mg_G K Z mX4_step post (pc + 3) ls (iv (g 3 i 4) :: st) g) : mg_G K Z mX4_step post pc ls (rv Z 3 i :: st) g :=
  g_get (own := RX3) (ci := 3) (j := 4) hin rfl rfl (by decide) (by decide +kernel) iw_X4_step_X3 rfl hd kk
theorem iw_X4_isCopy_X4 : ∀ w ∈ wsX40, w ∈ wsX4_isCopy := fun w h => List.mem_cons.mpr (Or.inr (List.mem_append.mpr (Or.inl (List.mem_append.mpr (Or.inr h)))))
theorem fg_X4_isCopy_55 (hd : decode cX4_isCopy pc = .ok (.getfield 55, 3)) (kk : mg_G K Z mX4_isCopy post (pc + 3) ls (iv (g 4 0 6) :: st) g) : mg_G K Z mX4_isCopy post pc ls (rv Z 4 0 :: st) g :=
  g_get (own := RX4) (ci := 4) (j := 6) (show 0 < 1 by omega) rfl rfl (by decide) (by decide +kernel) iw_X4_isCopy_X4 rfl hd kk
theorem fg_X4_isCopy_31 (hd : decode cX4_isCopy pc = .ok (.getfield 31, 3)) (kk : mg_G K Z mX4_isCopy post (pc + 3) ls (rv Z 1 1 :: st) g) : mg_G K Z mX4_isCopy post pc ls (rv Z 4 0 :: st) g :=
  g_get (own := RX4) (ci := 4) (j := 3) (show 0 < 1 by omega) rfl rfl (by decide) (by decide +kernel) iw_X4_isCopy_X4 rfl hd kk
theorem iw_X4_isCopy_X1 : ∀ w ∈ wsX10, w ∈ wsX4_isCopy := fun w h => List.mem_cons.mpr (Or.inr (List.mem_append.mpr (Or.inr h)))
theorem fg_X4_isCopy_94 {i : Nat} (hin : i < 2) (hd : decode cX4_isCopy pc = .ok (.getfield 94, 3)) (kk : mg_G K Z mX4_isCopy post (pc + 3) ls (iv (g 1 i 5) :: st) g) : mg_G K Z mX4_isCopy post pc ls (rv Z 1 i :: st) g :=
  g_get (own := RX1) (ci := 1) (j := 5) hin rfl rfl (by decide) (by decide +kernel) iw_X4_isCopy_X1 rfl hd kk
theorem iw_X4_takeOut_X4 : ∀ w ∈ wsX40, w ∈ wsX4_takeOut := fun w h => List.mem_cons.mpr (Or.inr (List.mem_append.mpr (Or.inl (List.mem_append.mpr (Or.inr h)))))
theorem fg_X4_takeOut_27 (hd : decode cX4_takeOut pc = .ok (.getfield 27, 3)) (kk : mg_G K Z mX4_takeOut post (pc + 3) ls (rv Z 1 0 :: st) g) : mg_G K Z mX4_takeOut post pc ls (rv Z 4 0 :: st) g :=
  g_get (own := RX4) (ci := 4) (j := 2) (show 0 < 1 by omega) rfl rfl (by decide) (by decide +kernel) iw_X4_takeOut_X4 rfl hd kk
theorem iw_X4_takeOut_X1 : ∀ w ∈ wsX10, w ∈ wsX4_takeOut := fun w h => List.mem_cons.mpr (Or.inr (List.mem_append.mpr (Or.inr h)))
theorem fg_X4_takeOut_202 {i : Nat} (hin : i < 2) (hd : decode cX4_takeOut pc = .ok (.getfield 202, 3)) (kk : mg_G K Z mX4_takeOut post (pc + 3) ls (rv Z 14 i :: st) g) : mg_G K Z mX4_takeOut post pc ls (rv Z 1 i :: st) g :=
  g_get (own := RX1) (ci := 1) (j := 3) hin rfl rfl (by decide) (by decide +kernel) iw_X4_takeOut_X1 rfl hd kk
theorem iw_X4_read_X4 : ∀ w ∈ wsX40, w ∈ wsX4_read := fun w h => List.mem_cons.mpr (Or.inr (List.mem_append.mpr (Or.inl (List.mem_append.mpr (Or.inl (List.mem_append.mpr (Or.inr h)))))))
theorem fg_X4_read_18 (hd : decode cX4_read pc = .ok (.getfield 18, 3)) (kk : mg_G K Z mX4_read post (pc + 3) ls (rv Z 18 0 :: st) g) : mg_G K Z mX4_read post pc ls (rv Z 4 0 :: st) g :=
  g_get (own := RX4) (ci := 4) (j := 1) (show 0 < 1 by omega) rfl rfl (by decide) (by decide +kernel) iw_X4_read_X4 rfl hd kk
theorem iw_X4_read_X3 : ∀ w ∈ wsX30, w ∈ wsX4_read := fun w h => List.mem_cons.mpr (Or.inr (List.mem_append.mpr (Or.inl (List.mem_append.mpr (Or.inr h)))))
theorem fg_X4_read_118 {i : Nat} (hin : i < 24) (hd : decode cX4_read pc = .ok (.getfield 118, 3)) (kk : mg_G K Z mX4_read post (pc + 3) ls (rv Z 2 i :: st) g) : mg_G K Z mX4_read post pc ls (rv Z 3 i :: st) g :=
  g_get (own := RX3) (ci := 3) (j := 1) hin rfl rfl (by decide) (by decide +kernel) iw_X4_read_X3 rfl hd kk
theorem fp_X4_read_258 {i : Nat} (hin : i < 24) {a : Nat} (hd : decode cX4_read pc = .ok (.putfield 258, 3)) (kk : mg_G K Z mX4_read post (pc + 3) ls st (mg_up g 3 i 2 a)) : mg_G K Z mX4_read post pc ls (iv a :: rv Z 3 i :: st) g :=
  g_put (ci := 3) (j := 2) (ty := .int) (ty0 := tyX3) hin rfl rfl rfl (by decide) (by decide +kernel) iw_X4_read_X3 tyX3_ok nmX3 (by decide) rfl rfl rfl (Nat.le_of_ble_eq_true rfl) hd kk
theorem fp_X4_read_178 {i : Nat} (hin : i < 24) {a : Nat} (hv : a < 2) (hd : decode cX4_read pc = .ok (.putfield 178, 3)) (kk : mg_G K Z mX4_read post (pc + 3) ls st (mg_up g 3 i 3 a)) : mg_G K Z mX4_read post pc ls (iv a :: rv Z 3 i :: st) g :=
  g_put (ci := 3) (j := 3) (ty := .boolean) (ty0 := tyX3) hin rfl rfl rfl (by decide) (by decide +kernel) iw_X4_read_X3 tyX3_ok nmX3 (by decide) rfl (mg_narZ hv) (mg_fitZ hv) (Nat.le_of_ble_eq_true rfl) hd kk
theorem iw_X4_deliver_X4 : ∀ w ∈ wsX40, w ∈ wsX4_deliver := fun w h => List.mem_cons.mpr (Or.inr (List.mem_append.mpr (Or.inl (List.mem_append.mpr (Or.inl (List.mem_append.mpr (Or.inl (List.mem_append.mpr (Or.inr h)))))))))
theorem fg_X4_deliver_31 (hd : decode cX4_deliver pc = .ok (.getfield 31, 3)) (kk : mg_G K Z mX4_deliver post (pc + 3) ls (rv Z 1 1 :: st) g) : mg_G K Z mX4_deliver post pc ls (rv Z 4 0 :: st) g :=
  g_get (own := RX4) (ci := 4) (j := 3) (show 0 < 1 by omega) rfl rfl (by decide) (by decide +kernel) iw_X4_deliver_X4 rfl hd kk
theorem iw_X4_deliver_X1 : ∀ w ∈ wsX10, w ∈ wsX4_deliver := fun w h => List.mem_cons.mpr (Or.inr (List.mem_append.mpr (Or.inl (List.mem_append.mpr (Or.inl (List.mem_append.mpr (Or.inr h)))))))
theorem fg_X4_deliver_193 {i : Nat} (hin : i < 2) (hd : decode cX4_deliver pc = .ok (.getfield 193, 3)) (kk : mg_G K Z mX4_deliver post (pc + 3) ls (rv Z 11 i :: st) g) : mg_G K Z mX4_deliver post pc ls (rv Z 1 i :: st) g :=
  g_get (own := RX1) (ci := 1) (j := 0) hin rfl rfl (by decide) (by decide +kernel) iw_X4_deliver_X1 rfl hd kk
theorem fg_X4_deliver_196 {i : Nat} (hin : i < 2) (hd : decode cX4_deliver pc = .ok (.getfield 196, 3)) (kk : mg_G K Z mX4_deliver post (pc + 3) ls (rv Z 12 i :: st) g) : mg_G K Z mX4_deliver post pc ls (rv Z 1 i :: st) g :=
  g_get (own := RX1) (ci := 1) (j := 1) hin rfl rfl (by decide) (by decide +kernel) iw_X4_deliver_X1 rfl hd kk
theorem fg_X4_deliver_199 {i : Nat} (hin : i < 2) (hd : decode cX4_deliver pc = .ok (.getfield 199, 3)) (kk : mg_G K Z mX4_deliver post (pc + 3) ls (rv Z 13 i :: st) g) : mg_G K Z mX4_deliver post pc ls (rv Z 1 i :: st) g :=
  g_get (own := RX1) (ci := 1) (j := 2) hin rfl rfl (by decide) (by decide +kernel) iw_X4_deliver_X1 rfl hd kk
theorem fg_X4_deliver_202 {i : Nat} (hin : i < 2) (hd : decode cX4_deliver pc = .ok (.getfield 202, 3)) (kk : mg_G K Z mX4_deliver post (pc + 3) ls (rv Z 14 i :: st) g) : mg_G K Z mX4_deliver post pc ls (rv Z 1 i :: st) g :=
  g_get (own := RX1) (ci := 1) (j := 3) hin rfl rfl (by decide) (by decide +kernel) iw_X4_deliver_X1 rfl hd kk
theorem fg_X4_deliver_205 {i : Nat} (hin : i < 2) (hd : decode cX4_deliver pc = .ok (.getfield 205, 3)) (kk : mg_G K Z mX4_deliver post (pc + 3) ls (rv Z 15 i :: st) g) : mg_G K Z mX4_deliver post pc ls (rv Z 1 i :: st) g :=
  g_get (own := RX1) (ci := 1) (j := 4) hin rfl rfl (by decide) (by decide +kernel) iw_X4_deliver_X1 rfl hd kk
theorem fg_X4_deliver_18 (hd : decode cX4_deliver pc = .ok (.getfield 18, 3)) (kk : mg_G K Z mX4_deliver post (pc + 3) ls (rv Z 18 0 :: st) g) : mg_G K Z mX4_deliver post pc ls (rv Z 4 0 :: st) g :=
  g_get (own := RX4) (ci := 4) (j := 1) (show 0 < 1 by omega) rfl rfl (by decide) (by decide +kernel) iw_X4_deliver_X4 rfl hd kk
theorem iw_X4_deliver_X3 : ∀ w ∈ wsX30, w ∈ wsX4_deliver := fun w h => List.mem_cons.mpr (Or.inr (List.mem_append.mpr (Or.inl (List.mem_append.mpr (Or.inr h)))))
theorem fg_X4_deliver_211 {i : Nat} (hin : i < 24) (hd : decode cX4_deliver pc = .ok (.getfield 211, 3)) (kk : mg_G K Z mX4_deliver post (pc + 3) ls (iv (g 3 i 6) :: st) g) : mg_G K Z mX4_deliver post pc ls (rv Z 3 i :: st) g :=
  g_get (own := RX3) (ci := 3) (j := 6) hin rfl rfl (by decide) (by decide +kernel) iw_X4_deliver_X3 rfl hd kk
theorem fg_X4_deliver_39 (hd : decode cX4_deliver pc = .ok (.getfield 39, 3)) (kk : mg_G K Z mX4_deliver post (pc + 3) ls (rv Z 20 0 :: st) g) : mg_G K Z mX4_deliver post pc ls (rv Z 4 0 :: st) g :=
  g_get (own := RX4) (ci := 4) (j := 5) (show 0 < 1 by omega) rfl rfl (by decide) (by decide +kernel) iw_X4_deliver_X4 rfl hd kk
theorem iw_X4_lose_X4 : ∀ w ∈ wsX40, w ∈ wsX4_lose := fun w h => List.mem_cons.mpr (Or.inr (List.mem_append.mpr (Or.inl (List.mem_append.mpr (Or.inr h)))))
theorem fg_X4_lose_31 (hd : decode cX4_lose pc = .ok (.getfield 31, 3)) (kk : mg_G K Z mX4_lose post (pc + 3) ls (rv Z 1 1 :: st) g) : mg_G K Z mX4_lose post pc ls (rv Z 4 0 :: st) g :=
  g_get (own := RX4) (ci := 4) (j := 3) (show 0 < 1 by omega) rfl rfl (by decide) (by decide +kernel) iw_X4_lose_X4 rfl hd kk
theorem iw_X4_lose_X1 : ∀ w ∈ wsX10, w ∈ wsX4_lose := fun w h => List.mem_cons.mpr (Or.inr (List.mem_append.mpr (Or.inr h)))
theorem fg_X4_lose_94 {i : Nat} (hin : i < 2) (hd : decode cX4_lose pc = .ok (.getfield 94, 3)) (kk : mg_G K Z mX4_lose post (pc + 3) ls (iv (g 1 i 5) :: st) g) : mg_G K Z mX4_lose post pc ls (rv Z 1 i :: st) g :=
  g_get (own := RX1) (ci := 1) (j := 5) hin rfl rfl (by decide) (by decide +kernel) iw_X4_lose_X1 rfl hd kk
theorem iw_X4_twin_X4 : ∀ w ∈ wsX40, w ∈ wsX4_twin := fun w h => List.mem_cons.mpr (Or.inr (List.mem_append.mpr (Or.inl (List.mem_append.mpr (Or.inr h)))))
theorem fg_X4_twin_31 (hd : decode cX4_twin pc = .ok (.getfield 31, 3)) (kk : mg_G K Z mX4_twin post (pc + 3) ls (rv Z 1 1 :: st) g) : mg_G K Z mX4_twin post pc ls (rv Z 4 0 :: st) g :=
  g_get (own := RX4) (ci := 4) (j := 3) (show 0 < 1 by omega) rfl rfl (by decide) (by decide +kernel) iw_X4_twin_X4 rfl hd kk
theorem iw_X4_twin_X1 : ∀ w ∈ wsX10, w ∈ wsX4_twin := fun w h => List.mem_cons.mpr (Or.inr (List.mem_append.mpr (Or.inr h)))
theorem fg_X4_twin_94 {i : Nat} (hin : i < 2) (hd : decode cX4_twin pc = .ok (.getfield 94, 3)) (kk : mg_G K Z mX4_twin post (pc + 3) ls (iv (g 1 i 5) :: st) g) : mg_G K Z mX4_twin post pc ls (rv Z 1 i :: st) g :=
  g_get (own := RX1) (ci := 1) (j := 5) hin rfl rfl (by decide) (by decide +kernel) iw_X4_twin_X1 rfl hd kk
theorem iw_X4_resend_X4 : ∀ w ∈ wsX40, w ∈ wsX4_resend := fun w h => List.mem_cons.mpr (Or.inr (List.mem_append.mpr (Or.inl (List.mem_append.mpr (Or.inl (List.mem_append.mpr (Or.inl (List.mem_append.mpr (Or.inr h)))))))))
theorem fg_X4_resend_10 (hd : decode cX4_resend pc = .ok (.getfield 10, 3)) (kk : mg_G K Z mX4_resend post (pc + 3) ls (rv Z 0 0 :: st) g) : mg_G K Z mX4_resend post pc ls (rv Z 4 0 :: st) g :=
  g_get (own := RX4) (ci := 4) (j := 0) (show 0 < 1 by omega) rfl rfl (by decide) (by decide +kernel) iw_X4_resend_X4 rfl hd kk
theorem iw_X4_resend_X0 : ∀ w ∈ wsX00, w ∈ wsX4_resend := fun w h => List.mem_cons.mpr (Or.inr (List.mem_append.mpr (Or.inl (List.mem_append.mpr (Or.inl (List.mem_append.mpr (Or.inr h)))))))
theorem fg_X4_resend_229 (hd : decode cX4_resend pc = .ok (.getfield 229, 3)) (kk : mg_G K Z mX4_resend post (pc + 3) ls (iv (g 0 0 1) :: st) g) : mg_G K Z mX4_resend post pc ls (rv Z 0 0 :: st) g :=
  g_get (own := RX0) (ci := 0) (j := 1) (show 0 < 1 by omega) rfl rfl (by decide) (by decide +kernel) iw_X4_resend_X0 rfl hd kk
theorem fg_X4_resend_31 (hd : decode cX4_resend pc = .ok (.getfield 31, 3)) (kk : mg_G K Z mX4_resend post (pc + 3) ls (rv Z 1 1 :: st) g) : mg_G K Z mX4_resend post pc ls (rv Z 4 0 :: st) g :=
  g_get (own := RX4) (ci := 4) (j := 3) (show 0 < 1 by omega) rfl rfl (by decide) (by decide +kernel) iw_X4_resend_X4 rfl hd kk
theorem iw_X4_resend_X1 : ∀ w ∈ wsX10, w ∈ wsX4_resend := fun w h => List.mem_cons.mpr (Or.inr (List.mem_append.mpr (Or.inl (List.mem_append.mpr (Or.inr h)))))
theorem fg_X4_resend_94 {i : Nat} (hin : i < 2) (hd : decode cX4_resend pc = .ok (.getfield 94, 3)) (kk : mg_G K Z mX4_resend post (pc + 3) ls (iv (g 1 i 5) :: st) g) : mg_G K Z mX4_resend post pc ls (rv Z 1 i :: st) g :=
  g_get (own := RX1) (ci := 1) (j := 5) hin rfl rfl (by decide) (by decide +kernel) iw_X4_resend_X1 rfl hd kk
theorem iw_X4_crash_X4 : ∀ w ∈ wsX40, w ∈ wsX4_crash := fun w h => List.mem_cons.mpr (Or.inr (List.mem_append.mpr (Or.inl (List.mem_append.mpr (Or.inl (List.mem_append.mpr (Or.inr h)))))))
theorem fg_X4_crash_18 (hd : decode cX4_crash pc = .ok (.getfield 18, 3)) (kk : mg_G K Z mX4_crash post (pc + 3) ls (rv Z 18 0 :: st) g) : mg_G K Z mX4_crash post pc ls (rv Z 4 0 :: st) g :=
  g_get (own := RX4) (ci := 4) (j := 1) (show 0 < 1 by omega) rfl rfl (by decide) (by decide +kernel) iw_X4_crash_X4 rfl hd kk
theorem iw_X4_crash_X3 : ∀ w ∈ wsX30, w ∈ wsX4_crash := fun w h => List.mem_cons.mpr (Or.inr (List.mem_append.mpr (Or.inl (List.mem_append.mpr (Or.inr h)))))
theorem fg_X4_crash_111 {i : Nat} (hin : i < 24) (hd : decode cX4_crash pc = .ok (.getfield 111, 3)) (kk : mg_G K Z mX4_crash post (pc + 3) ls (iv (g 3 i 5) :: st) g) : mg_G K Z mX4_crash post pc ls (rv Z 3 i :: st) g :=
  g_get (own := RX3) (ci := 3) (j := 5) hin rfl rfl (by decide) (by decide +kernel) iw_X4_crash_X3 rfl hd kk
theorem fp_X4_crash_211 {i : Nat} (hin : i < 24) {a : Nat} (hv : a < 2) (hd : decode cX4_crash pc = .ok (.putfield 211, 3)) (kk : mg_G K Z mX4_crash post (pc + 3) ls st (mg_up g 3 i 6 a)) : mg_G K Z mX4_crash post pc ls (iv a :: rv Z 3 i :: st) g :=
  g_put (ci := 3) (j := 6) (ty := .boolean) (ty0 := tyX3) hin rfl rfl rfl (by decide) (by decide +kernel) iw_X4_crash_X3 tyX3_ok nmX3 (by decide) rfl (mg_narZ hv) (mg_fitZ hv) (Nat.le_of_ble_eq_true rfl) hd kk
theorem iw_X4_restart_X4 : ∀ w ∈ wsX40, w ∈ wsX4_restart := fun w h => List.mem_cons.mpr (Or.inr (List.mem_append.mpr (Or.inl (List.mem_append.mpr (Or.inl (List.mem_append.mpr (Or.inr h)))))))
theorem fg_X4_restart_18 (hd : decode cX4_restart pc = .ok (.getfield 18, 3)) (kk : mg_G K Z mX4_restart post (pc + 3) ls (rv Z 18 0 :: st) g) : mg_G K Z mX4_restart post pc ls (rv Z 4 0 :: st) g :=
  g_get (own := RX4) (ci := 4) (j := 1) (show 0 < 1 by omega) rfl rfl (by decide) (by decide +kernel) iw_X4_restart_X4 rfl hd kk
theorem iw_X4_restart_X3 : ∀ w ∈ wsX30, w ∈ wsX4_restart := fun w h => List.mem_cons.mpr (Or.inr (List.mem_append.mpr (Or.inl (List.mem_append.mpr (Or.inr h)))))
theorem fg_X4_restart_211 {i : Nat} (hin : i < 24) (hd : decode cX4_restart pc = .ok (.getfield 211, 3)) (kk : mg_G K Z mX4_restart post (pc + 3) ls (iv (g 3 i 6) :: st) g) : mg_G K Z mX4_restart post pc ls (rv Z 3 i :: st) g :=
  g_get (own := RX3) (ci := 3) (j := 6) hin rfl rfl (by decide) (by decide +kernel) iw_X4_restart_X3 rfl hd kk
theorem fp_X4_restart_211 {i : Nat} (hin : i < 24) {a : Nat} (hv : a < 2) (hd : decode cX4_restart pc = .ok (.putfield 211, 3)) (kk : mg_G K Z mX4_restart post (pc + 3) ls st (mg_up g 3 i 6 a)) : mg_G K Z mX4_restart post pc ls (iv a :: rv Z 3 i :: st) g :=
  g_put (ci := 3) (j := 6) (ty := .boolean) (ty0 := tyX3) hin rfl rfl rfl (by decide) (by decide +kernel) iw_X4_restart_X3 tyX3_ok nmX3 (by decide) rfl (mg_narZ hv) (mg_fitZ hv) (Nat.le_of_ble_eq_true rfl) hd kk
theorem iw_X4_cut_X4 : ∀ w ∈ wsX40, w ∈ wsX4_cut := fun w h => List.mem_cons.mpr (Or.inr (List.mem_append.mpr (Or.inl (List.mem_append.mpr (Or.inl (List.mem_append.mpr (Or.inl (List.mem_append.mpr (Or.inl (List.mem_append.mpr (Or.inr h)))))))))))
theorem fg_X4_cut_10 (hd : decode cX4_cut pc = .ok (.getfield 10, 3)) (kk : mg_G K Z mX4_cut post (pc + 3) ls (rv Z 0 0 :: st) g) : mg_G K Z mX4_cut post pc ls (rv Z 4 0 :: st) g :=
  g_get (own := RX4) (ci := 4) (j := 0) (show 0 < 1 by omega) rfl rfl (by decide) (by decide +kernel) iw_X4_cut_X4 rfl hd kk
theorem fg_X4_cut_27 (hd : decode cX4_cut pc = .ok (.getfield 27, 3)) (kk : mg_G K Z mX4_cut post (pc + 3) ls (rv Z 1 0 :: st) g) : mg_G K Z mX4_cut post pc ls (rv Z 4 0 :: st) g :=
  g_get (own := RX4) (ci := 4) (j := 2) (show 0 < 1 by omega) rfl rfl (by decide) (by decide +kernel) iw_X4_cut_X4 rfl hd kk
theorem fg_X4_cut_31 (hd : decode cX4_cut pc = .ok (.getfield 31, 3)) (kk : mg_G K Z mX4_cut post (pc + 3) ls (rv Z 1 1 :: st) g) : mg_G K Z mX4_cut post pc ls (rv Z 4 0 :: st) g :=
  g_get (own := RX4) (ci := 4) (j := 3) (show 0 < 1 by omega) rfl rfl (by decide) (by decide +kernel) iw_X4_cut_X4 rfl hd kk
theorem fg_X4_cut_18 (hd : decode cX4_cut pc = .ok (.getfield 18, 3)) (kk : mg_G K Z mX4_cut post (pc + 3) ls (rv Z 18 0 :: st) g) : mg_G K Z mX4_cut post pc ls (rv Z 4 0 :: st) g :=
  g_get (own := RX4) (ci := 4) (j := 1) (show 0 < 1 by omega) rfl rfl (by decide) (by decide +kernel) iw_X4_cut_X4 rfl hd kk
theorem iw_X4_cut_X3 : ∀ w ∈ wsX30, w ∈ wsX4_cut := fun w h => List.mem_cons.mpr (Or.inr (List.mem_append.mpr (Or.inl (List.mem_append.mpr (Or.inl (List.mem_append.mpr (Or.inl (List.mem_append.mpr (Or.inr h)))))))))
theorem fg_X4_cut_118 {i : Nat} (hin : i < 24) (hd : decode cX4_cut pc = .ok (.getfield 118, 3)) (kk : mg_G K Z mX4_cut post (pc + 3) ls (rv Z 2 i :: st) g) : mg_G K Z mX4_cut post pc ls (rv Z 3 i :: st) g :=
  g_get (own := RX3) (ci := 3) (j := 1) hin rfl rfl (by decide) (by decide +kernel) iw_X4_cut_X3 rfl hd kk
theorem iw_X4_whoHolds_X4 : ∀ w ∈ wsX40, w ∈ wsX4_whoHolds := fun w h => List.mem_cons.mpr (Or.inr (List.mem_append.mpr (Or.inl (List.mem_append.mpr (Or.inl (List.mem_append.mpr (Or.inr h)))))))
theorem fg_X4_whoHolds_10 (hd : decode cX4_whoHolds pc = .ok (.getfield 10, 3)) (kk : mg_G K Z mX4_whoHolds post (pc + 3) ls (rv Z 0 0 :: st) g) : mg_G K Z mX4_whoHolds post pc ls (rv Z 4 0 :: st) g :=
  g_get (own := RX4) (ci := 4) (j := 0) (show 0 < 1 by omega) rfl rfl (by decide) (by decide +kernel) iw_X4_whoHolds_X4 rfl hd kk
theorem iw_X4_whoHolds_X0 : ∀ w ∈ wsX00, w ∈ wsX4_whoHolds := fun w h => List.mem_cons.mpr (Or.inr (List.mem_append.mpr (Or.inl (List.mem_append.mpr (Or.inr h)))))
theorem fg_X4_whoHolds_229 (hd : decode cX4_whoHolds pc = .ok (.getfield 229, 3)) (kk : mg_G K Z mX4_whoHolds post (pc + 3) ls (iv (g 0 0 1) :: st) g) : mg_G K Z mX4_whoHolds post pc ls (rv Z 0 0 :: st) g :=
  g_get (own := RX0) (ci := 0) (j := 1) (show 0 < 1 by omega) rfl rfl (by decide) (by decide +kernel) iw_X4_whoHolds_X0 rfl hd kk
theorem fg_X4_whoHolds_18 (hd : decode cX4_whoHolds pc = .ok (.getfield 18, 3)) (kk : mg_G K Z mX4_whoHolds post (pc + 3) ls (rv Z 18 0 :: st) g) : mg_G K Z mX4_whoHolds post pc ls (rv Z 4 0 :: st) g :=
  g_get (own := RX4) (ci := 4) (j := 1) (show 0 < 1 by omega) rfl rfl (by decide) (by decide +kernel) iw_X4_whoHolds_X4 rfl hd kk
theorem iw_X4_placeOfRight_X4 : ∀ w ∈ wsX40, w ∈ wsX4_placeOfRight := fun w h => List.mem_cons.mpr (Or.inr (List.mem_append.mpr (Or.inl (List.mem_append.mpr (Or.inl (List.mem_append.mpr (Or.inl (List.mem_append.mpr (Or.inr h)))))))))
theorem fg_X4_placeOfRight_27 (hd : decode cX4_placeOfRight pc = .ok (.getfield 27, 3)) (kk : mg_G K Z mX4_placeOfRight post (pc + 3) ls (rv Z 1 0 :: st) g) : mg_G K Z mX4_placeOfRight post pc ls (rv Z 4 0 :: st) g :=
  g_get (own := RX4) (ci := 4) (j := 2) (show 0 < 1 by omega) rfl rfl (by decide) (by decide +kernel) iw_X4_placeOfRight_X4 rfl hd kk
theorem iw_X4_placeOfRight_X1 : ∀ w ∈ wsX10, w ∈ wsX4_placeOfRight := fun w h => List.mem_cons.mpr (Or.inr (List.mem_append.mpr (Or.inl (List.mem_append.mpr (Or.inl (List.mem_append.mpr (Or.inr h)))))))
theorem fg_X4_placeOfRight_94 {i : Nat} (hin : i < 2) (hd : decode cX4_placeOfRight pc = .ok (.getfield 94, 3)) (kk : mg_G K Z mX4_placeOfRight post (pc + 3) ls (iv (g 1 i 5) :: st) g) : mg_G K Z mX4_placeOfRight post pc ls (rv Z 1 i :: st) g :=
  g_get (own := RX1) (ci := 1) (j := 5) hin rfl rfl (by decide) (by decide +kernel) iw_X4_placeOfRight_X1 rfl hd kk
theorem fg_X4_placeOfRight_196 {i : Nat} (hin : i < 2) (hd : decode cX4_placeOfRight pc = .ok (.getfield 196, 3)) (kk : mg_G K Z mX4_placeOfRight post (pc + 3) ls (rv Z 12 i :: st) g) : mg_G K Z mX4_placeOfRight post pc ls (rv Z 1 i :: st) g :=
  g_get (own := RX1) (ci := 1) (j := 1) hin rfl rfl (by decide) (by decide +kernel) iw_X4_placeOfRight_X1 rfl hd kk
theorem fg_X4_placeOfRight_193 {i : Nat} (hin : i < 2) (hd : decode cX4_placeOfRight pc = .ok (.getfield 193, 3)) (kk : mg_G K Z mX4_placeOfRight post (pc + 3) ls (rv Z 11 i :: st) g) : mg_G K Z mX4_placeOfRight post pc ls (rv Z 1 i :: st) g :=
  g_get (own := RX1) (ci := 1) (j := 0) hin rfl rfl (by decide) (by decide +kernel) iw_X4_placeOfRight_X1 rfl hd kk
theorem fg_X4_placeOfRight_202 {i : Nat} (hin : i < 2) (hd : decode cX4_placeOfRight pc = .ok (.getfield 202, 3)) (kk : mg_G K Z mX4_placeOfRight post (pc + 3) ls (rv Z 14 i :: st) g) : mg_G K Z mX4_placeOfRight post pc ls (rv Z 1 i :: st) g :=
  g_get (own := RX1) (ci := 1) (j := 3) hin rfl rfl (by decide) (by decide +kernel) iw_X4_placeOfRight_X1 rfl hd kk
theorem fg_X4_placeOfRight_39 (hd : decode cX4_placeOfRight pc = .ok (.getfield 39, 3)) (kk : mg_G K Z mX4_placeOfRight post (pc + 3) ls (rv Z 20 0 :: st) g) : mg_G K Z mX4_placeOfRight post pc ls (rv Z 4 0 :: st) g :=
  g_get (own := RX4) (ci := 4) (j := 5) (show 0 < 1 by omega) rfl rfl (by decide) (by decide +kernel) iw_X4_placeOfRight_X4 rfl hd kk
theorem fg_X4_placeOfRight_199 {i : Nat} (hin : i < 2) (hd : decode cX4_placeOfRight pc = .ok (.getfield 199, 3)) (kk : mg_G K Z mX4_placeOfRight post (pc + 3) ls (rv Z 13 i :: st) g) : mg_G K Z mX4_placeOfRight post pc ls (rv Z 1 i :: st) g :=
  g_get (own := RX1) (ci := 1) (j := 2) hin rfl rfl (by decide) (by decide +kernel) iw_X4_placeOfRight_X1 rfl hd kk
theorem iw_X4_hasMarkFrom_X4 : ∀ w ∈ wsX40, w ∈ wsX4_hasMarkFrom := fun w h => List.mem_cons.mpr (Or.inr (List.mem_append.mpr (Or.inl (List.mem_append.mpr (Or.inl (List.mem_append.mpr (Or.inr h)))))))
theorem fg_X4_hasMarkFrom_10 (hd : decode cX4_hasMarkFrom pc = .ok (.getfield 10, 3)) (kk : mg_G K Z mX4_hasMarkFrom post (pc + 3) ls (rv Z 0 0 :: st) g) : mg_G K Z mX4_hasMarkFrom post pc ls (rv Z 4 0 :: st) g :=
  g_get (own := RX4) (ci := 4) (j := 0) (show 0 < 1 by omega) rfl rfl (by decide) (by decide +kernel) iw_X4_hasMarkFrom_X4 rfl hd kk
theorem iw_X4_hasMarkFrom_X0 : ∀ w ∈ wsX00, w ∈ wsX4_hasMarkFrom := fun w h => List.mem_cons.mpr (Or.inr (List.mem_append.mpr (Or.inl (List.mem_append.mpr (Or.inr h)))))
theorem fg_X4_hasMarkFrom_229 (hd : decode cX4_hasMarkFrom pc = .ok (.getfield 229, 3)) (kk : mg_G K Z mX4_hasMarkFrom post (pc + 3) ls (iv (g 0 0 1) :: st) g) : mg_G K Z mX4_hasMarkFrom post pc ls (rv Z 0 0 :: st) g :=
  g_get (own := RX0) (ci := 0) (j := 1) (show 0 < 1 by omega) rfl rfl (by decide) (by decide +kernel) iw_X4_hasMarkFrom_X0 rfl hd kk
theorem fg_X4_hasMarkFrom_18 (hd : decode cX4_hasMarkFrom pc = .ok (.getfield 18, 3)) (kk : mg_G K Z mX4_hasMarkFrom post (pc + 3) ls (rv Z 18 0 :: st) g) : mg_G K Z mX4_hasMarkFrom post pc ls (rv Z 4 0 :: st) g :=
  g_get (own := RX4) (ci := 4) (j := 1) (show 0 < 1 by omega) rfl rfl (by decide) (by decide +kernel) iw_X4_hasMarkFrom_X4 rfl hd kk
theorem iw_X4_hasMarkFrom_X3 : ∀ w ∈ wsX30, w ∈ wsX4_hasMarkFrom := fun w h => List.mem_cons.mpr (Or.inr (List.mem_append.mpr (Or.inr h)))
theorem fg_X4_hasMarkFrom_178 {i : Nat} (hin : i < 24) (hd : decode cX4_hasMarkFrom pc = .ok (.getfield 178, 3)) (kk : mg_G K Z mX4_hasMarkFrom post (pc + 3) ls (iv (g 3 i 3) :: st) g) : mg_G K Z mX4_hasMarkFrom post pc ls (rv Z 3 i :: st) g :=
  g_get (own := RX3) (ci := 3) (j := 3) hin rfl rfl (by decide) (by decide +kernel) iw_X4_hasMarkFrom_X3 rfl hd kk
theorem fg_X4_hasMarkFrom_258 {i : Nat} (hin : i < 24) (hd : decode cX4_hasMarkFrom pc = .ok (.getfield 258, 3)) (kk : mg_G K Z mX4_hasMarkFrom post (pc + 3) ls (iv (g 3 i 2) :: st) g) : mg_G K Z mX4_hasMarkFrom post pc ls (rv Z 3 i :: st) g :=
  g_get (own := RX3) (ci := 3) (j := 2) hin rfl rfl (by decide) (by decide +kernel) iw_X4_hasMarkFrom_X3 rfl hd kk
theorem iw_X4_turnPointers_X4 : ∀ w ∈ wsX40, w ∈ wsX4_turnPointers := fun w h => List.mem_cons.mpr (Or.inr (List.mem_append.mpr (Or.inl (List.mem_append.mpr (Or.inl (List.mem_append.mpr (Or.inr h)))))))
theorem fg_X4_turnPointers_10 (hd : decode cX4_turnPointers pc = .ok (.getfield 10, 3)) (kk : mg_G K Z mX4_turnPointers post (pc + 3) ls (rv Z 0 0 :: st) g) : mg_G K Z mX4_turnPointers post pc ls (rv Z 4 0 :: st) g :=
  g_get (own := RX4) (ci := 4) (j := 0) (show 0 < 1 by omega) rfl rfl (by decide) (by decide +kernel) iw_X4_turnPointers_X4 rfl hd kk
theorem iw_X4_turnPointers_X0 : ∀ w ∈ wsX00, w ∈ wsX4_turnPointers := fun w h => List.mem_cons.mpr (Or.inr (List.mem_append.mpr (Or.inl (List.mem_append.mpr (Or.inr h)))))
theorem fg_X4_turnPointers_229 (hd : decode cX4_turnPointers pc = .ok (.getfield 229, 3)) (kk : mg_G K Z mX4_turnPointers post (pc + 3) ls (iv (g 0 0 1) :: st) g) : mg_G K Z mX4_turnPointers post pc ls (rv Z 0 0 :: st) g :=
  g_get (own := RX0) (ci := 0) (j := 1) (show 0 < 1 by omega) rfl rfl (by decide) (by decide +kernel) iw_X4_turnPointers_X0 rfl hd kk
theorem fg_X4_turnPointers_18 (hd : decode cX4_turnPointers pc = .ok (.getfield 18, 3)) (kk : mg_G K Z mX4_turnPointers post (pc + 3) ls (rv Z 18 0 :: st) g) : mg_G K Z mX4_turnPointers post pc ls (rv Z 4 0 :: st) g :=
  g_get (own := RX4) (ci := 4) (j := 1) (show 0 < 1 by omega) rfl rfl (by decide) (by decide +kernel) iw_X4_turnPointers_X4 rfl hd kk
theorem iw_X4_turnPointers_X3 : ∀ w ∈ wsX30, w ∈ wsX4_turnPointers := fun w h => List.mem_cons.mpr (Or.inr (List.mem_append.mpr (Or.inr h)))
theorem fg_X4_turnPointers_258 {i : Nat} (hin : i < 24) (hd : decode cX4_turnPointers pc = .ok (.getfield 258, 3)) (kk : mg_G K Z mX4_turnPointers post (pc + 3) ls (iv (g 3 i 2) :: st) g) : mg_G K Z mX4_turnPointers post pc ls (rv Z 3 i :: st) g :=
  g_get (own := RX3) (ci := 3) (j := 2) hin rfl rfl (by decide) (by decide +kernel) iw_X4_turnPointers_X3 rfl hd kk
theorem fp_X4_turnPointers_258 {i : Nat} (hin : i < 24) {a : Nat} (hd : decode cX4_turnPointers pc = .ok (.putfield 258, 3)) (kk : mg_G K Z mX4_turnPointers post (pc + 3) ls st (mg_up g 3 i 2 a)) : mg_G K Z mX4_turnPointers post pc ls (iv a :: rv Z 3 i :: st) g :=
  g_put (ci := 3) (j := 2) (ty := .int) (ty0 := tyX3) hin rfl rfl rfl (by decide) (by decide +kernel) iw_X4_turnPointers_X3 tyX3_ok nmX3 (by decide) rfl rfl rfl (Nat.le_of_ble_eq_true rfl) hd kk
theorem iw_X4_hang_X4 : ∀ w ∈ wsX40, w ∈ wsX4_hang := fun w h => List.mem_cons.mpr (Or.inr (List.mem_append.mpr (Or.inl (List.mem_append.mpr (Or.inl (List.mem_append.mpr (Or.inr h)))))))
theorem fg_X4_hang_10 (hd : decode cX4_hang pc = .ok (.getfield 10, 3)) (kk : mg_G K Z mX4_hang post (pc + 3) ls (rv Z 0 0 :: st) g) : mg_G K Z mX4_hang post pc ls (rv Z 4 0 :: st) g :=
  g_get (own := RX4) (ci := 4) (j := 0) (show 0 < 1 by omega) rfl rfl (by decide) (by decide +kernel) iw_X4_hang_X4 rfl hd kk
theorem fg_X4_hang_36 (hd : decode cX4_hang pc = .ok (.getfield 36, 3)) (kk : mg_G K Z mX4_hang post (pc + 3) ls (rv Z 19 0 :: st) g) : mg_G K Z mX4_hang post pc ls (rv Z 4 0 :: st) g :=
  g_get (own := RX4) (ci := 4) (j := 4) (show 0 < 1 by omega) rfl rfl (by decide) (by decide +kernel) iw_X4_hang_X4 rfl hd kk
theorem fg_X4_hang_39 (hd : decode cX4_hang pc = .ok (.getfield 39, 3)) (kk : mg_G K Z mX4_hang post (pc + 3) ls (rv Z 20 0 :: st) g) : mg_G K Z mX4_hang post pc ls (rv Z 4 0 :: st) g :=
  g_get (own := RX4) (ci := 4) (j := 5) (show 0 < 1 by omega) rfl rfl (by decide) (by decide +kernel) iw_X4_hang_X4 rfl hd kk
theorem iw_X4_join_X4 : ∀ w ∈ wsX40, w ∈ wsX4_join := fun w h => List.mem_cons.mpr (Or.inr (List.mem_append.mpr (Or.inl (List.mem_append.mpr (Or.inl (List.mem_append.mpr (Or.inl (List.mem_append.mpr (Or.inr h)))))))))
theorem fg_X4_join_10 (hd : decode cX4_join pc = .ok (.getfield 10, 3)) (kk : mg_G K Z mX4_join post (pc + 3) ls (rv Z 0 0 :: st) g) : mg_G K Z mX4_join post pc ls (rv Z 4 0 :: st) g :=
  g_get (own := RX4) (ci := 4) (j := 0) (show 0 < 1 by omega) rfl rfl (by decide) (by decide +kernel) iw_X4_join_X4 rfl hd kk
theorem iw_X4_holder_X4 : ∀ w ∈ wsX40, w ∈ wsX4_holder := fun w h => List.mem_cons.mpr (Or.inr (List.mem_append.mpr (Or.inl (List.mem_append.mpr (Or.inl (List.mem_append.mpr (Or.inr h)))))))
theorem fg_X4_holder_55 (hd : decode cX4_holder pc = .ok (.getfield 55, 3)) (kk : mg_G K Z mX4_holder post (pc + 3) ls (iv (g 4 0 6) :: st) g) : mg_G K Z mX4_holder post pc ls (rv Z 4 0 :: st) g :=
  g_get (own := RX4) (ci := 4) (j := 6) (show 0 < 1 by omega) rfl rfl (by decide) (by decide +kernel) iw_X4_holder_X4 rfl hd kk
theorem iw_X4_pointer_X4 : ∀ w ∈ wsX40, w ∈ wsX4_pointer := fun w h => List.mem_cons.mpr (Or.inr (List.mem_append.mpr (Or.inl (List.mem_append.mpr (Or.inl (List.mem_append.mpr (Or.inr h)))))))
theorem fg_X4_pointer_18 (hd : decode cX4_pointer pc = .ok (.getfield 18, 3)) (kk : mg_G K Z mX4_pointer post (pc + 3) ls (rv Z 18 0 :: st) g) : mg_G K Z mX4_pointer post pc ls (rv Z 4 0 :: st) g :=
  g_get (own := RX4) (ci := 4) (j := 1) (show 0 < 1 by omega) rfl rfl (by decide) (by decide +kernel) iw_X4_pointer_X4 rfl hd kk
theorem iw_X4_pointer_X3 : ∀ w ∈ wsX30, w ∈ wsX4_pointer := fun w h => List.mem_cons.mpr (Or.inr (List.mem_append.mpr (Or.inl (List.mem_append.mpr (Or.inr h)))))
theorem fg_X4_pointer_258 {i : Nat} (hin : i < 24) (hd : decode cX4_pointer pc = .ok (.getfield 258, 3)) (kk : mg_G K Z mX4_pointer post (pc + 3) ls (iv (g 3 i 2) :: st) g) : mg_G K Z mX4_pointer post pc ls (rv Z 3 i :: st) g :=
  g_get (own := RX3) (ci := 3) (j := 2) hin rfl rfl (by decide) (by decide +kernel) iw_X4_pointer_X3 rfl hd kk
theorem iw_X4_queue_X4 : ∀ w ∈ wsX40, w ∈ wsX4_queue := fun w h => List.mem_cons.mpr (Or.inr (List.mem_append.mpr (Or.inl (List.mem_append.mpr (Or.inl (List.mem_append.mpr (Or.inl (List.mem_append.mpr (Or.inr h)))))))))
theorem fg_X4_queue_18 (hd : decode cX4_queue pc = .ok (.getfield 18, 3)) (kk : mg_G K Z mX4_queue post (pc + 3) ls (rv Z 18 0 :: st) g) : mg_G K Z mX4_queue post pc ls (rv Z 4 0 :: st) g :=
  g_get (own := RX4) (ci := 4) (j := 1) (show 0 < 1 by omega) rfl rfl (by decide) (by decide +kernel) iw_X4_queue_X4 rfl hd kk
theorem iw_X4_queue_X3 : ∀ w ∈ wsX30, w ∈ wsX4_queue := fun w h => List.mem_cons.mpr (Or.inr (List.mem_append.mpr (Or.inl (List.mem_append.mpr (Or.inl (List.mem_append.mpr (Or.inr h)))))))
theorem fg_X4_queue_118 {i : Nat} (hin : i < 24) (hd : decode cX4_queue pc = .ok (.getfield 118, 3)) (kk : mg_G K Z mX4_queue post (pc + 3) ls (rv Z 2 i :: st) g) : mg_G K Z mX4_queue post pc ls (rv Z 3 i :: st) g :=
  g_get (own := RX3) (ci := 3) (j := 1) hin rfl rfl (by decide) (by decide +kernel) iw_X4_queue_X3 rfl hd kk
theorem iw_X4_queue_X2 : ∀ w ∈ wsX20, w ∈ wsX4_queue := fun w h => List.mem_cons.mpr (Or.inr (List.mem_append.mpr (Or.inl (List.mem_append.mpr (Or.inr h)))))
theorem fg_X4_queue_133 {i : Nat} (hin : i < 24) (hd : decode cX4_queue pc = .ok (.getfield 133, 3)) (kk : mg_G K Z mX4_queue post (pc + 3) ls (iv (g 2 i 2) :: st) g) : mg_G K Z mX4_queue post pc ls (rv Z 2 i :: st) g :=
  g_get (own := RX2) (ci := 2) (j := 2) hin rfl rfl (by decide) (by decide +kernel) iw_X4_queue_X2 rfl hd kk
theorem fg_X4_queue_261 {i : Nat} (hin : i < 24) (hd : decode cX4_queue pc = .ok (.getfield 261, 3)) (kk : mg_G K Z mX4_queue post (pc + 3) ls (rv Z 17 i :: st) g) : mg_G K Z mX4_queue post pc ls (rv Z 2 i :: st) g :=
  g_get (own := RX2) (ci := 2) (j := 1) hin rfl rfl (by decide) (by decide +kernel) iw_X4_queue_X2 rfl hd kk
theorem fg_X4_queue_142 {i : Nat} (hin : i < 24) (hd : decode cX4_queue pc = .ok (.getfield 142, 3)) (kk : mg_G K Z mX4_queue post (pc + 3) ls (rv Z 16 i :: st) g) : mg_G K Z mX4_queue post pc ls (rv Z 2 i :: st) g :=
  g_get (own := RX2) (ci := 2) (j := 0) hin rfl rfl (by decide) (by decide +kernel) iw_X4_queue_X2 rfl hd kk
theorem iw_X4_letter_X4 : ∀ w ∈ wsX40, w ∈ wsX4_letter := fun w h => List.mem_cons.mpr (Or.inr (List.mem_append.mpr (Or.inl (List.mem_append.mpr (Or.inr h)))))
theorem fg_X4_letter_31 (hd : decode cX4_letter pc = .ok (.getfield 31, 3)) (kk : mg_G K Z mX4_letter post (pc + 3) ls (rv Z 1 1 :: st) g) : mg_G K Z mX4_letter post pc ls (rv Z 4 0 :: st) g :=
  g_get (own := RX4) (ci := 4) (j := 3) (show 0 < 1 by omega) rfl rfl (by decide) (by decide +kernel) iw_X4_letter_X4 rfl hd kk
theorem iw_X4_letter_X1 : ∀ w ∈ wsX10, w ∈ wsX4_letter := fun w h => List.mem_cons.mpr (Or.inr (List.mem_append.mpr (Or.inr h)))
theorem fg_X4_letter_193 {i : Nat} (hin : i < 2) (hd : decode cX4_letter pc = .ok (.getfield 193, 3)) (kk : mg_G K Z mX4_letter post (pc + 3) ls (rv Z 11 i :: st) g) : mg_G K Z mX4_letter post pc ls (rv Z 1 i :: st) g :=
  g_get (own := RX1) (ci := 1) (j := 0) hin rfl rfl (by decide) (by decide +kernel) iw_X4_letter_X1 rfl hd kk
theorem fg_X4_letter_196 {i : Nat} (hin : i < 2) (hd : decode cX4_letter pc = .ok (.getfield 196, 3)) (kk : mg_G K Z mX4_letter post (pc + 3) ls (rv Z 12 i :: st) g) : mg_G K Z mX4_letter post pc ls (rv Z 1 i :: st) g :=
  g_get (own := RX1) (ci := 1) (j := 1) hin rfl rfl (by decide) (by decide +kernel) iw_X4_letter_X1 rfl hd kk
theorem fg_X4_letter_199 {i : Nat} (hin : i < 2) (hd : decode cX4_letter pc = .ok (.getfield 199, 3)) (kk : mg_G K Z mX4_letter post (pc + 3) ls (rv Z 13 i :: st) g) : mg_G K Z mX4_letter post pc ls (rv Z 1 i :: st) g :=
  g_get (own := RX1) (ci := 1) (j := 2) hin rfl rfl (by decide) (by decide +kernel) iw_X4_letter_X1 rfl hd kk
theorem fg_X4_letter_202 {i : Nat} (hin : i < 2) (hd : decode cX4_letter pc = .ok (.getfield 202, 3)) (kk : mg_G K Z mX4_letter post (pc + 3) ls (rv Z 14 i :: st) g) : mg_G K Z mX4_letter post pc ls (rv Z 1 i :: st) g :=
  g_get (own := RX1) (ci := 1) (j := 3) hin rfl rfl (by decide) (by decide +kernel) iw_X4_letter_X1 rfl hd kk
theorem fg_X4_letter_205 {i : Nat} (hin : i < 2) (hd : decode cX4_letter pc = .ok (.getfield 205, 3)) (kk : mg_G K Z mX4_letter post (pc + 3) ls (rv Z 15 i :: st) g) : mg_G K Z mX4_letter post pc ls (rv Z 1 i :: st) g :=
  g_get (own := RX1) (ci := 1) (j := 4) hin rfl rfl (by decide) (by decide +kernel) iw_X4_letter_X1 rfl hd kk
theorem iw_X4_told_X4 : ∀ w ∈ wsX40, w ∈ wsX4_told := fun w h => List.mem_cons.mpr (Or.inr (List.mem_append.mpr (Or.inl (List.mem_append.mpr (Or.inl (List.mem_append.mpr (Or.inl (List.mem_append.mpr (Or.inl (List.mem_append.mpr (Or.inr h)))))))))))
theorem fg_X4_told_18 (hd : decode cX4_told pc = .ok (.getfield 18, 3)) (kk : mg_G K Z mX4_told post (pc + 3) ls (rv Z 18 0 :: st) g) : mg_G K Z mX4_told post pc ls (rv Z 4 0 :: st) g :=
  g_get (own := RX4) (ci := 4) (j := 1) (show 0 < 1 by omega) rfl rfl (by decide) (by decide +kernel) iw_X4_told_X4 rfl hd kk
theorem iw_X4_told_X3 : ∀ w ∈ wsX30, w ∈ wsX4_told := fun w h => List.mem_cons.mpr (Or.inr (List.mem_append.mpr (Or.inl (List.mem_append.mpr (Or.inl (List.mem_append.mpr (Or.inl (List.mem_append.mpr (Or.inr h)))))))))
theorem fg_X4_told_178 {i : Nat} (hin : i < 24) (hd : decode cX4_told pc = .ok (.getfield 178, 3)) (kk : mg_G K Z mX4_told post (pc + 3) ls (iv (g 3 i 3) :: st) g) : mg_G K Z mX4_told post pc ls (rv Z 3 i :: st) g :=
  g_get (own := RX3) (ci := 3) (j := 3) hin rfl rfl (by decide) (by decide +kernel) iw_X4_told_X3 rfl hd kk
theorem fg_X4_told_111 {i : Nat} (hin : i < 24) (hd : decode cX4_told pc = .ok (.getfield 111, 3)) (kk : mg_G K Z mX4_told post (pc + 3) ls (iv (g 3 i 5) :: st) g) : mg_G K Z mX4_told post pc ls (rv Z 3 i :: st) g :=
  g_get (own := RX3) (ci := 3) (j := 5) hin rfl rfl (by decide) (by decide +kernel) iw_X4_told_X3 rfl hd kk
theorem fg_X4_told_211 {i : Nat} (hin : i < 24) (hd : decode cX4_told pc = .ok (.getfield 211, 3)) (kk : mg_G K Z mX4_told post (pc + 3) ls (iv (g 3 i 6) :: st) g) : mg_G K Z mX4_told post pc ls (rv Z 3 i :: st) g :=
  g_get (own := RX3) (ci := 3) (j := 6) hin rfl rfl (by decide) (by decide +kernel) iw_X4_told_X3 rfl hd kk
theorem fg_X4_told_118 {i : Nat} (hin : i < 24) (hd : decode cX4_told pc = .ok (.getfield 118, 3)) (kk : mg_G K Z mX4_told post (pc + 3) ls (rv Z 2 i :: st) g) : mg_G K Z mX4_told post pc ls (rv Z 3 i :: st) g :=
  g_get (own := RX3) (ci := 3) (j := 1) hin rfl rfl (by decide) (by decide +kernel) iw_X4_told_X3 rfl hd kk
theorem iw_X4_told_X2 : ∀ w ∈ wsX20, w ∈ wsX4_told := fun w h => List.mem_cons.mpr (Or.inr (List.mem_append.mpr (Or.inl (List.mem_append.mpr (Or.inl (List.mem_append.mpr (Or.inr h)))))))
theorem fg_X4_told_133 {i : Nat} (hin : i < 24) (hd : decode cX4_told pc = .ok (.getfield 133, 3)) (kk : mg_G K Z mX4_told post (pc + 3) ls (iv (g 2 i 2) :: st) g) : mg_G K Z mX4_told post pc ls (rv Z 2 i :: st) g :=
  g_get (own := RX2) (ci := 2) (j := 2) hin rfl rfl (by decide) (by decide +kernel) iw_X4_told_X2 rfl hd kk
theorem fg_X4_told_152 {i : Nat} (hin : i < 24) (hd : decode cX4_told pc = .ok (.getfield 152, 3)) (kk : mg_G K Z mX4_told post (pc + 3) ls (iv (g 3 i 7) :: st) g) : mg_G K Z mX4_told post pc ls (rv Z 3 i :: st) g :=
  g_get (own := RX3) (ci := 3) (j := 7) hin rfl rfl (by decide) (by decide +kernel) iw_X4_told_X3 rfl hd kk
theorem fg_X4_told_164 {i : Nat} (hin : i < 24) (hd : decode cX4_told pc = .ok (.getfield 164, 3)) (kk : mg_G K Z mX4_told post (pc + 3) ls (iv (g 3 i 8) :: st) g) : mg_G K Z mX4_told post pc ls (rv Z 3 i :: st) g :=
  g_get (own := RX3) (ci := 3) (j := 8) hin rfl rfl (by decide) (by decide +kernel) iw_X4_told_X3 rfl hd kk
theorem fg_X4_told_130 {i : Nat} (hin : i < 24) (hd : decode cX4_told pc = .ok (.getfield 130, 3)) (kk : mg_G K Z mX4_told post (pc + 3) ls (iv (g 3 i 10) :: st) g) : mg_G K Z mX4_told post pc ls (rv Z 3 i :: st) g :=
  g_get (own := RX3) (ci := 3) (j := 10) hin rfl rfl (by decide) (by decide +kernel) iw_X4_told_X3 rfl hd kk
theorem fg_X4_told_146 {i : Nat} (hin : i < 24) (hd : decode cX4_told pc = .ok (.getfield 146, 3)) (kk : mg_G K Z mX4_told post (pc + 3) ls (iv (g 3 i 11) :: st) g) : mg_G K Z mX4_told post pc ls (rv Z 3 i :: st) g :=
  g_get (own := RX3) (ci := 3) (j := 11) hin rfl rfl (by decide) (by decide +kernel) iw_X4_told_X3 rfl hd kk
theorem fg_X4_told_27 (hd : decode cX4_told pc = .ok (.getfield 27, 3)) (kk : mg_G K Z mX4_told post (pc + 3) ls (rv Z 1 0 :: st) g) : mg_G K Z mX4_told post pc ls (rv Z 4 0 :: st) g :=
  g_get (own := RX4) (ci := 4) (j := 2) (show 0 < 1 by omega) rfl rfl (by decide) (by decide +kernel) iw_X4_told_X4 rfl hd kk
theorem fg_X4_told_10 (hd : decode cX4_told pc = .ok (.getfield 10, 3)) (kk : mg_G K Z mX4_told post (pc + 3) ls (rv Z 0 0 :: st) g) : mg_G K Z mX4_told post pc ls (rv Z 4 0 :: st) g :=
  g_get (own := RX4) (ci := 4) (j := 0) (show 0 < 1 by omega) rfl rfl (by decide) (by decide +kernel) iw_X4_told_X4 rfl hd kk
theorem iw_X4_whoPumps_X4 : ∀ w ∈ wsX40, w ∈ wsX4_whoPumps := fun w h => List.mem_cons.mpr (Or.inr (List.mem_append.mpr (Or.inl (List.mem_append.mpr (Or.inl (List.mem_append.mpr (Or.inr h)))))))
theorem fg_X4_whoPumps_10 (hd : decode cX4_whoPumps pc = .ok (.getfield 10, 3)) (kk : mg_G K Z mX4_whoPumps post (pc + 3) ls (rv Z 0 0 :: st) g) : mg_G K Z mX4_whoPumps post pc ls (rv Z 4 0 :: st) g :=
  g_get (own := RX4) (ci := 4) (j := 0) (show 0 < 1 by omega) rfl rfl (by decide) (by decide +kernel) iw_X4_whoPumps_X4 rfl hd kk
theorem iw_X4_whoPumps_X0 : ∀ w ∈ wsX00, w ∈ wsX4_whoPumps := fun w h => List.mem_cons.mpr (Or.inr (List.mem_append.mpr (Or.inl (List.mem_append.mpr (Or.inr h)))))
theorem fg_X4_whoPumps_229 (hd : decode cX4_whoPumps pc = .ok (.getfield 229, 3)) (kk : mg_G K Z mX4_whoPumps post (pc + 3) ls (iv (g 0 0 1) :: st) g) : mg_G K Z mX4_whoPumps post pc ls (rv Z 0 0 :: st) g :=
  g_get (own := RX0) (ci := 0) (j := 1) (show 0 < 1 by omega) rfl rfl (by decide) (by decide +kernel) iw_X4_whoPumps_X0 rfl hd kk
theorem fg_X4_whoPumps_18 (hd : decode cX4_whoPumps pc = .ok (.getfield 18, 3)) (kk : mg_G K Z mX4_whoPumps post (pc + 3) ls (rv Z 18 0 :: st) g) : mg_G K Z mX4_whoPumps post pc ls (rv Z 4 0 :: st) g :=
  g_get (own := RX4) (ci := 4) (j := 1) (show 0 < 1 by omega) rfl rfl (by decide) (by decide +kernel) iw_X4_whoPumps_X4 rfl hd kk
theorem iw_X4_whoPumps_X3 : ∀ w ∈ wsX30, w ∈ wsX4_whoPumps := fun w h => List.mem_cons.mpr (Or.inr (List.mem_append.mpr (Or.inr h)))
theorem fg_X4_whoPumps_111 {i : Nat} (hin : i < 24) (hd : decode cX4_whoPumps pc = .ok (.getfield 111, 3)) (kk : mg_G K Z mX4_whoPumps post (pc + 3) ls (iv (g 3 i 5) :: st) g) : mg_G K Z mX4_whoPumps post pc ls (rv Z 3 i :: st) g :=
  g_get (own := RX3) (ci := 3) (j := 5) hin rfl rfl (by decide) (by decide +kernel) iw_X4_whoPumps_X3 rfl hd kk
theorem iw_X4_count_X4 : ∀ w ∈ wsX40, w ∈ wsX4_count := fun w h => List.mem_cons.mpr (Or.inr (List.mem_append.mpr (Or.inl (List.mem_append.mpr (Or.inl (List.mem_append.mpr (Or.inl (List.mem_append.mpr (Or.inr h)))))))))
theorem fg_X4_count_10 (hd : decode cX4_count pc = .ok (.getfield 10, 3)) (kk : mg_G K Z mX4_count post (pc + 3) ls (rv Z 0 0 :: st) g) : mg_G K Z mX4_count post pc ls (rv Z 4 0 :: st) g :=
  g_get (own := RX4) (ci := 4) (j := 0) (show 0 < 1 by omega) rfl rfl (by decide) (by decide +kernel) iw_X4_count_X4 rfl hd kk
theorem iw_X4_count_X0 : ∀ w ∈ wsX00, w ∈ wsX4_count := fun w h => List.mem_cons.mpr (Or.inr (List.mem_append.mpr (Or.inl (List.mem_append.mpr (Or.inl (List.mem_append.mpr (Or.inr h)))))))
theorem fg_X4_count_229 (hd : decode cX4_count pc = .ok (.getfield 229, 3)) (kk : mg_G K Z mX4_count post (pc + 3) ls (iv (g 0 0 1) :: st) g) : mg_G K Z mX4_count post pc ls (rv Z 0 0 :: st) g :=
  g_get (own := RX0) (ci := 0) (j := 1) (show 0 < 1 by omega) rfl rfl (by decide) (by decide +kernel) iw_X4_count_X0 rfl hd kk
theorem fg_X4_count_77 (hd : decode cX4_count pc = .ok (.getfield 77, 3)) (kk : mg_G K Z mX4_count post (pc + 3) ls (iv (g 0 0 2) :: st) g) : mg_G K Z mX4_count post pc ls (rv Z 0 0 :: st) g :=
  g_get (own := RX0) (ci := 0) (j := 2) (show 0 < 1 by omega) rfl rfl (by decide) (by decide +kernel) iw_X4_count_X0 rfl hd kk
theorem fg_X4_count_55 (hd : decode cX4_count pc = .ok (.getfield 55, 3)) (kk : mg_G K Z mX4_count post (pc + 3) ls (iv (g 4 0 6) :: st) g) : mg_G K Z mX4_count post pc ls (rv Z 4 0 :: st) g :=
  g_get (own := RX4) (ci := 4) (j := 6) (show 0 < 1 by omega) rfl rfl (by decide) (by decide +kernel) iw_X4_count_X4 rfl hd kk
theorem fg_X4_count_31 (hd : decode cX4_count pc = .ok (.getfield 31, 3)) (kk : mg_G K Z mX4_count post (pc + 3) ls (rv Z 1 1 :: st) g) : mg_G K Z mX4_count post pc ls (rv Z 4 0 :: st) g :=
  g_get (own := RX4) (ci := 4) (j := 3) (show 0 < 1 by omega) rfl rfl (by decide) (by decide +kernel) iw_X4_count_X4 rfl hd kk
theorem iw_X4_count_X1 : ∀ w ∈ wsX10, w ∈ wsX4_count := fun w h => List.mem_cons.mpr (Or.inr (List.mem_append.mpr (Or.inl (List.mem_append.mpr (Or.inr h)))))
theorem fg_X4_count_94 {i : Nat} (hin : i < 2) (hd : decode cX4_count pc = .ok (.getfield 94, 3)) (kk : mg_G K Z mX4_count post (pc + 3) ls (iv (g 1 i 5) :: st) g) : mg_G K Z mX4_count post pc ls (rv Z 1 i :: st) g :=
  g_get (own := RX1) (ci := 1) (j := 5) hin rfl rfl (by decide) (by decide +kernel) iw_X4_count_X1 rfl hd kk
theorem fg_X4_count_91 (hd : decode cX4_count pc = .ok (.getfield 91, 3)) (kk : mg_G K Z mX4_count post (pc + 3) ls (iv (g 4 0 9) :: st) g) : mg_G K Z mX4_count post pc ls (rv Z 4 0 :: st) g :=
  g_get (own := RX4) (ci := 4) (j := 9) (show 0 < 1 by omega) rfl rfl (by decide) (by decide +kernel) iw_X4_count_X4 rfl hd kk
end MGF
