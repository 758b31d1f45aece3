/-! ===== reading and writing each field, method by method ===== -/
section MGF
variable {K : mg_Kt} {Z : mg_Zt} {post : Option Nat → mg_F → Prop} {pc : Nat} {ls st : List Value} {g : mg_F}
theorem iw_X5_canal_X5 : ∀ w ∈ wsX50, w ∈ wsX5_canal := fun w h => List.mem_cons.mpr (Or.inr (List.mem_append.mpr (Or.inr h)))
theorem fp_X5_canal_101 (hb : Z.2.2.1 = true) {a : Nat} (hd : decode cX5_canal pc = .ok (.putfield 101, 3)) (kk : mg_G K Z mX5_canal post (pc + 3) ls st (mg_up g 5 0 0 a)) : mg_G K Z mX5_canal post pc ls (iv a :: rv Z 5 0 :: st) g :=
  g_put (ci := 5) (j := 0) (ty := .int) (ty0 := tyX5) (by rw [hb]; decide) rfl rfl rfl (by decide) (by decide +kernel) iw_X5_canal_X5 tyX5_ok nmX5 (by decide) rfl rfl rfl (Nat.le_of_ble_eq_true rfl) hd kk
theorem fp_X5_canal_105 (hb : Z.2.2.1 = true) {a : Nat} (hv : a < 2) (hd : decode cX5_canal pc = .ok (.putfield 105, 3)) (kk : mg_G K Z mX5_canal post (pc + 3) ls st (mg_up g 5 0 1 a)) : mg_G K Z mX5_canal post pc ls (iv a :: rv Z 5 0 :: st) g :=
  g_put (ci := 5) (j := 1) (ty := .boolean) (ty0 := tyX5) (by rw [hb]; decide) rfl rfl rfl (by decide) (by decide +kernel) iw_X5_canal_X5 tyX5_ok nmX5 (by decide) rfl (mg_narZ hv) (mg_fitZ hv) (Nat.le_of_ble_eq_true rfl) hd kk
theorem fp_X5_canal_113 (hb : Z.2.2.1 = true) {a : Nat} (hd : decode cX5_canal pc = .ok (.putfield 113, 3)) (kk : mg_G K Z mX5_canal post (pc + 3) ls st (mg_up g 5 0 4 a)) : mg_G K Z mX5_canal post pc ls (iv a :: rv Z 5 0 :: st) g :=
  g_put (ci := 5) (j := 4) (ty := .int) (ty0 := tyX5) (by rw [hb]; decide) rfl rfl rfl (by decide) (by decide +kernel) iw_X5_canal_X5 tyX5_ok nmX5 (by decide) rfl rfl rfl (Nat.le_of_ble_eq_true rfl) hd kk
theorem fg_X5_canal_7 (hb : Z.2.2.1 = true) (hd : decode cX5_canal pc = .ok (.getfield 7, 3)) (kk : mg_G K Z mX5_canal post (pc + 3) ls (rv Z 35 0 :: st) g) : mg_G K Z mX5_canal post pc ls (rv Z 5 0 :: st) g :=
  g_get (own := RX5) (ci := 5) (j := 5) (by rw [hb]; decide) rfl rfl (by decide) (by decide +kernel) iw_X5_canal_X5 rfl hd kk
theorem iw_X5_part_X5 : ∀ w ∈ wsX50, w ∈ wsX5_part := fun w h => List.mem_cons.mpr (Or.inr (List.mem_append.mpr (Or.inr h)))
theorem fg_X5_part_101 (hb : Z.2.2.1 = true) (hd : decode cX5_part pc = .ok (.getfield 101, 3)) (kk : mg_G K Z mX5_part post (pc + 3) ls (iv (g 5 0 0) :: st) g) : mg_G K Z mX5_part post pc ls (rv Z 5 0 :: st) g :=
  g_get (own := RX5) (ci := 5) (j := 0) (by rw [hb]; decide) rfl rfl (by decide) (by decide +kernel) iw_X5_part_X5 rfl hd kk
theorem fg_X5_part_80 (hb : Z.2.2.1 = true) (hd : decode cX5_part pc = .ok (.getfield 80, 3)) (kk : mg_G K Z mX5_part post (pc + 3) ls (rv Z 61 0 :: st) g) : mg_G K Z mX5_part post pc ls (rv Z 5 0 :: st) g :=
  g_get (own := RX5) (ci := 5) (j := 31) (by rw [hb]; decide) rfl rfl (by decide) (by decide +kernel) iw_X5_part_X5 rfl hd kk
theorem fg_X5_part_7 (hb : Z.2.2.1 = true) (hd : decode cX5_part pc = .ok (.getfield 7, 3)) (kk : mg_G K Z mX5_part post (pc + 3) ls (rv Z 35 0 :: st) g) : mg_G K Z mX5_part post pc ls (rv Z 5 0 :: st) g :=
  g_get (own := RX5) (ci := 5) (j := 5) (by rw [hb]; decide) rfl rfl (by decide) (by decide +kernel) iw_X5_part_X5 rfl hd kk
theorem iw_X5_isStation_X5 : ∀ w ∈ wsX50, w ∈ wsX5_isStation := fun w h => List.mem_cons.mpr (Or.inr (List.mem_append.mpr (Or.inr h)))
theorem fg_X5_isStation_101 (hb : Z.2.2.1 = true) (hd : decode cX5_isStation pc = .ok (.getfield 101, 3)) (kk : mg_G K Z mX5_isStation post (pc + 3) ls (iv (g 5 0 0) :: st) g) : mg_G K Z mX5_isStation post pc ls (rv Z 5 0 :: st) g :=
  g_get (own := RX5) (ci := 5) (j := 0) (by rw [hb]; decide) rfl rfl (by decide) (by decide +kernel) iw_X5_isStation_X5 rfl hd kk
theorem iw_X5_join2_X5 : ∀ w ∈ wsX50, w ∈ wsX5_join2 := fun w h => List.mem_cons.mpr (Or.inr (List.mem_append.mpr (Or.inr h)))
theorem fg_X5_join2_7 (hb : Z.2.2.1 = true) (hd : decode cX5_join2 pc = .ok (.getfield 7, 3)) (kk : mg_G K Z mX5_join2 post (pc + 3) ls (rv Z 35 0 :: st) g) : mg_G K Z mX5_join2 post pc ls (rv Z 5 0 :: st) g :=
  g_get (own := RX5) (ci := 5) (j := 5) (by rw [hb]; decide) rfl rfl (by decide) (by decide +kernel) iw_X5_join2_X5 rfl hd kk
theorem fg_X5_join2_113 (hb : Z.2.2.1 = true) (hd : decode cX5_join2 pc = .ok (.getfield 113, 3)) (kk : mg_G K Z mX5_join2 post (pc + 3) ls (iv (g 5 0 4) :: st) g) : mg_G K Z mX5_join2 post pc ls (rv Z 5 0 :: st) g :=
  g_get (own := RX5) (ci := 5) (j := 4) (by rw [hb]; decide) rfl rfl (by decide) (by decide +kernel) iw_X5_join2_X5 rfl hd kk
theorem fp_X5_join2_113 (hb : Z.2.2.1 = true) {a : Nat} (hd : decode cX5_join2 pc = .ok (.putfield 113, 3)) (kk : mg_G K Z mX5_join2 post (pc + 3) ls st (mg_up g 5 0 4 a)) : mg_G K Z mX5_join2 post pc ls (iv a :: rv Z 5 0 :: st) g :=
  g_put (ci := 5) (j := 4) (ty := .int) (ty0 := tyX5) (by rw [hb]; decide) rfl rfl rfl (by decide) (by decide +kernel) iw_X5_join2_X5 tyX5_ok nmX5 (by decide) rfl rfl rfl (Nat.le_of_ble_eq_true rfl) hd kk
theorem iw_X5_link_X5 : ∀ w ∈ wsX50, w ∈ wsX5_link := fun w h => List.mem_cons.mpr (Or.inr (List.mem_append.mpr (Or.inr h)))
theorem fg_X5_link_105 (hb : Z.2.2.1 = true) (hd : decode cX5_link pc = .ok (.getfield 105, 3)) (kk : mg_G K Z mX5_link post (pc + 3) ls (iv (g 5 0 1) :: st) g) : mg_G K Z mX5_link post pc ls (rv Z 5 0 :: st) g :=
  g_get (own := RX5) (ci := 5) (j := 1) (by rw [hb]; decide) rfl rfl (by decide) (by decide +kernel) iw_X5_link_X5 rfl hd kk
theorem fg_X5_link_80 (hb : Z.2.2.1 = true) (hd : decode cX5_link pc = .ok (.getfield 80, 3)) (kk : mg_G K Z mX5_link post (pc + 3) ls (rv Z 61 0 :: st) g) : mg_G K Z mX5_link post pc ls (rv Z 5 0 :: st) g :=
  g_get (own := RX5) (ci := 5) (j := 31) (by rw [hb]; decide) rfl rfl (by decide) (by decide +kernel) iw_X5_link_X5 rfl hd kk
theorem fg_X5_link_113 (hb : Z.2.2.1 = true) (hd : decode cX5_link pc = .ok (.getfield 113, 3)) (kk : mg_G K Z mX5_link post (pc + 3) ls (iv (g 5 0 4) :: st) g) : mg_G K Z mX5_link post pc ls (rv Z 5 0 :: st) g :=
  g_get (own := RX5) (ci := 5) (j := 4) (by rw [hb]; decide) rfl rfl (by decide) (by decide +kernel) iw_X5_link_X5 rfl hd kk
theorem iw_X5_open_X5 : ∀ w ∈ wsX50, w ∈ wsX5_open := fun w h => List.mem_cons.mpr (Or.inr (List.mem_append.mpr (Or.inr h)))
theorem fg_X5_open_105 (hb : Z.2.2.1 = true) (hd : decode cX5_open pc = .ok (.getfield 105, 3)) (kk : mg_G K Z mX5_open post (pc + 3) ls (iv (g 5 0 1) :: st) g) : mg_G K Z mX5_open post pc ls (rv Z 5 0 :: st) g :=
  g_get (own := RX5) (ci := 5) (j := 1) (by rw [hb]; decide) rfl rfl (by decide) (by decide +kernel) iw_X5_open_X5 rfl hd kk
theorem fp_X5_open_105 (hb : Z.2.2.1 = true) {a : Nat} (hv : a < 2) (hd : decode cX5_open pc = .ok (.putfield 105, 3)) (kk : mg_G K Z mX5_open post (pc + 3) ls st (mg_up g 5 0 1 a)) : mg_G K Z mX5_open post pc ls (iv a :: rv Z 5 0 :: st) g :=
  g_put (ci := 5) (j := 1) (ty := .boolean) (ty0 := tyX5) (by rw [hb]; decide) rfl rfl rfl (by decide) (by decide +kernel) iw_X5_open_X5 tyX5_ok nmX5 (by decide) rfl (mg_narZ hv) (mg_fitZ hv) (Nat.le_of_ble_eq_true rfl) hd kk
theorem fp_X5_open_124 (hb : Z.2.2.1 = true) {a : Nat} (hd : decode cX5_open pc = .ok (.putfield 124, 3)) (kk : mg_G K Z mX5_open post (pc + 3) ls st (mg_up g 5 0 2 a)) : mg_G K Z mX5_open post pc ls (iv a :: rv Z 5 0 :: st) g :=
  g_put (ci := 5) (j := 2) (ty := .int) (ty0 := tyX5) (by rw [hb]; decide) rfl rfl rfl (by decide) (by decide +kernel) iw_X5_open_X5 tyX5_ok nmX5 (by decide) rfl rfl rfl (Nat.le_of_ble_eq_true rfl) hd kk
theorem fp_X5_open_127 (hb : Z.2.2.1 = true) {a : Nat} (hd : decode cX5_open pc = .ok (.putfield 127, 3)) (kk : mg_G K Z mX5_open post (pc + 3) ls st (mg_up g 5 0 3 a)) : mg_G K Z mX5_open post pc ls (iv a :: rv Z 5 0 :: st) g :=
  g_put (ci := 5) (j := 3) (ty := .int) (ty0 := tyX5) (by rw [hb]; decide) rfl rfl rfl (by decide) (by decide +kernel) iw_X5_open_X5 tyX5_ok nmX5 (by decide) rfl rfl rfl (Nat.le_of_ble_eq_true rfl) hd kk
theorem fp_X5_open_130 (hb : Z.2.2.1 = true) {a : Nat} (hd : decode cX5_open pc = .ok (.putfield 130, 3)) (kk : mg_G K Z mX5_open post (pc + 3) ls st (mg_up g 5 0 15 a)) : mg_G K Z mX5_open post pc ls (iv a :: rv Z 5 0 :: st) g :=
  g_put (ci := 5) (j := 15) (ty := .int) (ty0 := tyX5) (by rw [hb]; decide) rfl rfl rfl (by decide) (by decide +kernel) iw_X5_open_X5 tyX5_ok nmX5 (by decide) rfl rfl rfl (Nat.le_of_ble_eq_true rfl) hd kk
theorem fp_X5_open_133 (hb : Z.2.2.1 = true) {a : Nat} (hd : decode cX5_open pc = .ok (.putfield 133, 3)) (kk : mg_G K Z mX5_open post (pc + 3) ls st (mg_up g 5 0 21 a)) : mg_G K Z mX5_open post pc ls (iv a :: rv Z 5 0 :: st) g :=
  g_put (ci := 5) (j := 21) (ty := .int) (ty0 := tyX5) (by rw [hb]; decide) rfl rfl rfl (by decide) (by decide +kernel) iw_X5_open_X5 tyX5_ok nmX5 (by decide) rfl rfl rfl (Nat.le_of_ble_eq_true rfl) hd kk
theorem fp_X5_open_136 (hb : Z.2.2.1 = true) {a : Nat} (hd : decode cX5_open pc = .ok (.putfield 136, 3)) (kk : mg_G K Z mX5_open post (pc + 3) ls st (mg_up g 5 0 26 a)) : mg_G K Z mX5_open post pc ls (iv a :: rv Z 5 0 :: st) g :=
  g_put (ci := 5) (j := 26) (ty := .int) (ty0 := tyX5) (by rw [hb]; decide) rfl rfl rfl (by decide) (by decide +kernel) iw_X5_open_X5 tyX5_ok nmX5 (by decide) rfl rfl rfl (Nat.le_of_ble_eq_true rfl) hd kk
theorem fg_X5_open_50 (hb : Z.2.2.1 = true) (hd : decode cX5_open pc = .ok (.getfield 50, 3)) (kk : mg_G K Z mX5_open post (pc + 3) ls (rv Z 49 0 :: st) g) : mg_G K Z mX5_open post pc ls (rv Z 5 0 :: st) g :=
  g_get (own := RX5) (ci := 5) (j := 19) (by rw [hb]; decide) rfl rfl (by decide) (by decide +kernel) iw_X5_open_X5 rfl hd kk
theorem fg_X5_open_53 (hb : Z.2.2.1 = true) (hd : decode cX5_open pc = .ok (.getfield 53, 3)) (kk : mg_G K Z mX5_open post (pc + 3) ls (rv Z 50 0 :: st) g) : mg_G K Z mX5_open post pc ls (rv Z 5 0 :: st) g :=
  g_get (own := RX5) (ci := 5) (j := 20) (by rw [hb]; decide) rfl rfl (by decide) (by decide +kernel) iw_X5_open_X5 rfl hd kk
theorem fg_X5_open_101 (hb : Z.2.2.1 = true) (hd : decode cX5_open pc = .ok (.getfield 101, 3)) (kk : mg_G K Z mX5_open post (pc + 3) ls (iv (g 5 0 0) :: st) g) : mg_G K Z mX5_open post pc ls (rv Z 5 0 :: st) g :=
  g_get (own := RX5) (ci := 5) (j := 0) (by rw [hb]; decide) rfl rfl (by decide) (by decide +kernel) iw_X5_open_X5 rfl hd kk
theorem fg_X5_open_13 (hb : Z.2.2.1 = true) (hd : decode cX5_open pc = .ok (.getfield 13, 3)) (kk : mg_G K Z mX5_open post (pc + 3) ls (rv Z 36 0 :: st) g) : mg_G K Z mX5_open post pc ls (rv Z 5 0 :: st) g :=
  g_get (own := RX5) (ci := 5) (j := 6) (by rw [hb]; decide) rfl rfl (by decide) (by decide +kernel) iw_X5_open_X5 rfl hd kk
theorem fg_X5_open_17 (hb : Z.2.2.1 = true) (hd : decode cX5_open pc = .ok (.getfield 17, 3)) (kk : mg_G K Z mX5_open post (pc + 3) ls (rv Z 37 0 :: st) g) : mg_G K Z mX5_open post pc ls (rv Z 5 0 :: st) g :=
  g_get (own := RX5) (ci := 5) (j := 7) (by rw [hb]; decide) rfl rfl (by decide) (by decide +kernel) iw_X5_open_X5 rfl hd kk
theorem fg_X5_open_20 (hb : Z.2.2.1 = true) (hd : decode cX5_open pc = .ok (.getfield 20, 3)) (kk : mg_G K Z mX5_open post (pc + 3) ls (rv Z 38 0 :: st) g) : mg_G K Z mX5_open post pc ls (rv Z 5 0 :: st) g :=
  g_get (own := RX5) (ci := 5) (j := 8) (by rw [hb]; decide) rfl rfl (by decide) (by decide +kernel) iw_X5_open_X5 rfl hd kk
theorem fg_X5_open_23 (hb : Z.2.2.1 = true) (hd : decode cX5_open pc = .ok (.getfield 23, 3)) (kk : mg_G K Z mX5_open post (pc + 3) ls (rv Z 39 0 :: st) g) : mg_G K Z mX5_open post pc ls (rv Z 5 0 :: st) g :=
  g_get (own := RX5) (ci := 5) (j := 9) (by rw [hb]; decide) rfl rfl (by decide) (by decide +kernel) iw_X5_open_X5 rfl hd kk
theorem fg_X5_open_26 (hb : Z.2.2.1 = true) (hd : decode cX5_open pc = .ok (.getfield 26, 3)) (kk : mg_G K Z mX5_open post (pc + 3) ls (rv Z 40 0 :: st) g) : mg_G K Z mX5_open post pc ls (rv Z 5 0 :: st) g :=
  g_get (own := RX5) (ci := 5) (j := 10) (by rw [hb]; decide) rfl rfl (by decide) (by decide +kernel) iw_X5_open_X5 rfl hd kk
theorem fg_X5_open_29 (hb : Z.2.2.1 = true) (hd : decode cX5_open pc = .ok (.getfield 29, 3)) (kk : mg_G K Z mX5_open post (pc + 3) ls (rv Z 41 0 :: st) g) : mg_G K Z mX5_open post pc ls (rv Z 5 0 :: st) g :=
  g_get (own := RX5) (ci := 5) (j := 11) (by rw [hb]; decide) rfl rfl (by decide) (by decide +kernel) iw_X5_open_X5 rfl hd kk
theorem fg_X5_open_32 (hb : Z.2.2.1 = true) (hd : decode cX5_open pc = .ok (.getfield 32, 3)) (kk : mg_G K Z mX5_open post (pc + 3) ls (rv Z 42 0 :: st) g) : mg_G K Z mX5_open post pc ls (rv Z 5 0 :: st) g :=
  g_get (own := RX5) (ci := 5) (j := 12) (by rw [hb]; decide) rfl rfl (by decide) (by decide +kernel) iw_X5_open_X5 rfl hd kk
theorem fg_X5_open_35 (hb : Z.2.2.1 = true) (hd : decode cX5_open pc = .ok (.getfield 35, 3)) (kk : mg_G K Z mX5_open post (pc + 3) ls (rv Z 43 0 :: st) g) : mg_G K Z mX5_open post pc ls (rv Z 5 0 :: st) g :=
  g_get (own := RX5) (ci := 5) (j := 13) (by rw [hb]; decide) rfl rfl (by decide) (by decide +kernel) iw_X5_open_X5 rfl hd kk
theorem fg_X5_open_38 (hb : Z.2.2.1 = true) (hd : decode cX5_open pc = .ok (.getfield 38, 3)) (kk : mg_G K Z mX5_open post (pc + 3) ls (rv Z 44 0 :: st) g) : mg_G K Z mX5_open post pc ls (rv Z 5 0 :: st) g :=
  g_get (own := RX5) (ci := 5) (j := 14) (by rw [hb]; decide) rfl rfl (by decide) (by decide +kernel) iw_X5_open_X5 rfl hd kk
theorem fg_X5_open_41 (hb : Z.2.2.1 = true) (hd : decode cX5_open pc = .ok (.getfield 41, 3)) (kk : mg_G K Z mX5_open post (pc + 3) ls (rv Z 46 0 :: st) g) : mg_G K Z mX5_open post pc ls (rv Z 5 0 :: st) g :=
  g_get (own := RX5) (ci := 5) (j := 16) (by rw [hb]; decide) rfl rfl (by decide) (by decide +kernel) iw_X5_open_X5 rfl hd kk
theorem fg_X5_open_7 (hb : Z.2.2.1 = true) (hd : decode cX5_open pc = .ok (.getfield 7, 3)) (kk : mg_G K Z mX5_open post (pc + 3) ls (rv Z 35 0 :: st) g) : mg_G K Z mX5_open post pc ls (rv Z 5 0 :: st) g :=
  g_get (own := RX5) (ci := 5) (j := 5) (by rw [hb]; decide) rfl rfl (by decide) (by decide +kernel) iw_X5_open_X5 rfl hd kk
theorem iw_X5_isUp_X5 : ∀ w ∈ wsX50, w ∈ wsX5_isUp := fun w h => List.mem_cons.mpr (Or.inr (List.mem_append.mpr (Or.inr h)))
theorem fg_X5_isUp_105 (hb : Z.2.2.1 = true) (hd : decode cX5_isUp pc = .ok (.getfield 105, 3)) (kk : mg_G K Z mX5_isUp post (pc + 3) ls (iv (g 5 0 1) :: st) g) : mg_G K Z mX5_isUp post pc ls (rv Z 5 0 :: st) g :=
  g_get (own := RX5) (ci := 5) (j := 1) (by rw [hb]; decide) rfl rfl (by decide) (by decide +kernel) iw_X5_isUp_X5 rfl hd kk
theorem fg_X5_isUp_23 (hb : Z.2.2.1 = true) (hd : decode cX5_isUp pc = .ok (.getfield 23, 3)) (kk : mg_G K Z mX5_isUp post (pc + 3) ls (rv Z 39 0 :: st) g) : mg_G K Z mX5_isUp post pc ls (rv Z 5 0 :: st) g :=
  g_get (own := RX5) (ci := 5) (j := 9) (by rw [hb]; decide) rfl rfl (by decide) (by decide +kernel) iw_X5_isUp_X5 rfl hd kk
theorem iw_X5_placeOf_X5 : ∀ w ∈ wsX50, w ∈ wsX5_placeOf := fun w h => List.mem_cons.mpr (Or.inr (List.mem_append.mpr (Or.inr h)))
theorem fg_X5_placeOf_41 (hb : Z.2.2.1 = true) (hd : decode cX5_placeOf pc = .ok (.getfield 41, 3)) (kk : mg_G K Z mX5_placeOf post (pc + 3) ls (rv Z 46 0 :: st) g) : mg_G K Z mX5_placeOf post pc ls (rv Z 5 0 :: st) g :=
  g_get (own := RX5) (ci := 5) (j := 16) (by rw [hb]; decide) rfl rfl (by decide) (by decide +kernel) iw_X5_placeOf_X5 rfl hd kk
theorem fg_X5_placeOf_44 (hb : Z.2.2.1 = true) (hd : decode cX5_placeOf pc = .ok (.getfield 44, 3)) (kk : mg_G K Z mX5_placeOf post (pc + 3) ls (rv Z 47 0 :: st) g) : mg_G K Z mX5_placeOf post pc ls (rv Z 5 0 :: st) g :=
  g_get (own := RX5) (ci := 5) (j := 17) (by rw [hb]; decide) rfl rfl (by decide) (by decide +kernel) iw_X5_placeOf_X5 rfl hd kk
theorem iw_X5_come_X5 : ∀ w ∈ wsX50, w ∈ wsX5_come := fun w h => List.mem_cons.mpr (Or.inr (List.mem_append.mpr (Or.inr h)))
theorem fg_X5_come_41 (hb : Z.2.2.1 = true) (hd : decode cX5_come pc = .ok (.getfield 41, 3)) (kk : mg_G K Z mX5_come post (pc + 3) ls (rv Z 46 0 :: st) g) : mg_G K Z mX5_come post pc ls (rv Z 5 0 :: st) g :=
  g_get (own := RX5) (ci := 5) (j := 16) (by rw [hb]; decide) rfl rfl (by decide) (by decide +kernel) iw_X5_come_X5 rfl hd kk
theorem fg_X5_come_44 (hb : Z.2.2.1 = true) (hd : decode cX5_come pc = .ok (.getfield 44, 3)) (kk : mg_G K Z mX5_come post (pc + 3) ls (rv Z 47 0 :: st) g) : mg_G K Z mX5_come post pc ls (rv Z 5 0 :: st) g :=
  g_get (own := RX5) (ci := 5) (j := 17) (by rw [hb]; decide) rfl rfl (by decide) (by decide +kernel) iw_X5_come_X5 rfl hd kk
theorem fg_X5_come_47 (hb : Z.2.2.1 = true) (hd : decode cX5_come pc = .ok (.getfield 47, 3)) (kk : mg_G K Z mX5_come post (pc + 3) ls (rv Z 48 0 :: st) g) : mg_G K Z mX5_come post pc ls (rv Z 5 0 :: st) g :=
  g_get (own := RX5) (ci := 5) (j := 18) (by rw [hb]; decide) rfl rfl (by decide) (by decide +kernel) iw_X5_come_X5 rfl hd kk
theorem iw_X5_leave_X5 : ∀ w ∈ wsX50, w ∈ wsX5_leave := fun w h => List.mem_cons.mpr (Or.inr (List.mem_append.mpr (Or.inr h)))
theorem fg_X5_leave_41 (hb : Z.2.2.1 = true) (hd : decode cX5_leave pc = .ok (.getfield 41, 3)) (kk : mg_G K Z mX5_leave post (pc + 3) ls (rv Z 46 0 :: st) g) : mg_G K Z mX5_leave post pc ls (rv Z 5 0 :: st) g :=
  g_get (own := RX5) (ci := 5) (j := 16) (by rw [hb]; decide) rfl rfl (by decide) (by decide +kernel) iw_X5_leave_X5 rfl hd kk
theorem fg_X5_leave_44 (hb : Z.2.2.1 = true) (hd : decode cX5_leave pc = .ok (.getfield 44, 3)) (kk : mg_G K Z mX5_leave post (pc + 3) ls (rv Z 47 0 :: st) g) : mg_G K Z mX5_leave post pc ls (rv Z 5 0 :: st) g :=
  g_get (own := RX5) (ci := 5) (j := 17) (by rw [hb]; decide) rfl rfl (by decide) (by decide +kernel) iw_X5_leave_X5 rfl hd kk
theorem fg_X5_leave_47 (hb : Z.2.2.1 = true) (hd : decode cX5_leave pc = .ok (.getfield 47, 3)) (kk : mg_G K Z mX5_leave post (pc + 3) ls (rv Z 48 0 :: st) g) : mg_G K Z mX5_leave post pc ls (rv Z 5 0 :: st) g :=
  g_get (own := RX5) (ci := 5) (j := 18) (by rw [hb]; decide) rfl rfl (by decide) (by decide +kernel) iw_X5_leave_X5 rfl hd kk
theorem iw_X5_firstOf_X5 : ∀ w ∈ wsX50, w ∈ wsX5_firstOf := fun w h => List.mem_cons.mpr (Or.inr (List.mem_append.mpr (Or.inr h)))
theorem fg_X5_firstOf_124 (hb : Z.2.2.1 = true) (hd : decode cX5_firstOf pc = .ok (.getfield 124, 3)) (kk : mg_G K Z mX5_firstOf post (pc + 3) ls (iv (g 5 0 2) :: st) g) : mg_G K Z mX5_firstOf post pc ls (rv Z 5 0 :: st) g :=
  g_get (own := RX5) (ci := 5) (j := 2) (by rw [hb]; decide) rfl rfl (by decide) (by decide +kernel) iw_X5_firstOf_X5 rfl hd kk
theorem fg_X5_firstOf_26 (hb : Z.2.2.1 = true) (hd : decode cX5_firstOf pc = .ok (.getfield 26, 3)) (kk : mg_G K Z mX5_firstOf post (pc + 3) ls (rv Z 40 0 :: st) g) : mg_G K Z mX5_firstOf post pc ls (rv Z 5 0 :: st) g :=
  g_get (own := RX5) (ci := 5) (j := 10) (by rw [hb]; decide) rfl rfl (by decide) (by decide +kernel) iw_X5_firstOf_X5 rfl hd kk
theorem fg_X5_firstOf_127 (hb : Z.2.2.1 = true) (hd : decode cX5_firstOf pc = .ok (.getfield 127, 3)) (kk : mg_G K Z mX5_firstOf post (pc + 3) ls (iv (g 5 0 3) :: st) g) : mg_G K Z mX5_firstOf post pc ls (rv Z 5 0 :: st) g :=
  g_get (own := RX5) (ci := 5) (j := 3) (by rw [hb]; decide) rfl rfl (by decide) (by decide +kernel) iw_X5_firstOf_X5 rfl hd kk
theorem fg_X5_firstOf_41 (hb : Z.2.2.1 = true) (hd : decode cX5_firstOf pc = .ok (.getfield 41, 3)) (kk : mg_G K Z mX5_firstOf post (pc + 3) ls (rv Z 46 0 :: st) g) : mg_G K Z mX5_firstOf post pc ls (rv Z 5 0 :: st) g :=
  g_get (own := RX5) (ci := 5) (j := 16) (by rw [hb]; decide) rfl rfl (by decide) (by decide +kernel) iw_X5_firstOf_X5 rfl hd kk
theorem fg_X5_firstOf_47 (hb : Z.2.2.1 = true) (hd : decode cX5_firstOf pc = .ok (.getfield 47, 3)) (kk : mg_G K Z mX5_firstOf post (pc + 3) ls (rv Z 48 0 :: st) g) : mg_G K Z mX5_firstOf post pc ls (rv Z 5 0 :: st) g :=
  g_get (own := RX5) (ci := 5) (j := 18) (by rw [hb]; decide) rfl rfl (by decide) (by decide +kernel) iw_X5_firstOf_X5 rfl hd kk
theorem iw_X5_greatest_X5 : ∀ w ∈ wsX50, w ∈ wsX5_greatest := fun w h => List.mem_cons.mpr (Or.inr (List.mem_append.mpr (Or.inr h)))
theorem fg_X5_greatest_41 (hb : Z.2.2.1 = true) (hd : decode cX5_greatest pc = .ok (.getfield 41, 3)) (kk : mg_G K Z mX5_greatest post (pc + 3) ls (rv Z 46 0 :: st) g) : mg_G K Z mX5_greatest post pc ls (rv Z 5 0 :: st) g :=
  g_get (own := RX5) (ci := 5) (j := 16) (by rw [hb]; decide) rfl rfl (by decide) (by decide +kernel) iw_X5_greatest_X5 rfl hd kk
theorem fg_X5_greatest_47 (hb : Z.2.2.1 = true) (hd : decode cX5_greatest pc = .ok (.getfield 47, 3)) (kk : mg_G K Z mX5_greatest post (pc + 3) ls (rv Z 48 0 :: st) g) : mg_G K Z mX5_greatest post pc ls (rv Z 5 0 :: st) g :=
  g_get (own := RX5) (ci := 5) (j := 18) (by rw [hb]; decide) rfl rfl (by decide) (by decide +kernel) iw_X5_greatest_X5 rfl hd kk
theorem iw_X5_send_X5 : ∀ w ∈ wsX50, w ∈ wsX5_send := fun w h => List.mem_cons.mpr (Or.inr (List.mem_append.mpr (Or.inr h)))
theorem fg_X5_send_136 (hb : Z.2.2.1 = true) (hd : decode cX5_send pc = .ok (.getfield 136, 3)) (kk : mg_G K Z mX5_send post (pc + 3) ls (iv (g 5 0 26) :: st) g) : mg_G K Z mX5_send post pc ls (rv Z 5 0 :: st) g :=
  g_get (own := RX5) (ci := 5) (j := 26) (by rw [hb]; decide) rfl rfl (by decide) (by decide +kernel) iw_X5_send_X5 rfl hd kk
theorem fg_X5_send_68 (hb : Z.2.2.1 = true) (hd : decode cX5_send pc = .ok (.getfield 68, 3)) (kk : mg_G K Z mX5_send post (pc + 3) ls (rv Z 57 0 :: st) g) : mg_G K Z mX5_send post pc ls (rv Z 5 0 :: st) g :=
  g_get (own := RX5) (ci := 5) (j := 27) (by rw [hb]; decide) rfl rfl (by decide) (by decide +kernel) iw_X5_send_X5 rfl hd kk
theorem fg_X5_send_71 (hb : Z.2.2.1 = true) (hd : decode cX5_send pc = .ok (.getfield 71, 3)) (kk : mg_G K Z mX5_send post (pc + 3) ls (rv Z 58 0 :: st) g) : mg_G K Z mX5_send post pc ls (rv Z 5 0 :: st) g :=
  g_get (own := RX5) (ci := 5) (j := 28) (by rw [hb]; decide) rfl rfl (by decide) (by decide +kernel) iw_X5_send_X5 rfl hd kk
theorem fg_X5_send_74 (hb : Z.2.2.1 = true) (hd : decode cX5_send pc = .ok (.getfield 74, 3)) (kk : mg_G K Z mX5_send post (pc + 3) ls (rv Z 59 0 :: st) g) : mg_G K Z mX5_send post pc ls (rv Z 5 0 :: st) g :=
  g_get (own := RX5) (ci := 5) (j := 29) (by rw [hb]; decide) rfl rfl (by decide) (by decide +kernel) iw_X5_send_X5 rfl hd kk
theorem fg_X5_send_77 (hb : Z.2.2.1 = true) (hd : decode cX5_send pc = .ok (.getfield 77, 3)) (kk : mg_G K Z mX5_send post (pc + 3) ls (rv Z 60 0 :: st) g) : mg_G K Z mX5_send post pc ls (rv Z 5 0 :: st) g :=
  g_get (own := RX5) (ci := 5) (j := 30) (by rw [hb]; decide) rfl rfl (by decide) (by decide +kernel) iw_X5_send_X5 rfl hd kk
theorem fp_X5_send_136 (hb : Z.2.2.1 = true) {a : Nat} (hd : decode cX5_send pc = .ok (.putfield 136, 3)) (kk : mg_G K Z mX5_send post (pc + 3) ls st (mg_up g 5 0 26 a)) : mg_G K Z mX5_send post pc ls (iv a :: rv Z 5 0 :: st) g :=
  g_put (ci := 5) (j := 26) (ty := .int) (ty0 := tyX5) (by rw [hb]; decide) rfl rfl rfl (by decide) (by decide +kernel) iw_X5_send_X5 tyX5_ok nmX5 (by decide) rfl rfl rfl (Nat.le_of_ble_eq_true rfl) hd kk
theorem iw_X5_firstLetter_X5 : ∀ w ∈ wsX50, w ∈ wsX5_firstLetter := fun w h => List.mem_cons.mpr (Or.inr (List.mem_append.mpr (Or.inr h)))
theorem fg_X5_firstLetter_133 (hb : Z.2.2.1 = true) (hd : decode cX5_firstLetter pc = .ok (.getfield 133, 3)) (kk : mg_G K Z mX5_firstLetter post (pc + 3) ls (iv (g 5 0 21) :: st) g) : mg_G K Z mX5_firstLetter post pc ls (rv Z 5 0 :: st) g :=
  g_get (own := RX5) (ci := 5) (j := 21) (by rw [hb]; decide) rfl rfl (by decide) (by decide +kernel) iw_X5_firstLetter_X5 rfl hd kk
theorem fg_X5_firstLetter_56 (hb : Z.2.2.1 = true) (hd : decode cX5_firstLetter pc = .ok (.getfield 56, 3)) (kk : mg_G K Z mX5_firstLetter post (pc + 3) ls (rv Z 52 0 :: st) g) : mg_G K Z mX5_firstLetter post pc ls (rv Z 5 0 :: st) g :=
  g_get (own := RX5) (ci := 5) (j := 22) (by rw [hb]; decide) rfl rfl (by decide) (by decide +kernel) iw_X5_firstLetter_X5 rfl hd kk
theorem iw_X5_sendFirst_X5 : ∀ w ∈ wsX50, w ∈ wsX5_sendFirst := fun w h => List.mem_cons.mpr (Or.inr (List.mem_append.mpr (Or.inr h)))
theorem fg_X5_sendFirst_59 (hb : Z.2.2.1 = true) (hd : decode cX5_sendFirst pc = .ok (.getfield 59, 3)) (kk : mg_G K Z mX5_sendFirst post (pc + 3) ls (rv Z 53 0 :: st) g) : mg_G K Z mX5_sendFirst post pc ls (rv Z 5 0 :: st) g :=
  g_get (own := RX5) (ci := 5) (j := 23) (by rw [hb]; decide) rfl rfl (by decide) (by decide +kernel) iw_X5_sendFirst_X5 rfl hd kk
theorem fg_X5_sendFirst_62 (hb : Z.2.2.1 = true) (hd : decode cX5_sendFirst pc = .ok (.getfield 62, 3)) (kk : mg_G K Z mX5_sendFirst post (pc + 3) ls (rv Z 54 0 :: st) g) : mg_G K Z mX5_sendFirst post pc ls (rv Z 5 0 :: st) g :=
  g_get (own := RX5) (ci := 5) (j := 24) (by rw [hb]; decide) rfl rfl (by decide) (by decide +kernel) iw_X5_sendFirst_X5 rfl hd kk
theorem fg_X5_sendFirst_65 (hb : Z.2.2.1 = true) (hd : decode cX5_sendFirst pc = .ok (.getfield 65, 3)) (kk : mg_G K Z mX5_sendFirst post (pc + 3) ls (rv Z 55 0 :: st) g) : mg_G K Z mX5_sendFirst post pc ls (rv Z 5 0 :: st) g :=
  g_get (own := RX5) (ci := 5) (j := 25) (by rw [hb]; decide) rfl rfl (by decide) (by decide +kernel) iw_X5_sendFirst_X5 rfl hd kk
theorem iw_X5_write_X5 : ∀ w ∈ wsX50, w ∈ wsX5_write := fun w h => List.mem_cons.mpr (Or.inr (List.mem_append.mpr (Or.inr h)))
theorem fg_X5_write_56 (hb : Z.2.2.1 = true) (hd : decode cX5_write pc = .ok (.getfield 56, 3)) (kk : mg_G K Z mX5_write post (pc + 3) ls (rv Z 52 0 :: st) g) : mg_G K Z mX5_write post pc ls (rv Z 5 0 :: st) g :=
  g_get (own := RX5) (ci := 5) (j := 22) (by rw [hb]; decide) rfl rfl (by decide) (by decide +kernel) iw_X5_write_X5 rfl hd kk
theorem fg_X5_write_133 (hb : Z.2.2.1 = true) (hd : decode cX5_write pc = .ok (.getfield 133, 3)) (kk : mg_G K Z mX5_write post (pc + 3) ls (iv (g 5 0 21) :: st) g) : mg_G K Z mX5_write post pc ls (rv Z 5 0 :: st) g :=
  g_get (own := RX5) (ci := 5) (j := 21) (by rw [hb]; decide) rfl rfl (by decide) (by decide +kernel) iw_X5_write_X5 rfl hd kk
theorem fg_X5_write_59 (hb : Z.2.2.1 = true) (hd : decode cX5_write pc = .ok (.getfield 59, 3)) (kk : mg_G K Z mX5_write post (pc + 3) ls (rv Z 53 0 :: st) g) : mg_G K Z mX5_write post pc ls (rv Z 5 0 :: st) g :=
  g_get (own := RX5) (ci := 5) (j := 23) (by rw [hb]; decide) rfl rfl (by decide) (by decide +kernel) iw_X5_write_X5 rfl hd kk
theorem fg_X5_write_62 (hb : Z.2.2.1 = true) (hd : decode cX5_write pc = .ok (.getfield 62, 3)) (kk : mg_G K Z mX5_write post (pc + 3) ls (rv Z 54 0 :: st) g) : mg_G K Z mX5_write post pc ls (rv Z 5 0 :: st) g :=
  g_get (own := RX5) (ci := 5) (j := 24) (by rw [hb]; decide) rfl rfl (by decide) (by decide +kernel) iw_X5_write_X5 rfl hd kk
theorem fg_X5_write_65 (hb : Z.2.2.1 = true) (hd : decode cX5_write pc = .ok (.getfield 65, 3)) (kk : mg_G K Z mX5_write post (pc + 3) ls (rv Z 55 0 :: st) g) : mg_G K Z mX5_write post pc ls (rv Z 5 0 :: st) g :=
  g_get (own := RX5) (ci := 5) (j := 25) (by rw [hb]; decide) rfl rfl (by decide) (by decide +kernel) iw_X5_write_X5 rfl hd kk
theorem fg_X5_write_50 (hb : Z.2.2.1 = true) (hd : decode cX5_write pc = .ok (.getfield 50, 3)) (kk : mg_G K Z mX5_write post (pc + 3) ls (rv Z 49 0 :: st) g) : mg_G K Z mX5_write post pc ls (rv Z 5 0 :: st) g :=
  g_get (own := RX5) (ci := 5) (j := 19) (by rw [hb]; decide) rfl rfl (by decide) (by decide +kernel) iw_X5_write_X5 rfl hd kk
theorem fp_X5_write_133 (hb : Z.2.2.1 = true) {a : Nat} (hd : decode cX5_write pc = .ok (.putfield 133, 3)) (kk : mg_G K Z mX5_write post (pc + 3) ls st (mg_up g 5 0 21 a)) : mg_G K Z mX5_write post pc ls (iv a :: rv Z 5 0 :: st) g :=
  g_put (ci := 5) (j := 21) (ty := .int) (ty0 := tyX5) (by rw [hb]; decide) rfl rfl rfl (by decide) (by decide +kernel) iw_X5_write_X5 tyX5_ok nmX5 (by decide) rfl rfl rfl (Nat.le_of_ble_eq_true rfl) hd kk
theorem iw_X5_writeAsk_X5 : ∀ w ∈ wsX50, w ∈ wsX5_writeAsk := fun w h => List.mem_cons.mpr (Or.inr (List.mem_append.mpr (Or.inr h)))
theorem fg_X5_writeAsk_17 (hb : Z.2.2.1 = true) (hd : decode cX5_writeAsk pc = .ok (.getfield 17, 3)) (kk : mg_G K Z mX5_writeAsk post (pc + 3) ls (rv Z 37 0 :: st) g) : mg_G K Z mX5_writeAsk post pc ls (rv Z 5 0 :: st) g :=
  g_get (own := RX5) (ci := 5) (j := 7) (by rw [hb]; decide) rfl rfl (by decide) (by decide +kernel) iw_X5_writeAsk_X5 rfl hd kk
theorem fg_X5_writeAsk_29 (hb : Z.2.2.1 = true) (hd : decode cX5_writeAsk pc = .ok (.getfield 29, 3)) (kk : mg_G K Z mX5_writeAsk post (pc + 3) ls (rv Z 41 0 :: st) g) : mg_G K Z mX5_writeAsk post pc ls (rv Z 5 0 :: st) g :=
  g_get (own := RX5) (ci := 5) (j := 11) (by rw [hb]; decide) rfl rfl (by decide) (by decide +kernel) iw_X5_writeAsk_X5 rfl hd kk
theorem fg_X5_writeAsk_13 (hb : Z.2.2.1 = true) (hd : decode cX5_writeAsk pc = .ok (.getfield 13, 3)) (kk : mg_G K Z mX5_writeAsk post (pc + 3) ls (rv Z 36 0 :: st) g) : mg_G K Z mX5_writeAsk post pc ls (rv Z 5 0 :: st) g :=
  g_get (own := RX5) (ci := 5) (j := 6) (by rw [hb]; decide) rfl rfl (by decide) (by decide +kernel) iw_X5_writeAsk_X5 rfl hd kk
theorem iw_X5_dropLetter_X5 : ∀ w ∈ wsX50, w ∈ wsX5_dropLetter := fun w h => List.mem_cons.mpr (Or.inr (List.mem_append.mpr (Or.inr h)))
theorem fg_X5_dropLetter_133 (hb : Z.2.2.1 = true) (hd : decode cX5_dropLetter pc = .ok (.getfield 133, 3)) (kk : mg_G K Z mX5_dropLetter post (pc + 3) ls (iv (g 5 0 21) :: st) g) : mg_G K Z mX5_dropLetter post pc ls (rv Z 5 0 :: st) g :=
  g_get (own := RX5) (ci := 5) (j := 21) (by rw [hb]; decide) rfl rfl (by decide) (by decide +kernel) iw_X5_dropLetter_X5 rfl hd kk
theorem fp_X5_dropLetter_133 (hb : Z.2.2.1 = true) {a : Nat} (hd : decode cX5_dropLetter pc = .ok (.putfield 133, 3)) (kk : mg_G K Z mX5_dropLetter post (pc + 3) ls st (mg_up g 5 0 21 a)) : mg_G K Z mX5_dropLetter post pc ls (iv a :: rv Z 5 0 :: st) g :=
  g_put (ci := 5) (j := 21) (ty := .int) (ty0 := tyX5) (by rw [hb]; decide) rfl rfl rfl (by decide) (by decide +kernel) iw_X5_dropLetter_X5 tyX5_ok nmX5 (by decide) rfl rfl rfl (Nat.le_of_ble_eq_true rfl) hd kk
theorem fg_X5_dropLetter_56 (hb : Z.2.2.1 = true) (hd : decode cX5_dropLetter pc = .ok (.getfield 56, 3)) (kk : mg_G K Z mX5_dropLetter post (pc + 3) ls (rv Z 52 0 :: st) g) : mg_G K Z mX5_dropLetter post pc ls (rv Z 5 0 :: st) g :=
  g_get (own := RX5) (ci := 5) (j := 22) (by rw [hb]; decide) rfl rfl (by decide) (by decide +kernel) iw_X5_dropLetter_X5 rfl hd kk
theorem fg_X5_dropLetter_59 (hb : Z.2.2.1 = true) (hd : decode cX5_dropLetter pc = .ok (.getfield 59, 3)) (kk : mg_G K Z mX5_dropLetter post (pc + 3) ls (rv Z 53 0 :: st) g) : mg_G K Z mX5_dropLetter post pc ls (rv Z 5 0 :: st) g :=
  g_get (own := RX5) (ci := 5) (j := 23) (by rw [hb]; decide) rfl rfl (by decide) (by decide +kernel) iw_X5_dropLetter_X5 rfl hd kk
theorem fg_X5_dropLetter_62 (hb : Z.2.2.1 = true) (hd : decode cX5_dropLetter pc = .ok (.getfield 62, 3)) (kk : mg_G K Z mX5_dropLetter post (pc + 3) ls (rv Z 54 0 :: st) g) : mg_G K Z mX5_dropLetter post pc ls (rv Z 5 0 :: st) g :=
  g_get (own := RX5) (ci := 5) (j := 24) (by rw [hb]; decide) rfl rfl (by decide) (by decide +kernel) iw_X5_dropLetter_X5 rfl hd kk
theorem fg_X5_dropLetter_65 (hb : Z.2.2.1 = true) (hd : decode cX5_dropLetter pc = .ok (.getfield 65, 3)) (kk : mg_G K Z mX5_dropLetter post (pc + 3) ls (rv Z 55 0 :: st) g) : mg_G K Z mX5_dropLetter post pc ls (rv Z 5 0 :: st) g :=
  g_get (own := RX5) (ci := 5) (j := 25) (by rw [hb]; decide) rfl rfl (by decide) (by decide +kernel) iw_X5_dropLetter_X5 rfl hd kk
theorem iw_X5_dropCopy_X5 : ∀ w ∈ wsX50, w ∈ wsX5_dropCopy := fun w h => List.mem_cons.mpr (Or.inr (List.mem_append.mpr (Or.inr h)))
theorem fg_X5_dropCopy_136 (hb : Z.2.2.1 = true) (hd : decode cX5_dropCopy pc = .ok (.getfield 136, 3)) (kk : mg_G K Z mX5_dropCopy post (pc + 3) ls (iv (g 5 0 26) :: st) g) : mg_G K Z mX5_dropCopy post pc ls (rv Z 5 0 :: st) g :=
  g_get (own := RX5) (ci := 5) (j := 26) (by rw [hb]; decide) rfl rfl (by decide) (by decide +kernel) iw_X5_dropCopy_X5 rfl hd kk
theorem fp_X5_dropCopy_136 (hb : Z.2.2.1 = true) {a : Nat} (hd : decode cX5_dropCopy pc = .ok (.putfield 136, 3)) (kk : mg_G K Z mX5_dropCopy post (pc + 3) ls st (mg_up g 5 0 26 a)) : mg_G K Z mX5_dropCopy post pc ls (iv a :: rv Z 5 0 :: st) g :=
  g_put (ci := 5) (j := 26) (ty := .int) (ty0 := tyX5) (by rw [hb]; decide) rfl rfl rfl (by decide) (by decide +kernel) iw_X5_dropCopy_X5 tyX5_ok nmX5 (by decide) rfl rfl rfl (Nat.le_of_ble_eq_true rfl) hd kk
theorem fg_X5_dropCopy_68 (hb : Z.2.2.1 = true) (hd : decode cX5_dropCopy pc = .ok (.getfield 68, 3)) (kk : mg_G K Z mX5_dropCopy post (pc + 3) ls (rv Z 57 0 :: st) g) : mg_G K Z mX5_dropCopy post pc ls (rv Z 5 0 :: st) g :=
  g_get (own := RX5) (ci := 5) (j := 27) (by rw [hb]; decide) rfl rfl (by decide) (by decide +kernel) iw_X5_dropCopy_X5 rfl hd kk
theorem fg_X5_dropCopy_71 (hb : Z.2.2.1 = true) (hd : decode cX5_dropCopy pc = .ok (.getfield 71, 3)) (kk : mg_G K Z mX5_dropCopy post (pc + 3) ls (rv Z 58 0 :: st) g) : mg_G K Z mX5_dropCopy post pc ls (rv Z 5 0 :: st) g :=
  g_get (own := RX5) (ci := 5) (j := 28) (by rw [hb]; decide) rfl rfl (by decide) (by decide +kernel) iw_X5_dropCopy_X5 rfl hd kk
theorem fg_X5_dropCopy_74 (hb : Z.2.2.1 = true) (hd : decode cX5_dropCopy pc = .ok (.getfield 74, 3)) (kk : mg_G K Z mX5_dropCopy post (pc + 3) ls (rv Z 59 0 :: st) g) : mg_G K Z mX5_dropCopy post pc ls (rv Z 5 0 :: st) g :=
  g_get (own := RX5) (ci := 5) (j := 29) (by rw [hb]; decide) rfl rfl (by decide) (by decide +kernel) iw_X5_dropCopy_X5 rfl hd kk
theorem fg_X5_dropCopy_77 (hb : Z.2.2.1 = true) (hd : decode cX5_dropCopy pc = .ok (.getfield 77, 3)) (kk : mg_G K Z mX5_dropCopy post (pc + 3) ls (rv Z 60 0 :: st) g) : mg_G K Z mX5_dropCopy post pc ls (rv Z 5 0 :: st) g :=
  g_get (own := RX5) (ci := 5) (j := 30) (by rw [hb]; decide) rfl rfl (by decide) (by decide +kernel) iw_X5_dropCopy_X5 rfl hd kk
theorem iw_X5_want_X5 : ∀ w ∈ wsX50, w ∈ wsX5_want := fun w h => List.mem_cons.mpr (Or.inr (List.mem_append.mpr (Or.inr h)))
theorem fg_X5_want_20 (hb : Z.2.2.1 = true) (hd : decode cX5_want pc = .ok (.getfield 20, 3)) (kk : mg_G K Z mX5_want post (pc + 3) ls (rv Z 38 0 :: st) g) : mg_G K Z mX5_want post pc ls (rv Z 5 0 :: st) g :=
  g_get (own := RX5) (ci := 5) (j := 8) (by rw [hb]; decide) rfl rfl (by decide) (by decide +kernel) iw_X5_want_X5 rfl hd kk
theorem fg_X5_want_35 (hb : Z.2.2.1 = true) (hd : decode cX5_want pc = .ok (.getfield 35, 3)) (kk : mg_G K Z mX5_want post (pc + 3) ls (rv Z 43 0 :: st) g) : mg_G K Z mX5_want post pc ls (rv Z 5 0 :: st) g :=
  g_get (own := RX5) (ci := 5) (j := 13) (by rw [hb]; decide) rfl rfl (by decide) (by decide +kernel) iw_X5_want_X5 rfl hd kk
theorem fg_X5_want_41 (hb : Z.2.2.1 = true) (hd : decode cX5_want pc = .ok (.getfield 41, 3)) (kk : mg_G K Z mX5_want post (pc + 3) ls (rv Z 46 0 :: st) g) : mg_G K Z mX5_want post pc ls (rv Z 5 0 :: st) g :=
  g_get (own := RX5) (ci := 5) (j := 16) (by rw [hb]; decide) rfl rfl (by decide) (by decide +kernel) iw_X5_want_X5 rfl hd kk
theorem iw_X5_begin_X5 : ∀ w ∈ wsX50, w ∈ wsX5_begin := fun w h => List.mem_cons.mpr (Or.inr (List.mem_append.mpr (Or.inr h)))
theorem fg_X5_begin_13 (hb : Z.2.2.1 = true) (hd : decode cX5_begin pc = .ok (.getfield 13, 3)) (kk : mg_G K Z mX5_begin post (pc + 3) ls (rv Z 36 0 :: st) g) : mg_G K Z mX5_begin post pc ls (rv Z 5 0 :: st) g :=
  g_get (own := RX5) (ci := 5) (j := 6) (by rw [hb]; decide) rfl rfl (by decide) (by decide +kernel) iw_X5_begin_X5 rfl hd kk
theorem fg_X5_begin_20 (hb : Z.2.2.1 = true) (hd : decode cX5_begin pc = .ok (.getfield 20, 3)) (kk : mg_G K Z mX5_begin post (pc + 3) ls (rv Z 38 0 :: st) g) : mg_G K Z mX5_begin post pc ls (rv Z 5 0 :: st) g :=
  g_get (own := RX5) (ci := 5) (j := 8) (by rw [hb]; decide) rfl rfl (by decide) (by decide +kernel) iw_X5_begin_X5 rfl hd kk
theorem fg_X5_begin_41 (hb : Z.2.2.1 = true) (hd : decode cX5_begin pc = .ok (.getfield 41, 3)) (kk : mg_G K Z mX5_begin post (pc + 3) ls (rv Z 46 0 :: st) g) : mg_G K Z mX5_begin post pc ls (rv Z 5 0 :: st) g :=
  g_get (own := RX5) (ci := 5) (j := 16) (by rw [hb]; decide) rfl rfl (by decide) (by decide +kernel) iw_X5_begin_X5 rfl hd kk
theorem fg_X5_begin_44 (hb : Z.2.2.1 = true) (hd : decode cX5_begin pc = .ok (.getfield 44, 3)) (kk : mg_G K Z mX5_begin post (pc + 3) ls (rv Z 47 0 :: st) g) : mg_G K Z mX5_begin post pc ls (rv Z 5 0 :: st) g :=
  g_get (own := RX5) (ci := 5) (j := 17) (by rw [hb]; decide) rfl rfl (by decide) (by decide +kernel) iw_X5_begin_X5 rfl hd kk
theorem fg_X5_begin_38 (hb : Z.2.2.1 = true) (hd : decode cX5_begin pc = .ok (.getfield 38, 3)) (kk : mg_G K Z mX5_begin post (pc + 3) ls (rv Z 44 0 :: st) g) : mg_G K Z mX5_begin post pc ls (rv Z 5 0 :: st) g :=
  g_get (own := RX5) (ci := 5) (j := 14) (by rw [hb]; decide) rfl rfl (by decide) (by decide +kernel) iw_X5_begin_X5 rfl hd kk
theorem fg_X5_begin_26 (hb : Z.2.2.1 = true) (hd : decode cX5_begin pc = .ok (.getfield 26, 3)) (kk : mg_G K Z mX5_begin post (pc + 3) ls (rv Z 40 0 :: st) g) : mg_G K Z mX5_begin post pc ls (rv Z 5 0 :: st) g :=
  g_get (own := RX5) (ci := 5) (j := 10) (by rw [hb]; decide) rfl rfl (by decide) (by decide +kernel) iw_X5_begin_X5 rfl hd kk
theorem fg_X5_begin_130 (hb : Z.2.2.1 = true) (hd : decode cX5_begin pc = .ok (.getfield 130, 3)) (kk : mg_G K Z mX5_begin post (pc + 3) ls (iv (g 5 0 15) :: st) g) : mg_G K Z mX5_begin post pc ls (rv Z 5 0 :: st) g :=
  g_get (own := RX5) (ci := 5) (j := 15) (by rw [hb]; decide) rfl rfl (by decide) (by decide +kernel) iw_X5_begin_X5 rfl hd kk
theorem fp_X5_begin_130 (hb : Z.2.2.1 = true) {a : Nat} (hd : decode cX5_begin pc = .ok (.putfield 130, 3)) (kk : mg_G K Z mX5_begin post (pc + 3) ls st (mg_up g 5 0 15 a)) : mg_G K Z mX5_begin post pc ls (iv a :: rv Z 5 0 :: st) g :=
  g_put (ci := 5) (j := 15) (ty := .int) (ty0 := tyX5) (by rw [hb]; decide) rfl rfl rfl (by decide) (by decide +kernel) iw_X5_begin_X5 tyX5_ok nmX5 (by decide) rfl rfl rfl (Nat.le_of_ble_eq_true rfl) hd kk
theorem fg_X5_begin_101 (hb : Z.2.2.1 = true) (hd : decode cX5_begin pc = .ok (.getfield 101, 3)) (kk : mg_G K Z mX5_begin post (pc + 3) ls (iv (g 5 0 0) :: st) g) : mg_G K Z mX5_begin post pc ls (rv Z 5 0 :: st) g :=
  g_get (own := RX5) (ci := 5) (j := 0) (by rw [hb]; decide) rfl rfl (by decide) (by decide +kernel) iw_X5_begin_X5 rfl hd kk
theorem fg_X5_begin_35 (hb : Z.2.2.1 = true) (hd : decode cX5_begin pc = .ok (.getfield 35, 3)) (kk : mg_G K Z mX5_begin post (pc + 3) ls (rv Z 43 0 :: st) g) : mg_G K Z mX5_begin post pc ls (rv Z 5 0 :: st) g :=
  g_get (own := RX5) (ci := 5) (j := 13) (by rw [hb]; decide) rfl rfl (by decide) (by decide +kernel) iw_X5_begin_X5 rfl hd kk
theorem iw_X5_stop_X5 : ∀ w ∈ wsX50, w ∈ wsX5_stop := fun w h => List.mem_cons.mpr (Or.inr (List.mem_append.mpr (Or.inr h)))
theorem fg_X5_stop_32 (hb : Z.2.2.1 = true) (hd : decode cX5_stop pc = .ok (.getfield 32, 3)) (kk : mg_G K Z mX5_stop post (pc + 3) ls (rv Z 42 0 :: st) g) : mg_G K Z mX5_stop post pc ls (rv Z 5 0 :: st) g :=
  g_get (own := RX5) (ci := 5) (j := 12) (by rw [hb]; decide) rfl rfl (by decide) (by decide +kernel) iw_X5_stop_X5 rfl hd kk
theorem fg_X5_stop_20 (hb : Z.2.2.1 = true) (hd : decode cX5_stop pc = .ok (.getfield 20, 3)) (kk : mg_G K Z mX5_stop post (pc + 3) ls (rv Z 38 0 :: st) g) : mg_G K Z mX5_stop post pc ls (rv Z 5 0 :: st) g :=
  g_get (own := RX5) (ci := 5) (j := 8) (by rw [hb]; decide) rfl rfl (by decide) (by decide +kernel) iw_X5_stop_X5 rfl hd kk
theorem iw_X5_end_X5 : ∀ w ∈ wsX50, w ∈ wsX5_end := fun w h => List.mem_cons.mpr (Or.inr (List.mem_append.mpr (Or.inr h)))
theorem fg_X5_end_105 (hb : Z.2.2.1 = true) (hd : decode cX5_end pc = .ok (.getfield 105, 3)) (kk : mg_G K Z mX5_end post (pc + 3) ls (iv (g 5 0 1) :: st) g) : mg_G K Z mX5_end post pc ls (rv Z 5 0 :: st) g :=
  g_get (own := RX5) (ci := 5) (j := 1) (by rw [hb]; decide) rfl rfl (by decide) (by decide +kernel) iw_X5_end_X5 rfl hd kk
theorem fg_X5_end_20 (hb : Z.2.2.1 = true) (hd : decode cX5_end pc = .ok (.getfield 20, 3)) (kk : mg_G K Z mX5_end post (pc + 3) ls (rv Z 38 0 :: st) g) : mg_G K Z mX5_end post pc ls (rv Z 5 0 :: st) g :=
  g_get (own := RX5) (ci := 5) (j := 8) (by rw [hb]; decide) rfl rfl (by decide) (by decide +kernel) iw_X5_end_X5 rfl hd kk
theorem fg_X5_end_32 (hb : Z.2.2.1 = true) (hd : decode cX5_end pc = .ok (.getfield 32, 3)) (kk : mg_G K Z mX5_end post (pc + 3) ls (rv Z 42 0 :: st) g) : mg_G K Z mX5_end post pc ls (rv Z 5 0 :: st) g :=
  g_get (own := RX5) (ci := 5) (j := 12) (by rw [hb]; decide) rfl rfl (by decide) (by decide +kernel) iw_X5_end_X5 rfl hd kk
theorem iw_X5_step_X5 : ∀ w ∈ wsX50, w ∈ wsX5_step := fun w h => List.mem_cons.mpr (Or.inr (List.mem_append.mpr (Or.inr h)))
theorem fg_X5_step_41 (hb : Z.2.2.1 = true) (hd : decode cX5_step pc = .ok (.getfield 41, 3)) (kk : mg_G K Z mX5_step post (pc + 3) ls (rv Z 46 0 :: st) g) : mg_G K Z mX5_step post pc ls (rv Z 5 0 :: st) g :=
  g_get (own := RX5) (ci := 5) (j := 16) (by rw [hb]; decide) rfl rfl (by decide) (by decide +kernel) iw_X5_step_X5 rfl hd kk
theorem fg_X5_step_13 (hb : Z.2.2.1 = true) (hd : decode cX5_step pc = .ok (.getfield 13, 3)) (kk : mg_G K Z mX5_step post (pc + 3) ls (rv Z 36 0 :: st) g) : mg_G K Z mX5_step post pc ls (rv Z 5 0 :: st) g :=
  g_get (own := RX5) (ci := 5) (j := 6) (by rw [hb]; decide) rfl rfl (by decide) (by decide +kernel) iw_X5_step_X5 rfl hd kk
theorem fg_X5_step_44 (hb : Z.2.2.1 = true) (hd : decode cX5_step pc = .ok (.getfield 44, 3)) (kk : mg_G K Z mX5_step post (pc + 3) ls (rv Z 47 0 :: st) g) : mg_G K Z mX5_step post pc ls (rv Z 5 0 :: st) g :=
  g_get (own := RX5) (ci := 5) (j := 17) (by rw [hb]; decide) rfl rfl (by decide) (by decide +kernel) iw_X5_step_X5 rfl hd kk
theorem fg_X5_step_20 (hb : Z.2.2.1 = true) (hd : decode cX5_step pc = .ok (.getfield 20, 3)) (kk : mg_G K Z mX5_step post (pc + 3) ls (rv Z 38 0 :: st) g) : mg_G K Z mX5_step post pc ls (rv Z 5 0 :: st) g :=
  g_get (own := RX5) (ci := 5) (j := 8) (by rw [hb]; decide) rfl rfl (by decide) (by decide +kernel) iw_X5_step_X5 rfl hd kk
theorem fg_X5_step_26 (hb : Z.2.2.1 = true) (hd : decode cX5_step pc = .ok (.getfield 26, 3)) (kk : mg_G K Z mX5_step post (pc + 3) ls (rv Z 40 0 :: st) g) : mg_G K Z mX5_step post pc ls (rv Z 5 0 :: st) g :=
  g_get (own := RX5) (ci := 5) (j := 10) (by rw [hb]; decide) rfl rfl (by decide) (by decide +kernel) iw_X5_step_X5 rfl hd kk
theorem fg_X5_step_17 (hb : Z.2.2.1 = true) (hd : decode cX5_step pc = .ok (.getfield 17, 3)) (kk : mg_G K Z mX5_step post (pc + 3) ls (rv Z 37 0 :: st) g) : mg_G K Z mX5_step post pc ls (rv Z 5 0 :: st) g :=
  g_get (own := RX5) (ci := 5) (j := 7) (by rw [hb]; decide) rfl rfl (by decide) (by decide +kernel) iw_X5_step_X5 rfl hd kk
theorem fg_X5_step_124 (hb : Z.2.2.1 = true) (hd : decode cX5_step pc = .ok (.getfield 124, 3)) (kk : mg_G K Z mX5_step post (pc + 3) ls (iv (g 5 0 2) :: st) g) : mg_G K Z mX5_step post pc ls (rv Z 5 0 :: st) g :=
  g_get (own := RX5) (ci := 5) (j := 2) (by rw [hb]; decide) rfl rfl (by decide) (by decide +kernel) iw_X5_step_X5 rfl hd kk
theorem fg_X5_step_29 (hb : Z.2.2.1 = true) (hd : decode cX5_step pc = .ok (.getfield 29, 3)) (kk : mg_G K Z mX5_step post (pc + 3) ls (rv Z 41 0 :: st) g) : mg_G K Z mX5_step post pc ls (rv Z 5 0 :: st) g :=
  g_get (own := RX5) (ci := 5) (j := 11) (by rw [hb]; decide) rfl rfl (by decide) (by decide +kernel) iw_X5_step_X5 rfl hd kk
theorem iw_X5_deliver_X5 : ∀ w ∈ wsX50, w ∈ wsX5_deliver := fun w h => List.mem_cons.mpr (Or.inr (List.mem_append.mpr (Or.inr h)))
theorem fg_X5_deliver_105 (hb : Z.2.2.1 = true) (hd : decode cX5_deliver pc = .ok (.getfield 105, 3)) (kk : mg_G K Z mX5_deliver post (pc + 3) ls (iv (g 5 0 1) :: st) g) : mg_G K Z mX5_deliver post pc ls (rv Z 5 0 :: st) g :=
  g_get (own := RX5) (ci := 5) (j := 1) (by rw [hb]; decide) rfl rfl (by decide) (by decide +kernel) iw_X5_deliver_X5 rfl hd kk
theorem fg_X5_deliver_136 (hb : Z.2.2.1 = true) (hd : decode cX5_deliver pc = .ok (.getfield 136, 3)) (kk : mg_G K Z mX5_deliver post (pc + 3) ls (iv (g 5 0 26) :: st) g) : mg_G K Z mX5_deliver post pc ls (rv Z 5 0 :: st) g :=
  g_get (own := RX5) (ci := 5) (j := 26) (by rw [hb]; decide) rfl rfl (by decide) (by decide +kernel) iw_X5_deliver_X5 rfl hd kk
theorem fg_X5_deliver_68 (hb : Z.2.2.1 = true) (hd : decode cX5_deliver pc = .ok (.getfield 68, 3)) (kk : mg_G K Z mX5_deliver post (pc + 3) ls (rv Z 57 0 :: st) g) : mg_G K Z mX5_deliver post pc ls (rv Z 5 0 :: st) g :=
  g_get (own := RX5) (ci := 5) (j := 27) (by rw [hb]; decide) rfl rfl (by decide) (by decide +kernel) iw_X5_deliver_X5 rfl hd kk
theorem fg_X5_deliver_71 (hb : Z.2.2.1 = true) (hd : decode cX5_deliver pc = .ok (.getfield 71, 3)) (kk : mg_G K Z mX5_deliver post (pc + 3) ls (rv Z 58 0 :: st) g) : mg_G K Z mX5_deliver post pc ls (rv Z 5 0 :: st) g :=
  g_get (own := RX5) (ci := 5) (j := 28) (by rw [hb]; decide) rfl rfl (by decide) (by decide +kernel) iw_X5_deliver_X5 rfl hd kk
theorem fg_X5_deliver_74 (hb : Z.2.2.1 = true) (hd : decode cX5_deliver pc = .ok (.getfield 74, 3)) (kk : mg_G K Z mX5_deliver post (pc + 3) ls (rv Z 59 0 :: st) g) : mg_G K Z mX5_deliver post pc ls (rv Z 5 0 :: st) g :=
  g_get (own := RX5) (ci := 5) (j := 29) (by rw [hb]; decide) rfl rfl (by decide) (by decide +kernel) iw_X5_deliver_X5 rfl hd kk
theorem fg_X5_deliver_77 (hb : Z.2.2.1 = true) (hd : decode cX5_deliver pc = .ok (.getfield 77, 3)) (kk : mg_G K Z mX5_deliver post (pc + 3) ls (rv Z 60 0 :: st) g) : mg_G K Z mX5_deliver post pc ls (rv Z 5 0 :: st) g :=
  g_get (own := RX5) (ci := 5) (j := 30) (by rw [hb]; decide) rfl rfl (by decide) (by decide +kernel) iw_X5_deliver_X5 rfl hd kk
theorem fg_X5_deliver_23 (hb : Z.2.2.1 = true) (hd : decode cX5_deliver pc = .ok (.getfield 23, 3)) (kk : mg_G K Z mX5_deliver post (pc + 3) ls (rv Z 39 0 :: st) g) : mg_G K Z mX5_deliver post pc ls (rv Z 5 0 :: st) g :=
  g_get (own := RX5) (ci := 5) (j := 9) (by rw [hb]; decide) rfl rfl (by decide) (by decide +kernel) iw_X5_deliver_X5 rfl hd kk
theorem fg_X5_deliver_65 (hb : Z.2.2.1 = true) (hd : decode cX5_deliver pc = .ok (.getfield 65, 3)) (kk : mg_G K Z mX5_deliver post (pc + 3) ls (rv Z 55 0 :: st) g) : mg_G K Z mX5_deliver post pc ls (rv Z 5 0 :: st) g :=
  g_get (own := RX5) (ci := 5) (j := 25) (by rw [hb]; decide) rfl rfl (by decide) (by decide +kernel) iw_X5_deliver_X5 rfl hd kk
theorem fg_X5_deliver_53 (hb : Z.2.2.1 = true) (hd : decode cX5_deliver pc = .ok (.getfield 53, 3)) (kk : mg_G K Z mX5_deliver post (pc + 3) ls (rv Z 50 0 :: st) g) : mg_G K Z mX5_deliver post pc ls (rv Z 5 0 :: st) g :=
  g_get (own := RX5) (ci := 5) (j := 20) (by rw [hb]; decide) rfl rfl (by decide) (by decide +kernel) iw_X5_deliver_X5 rfl hd kk
theorem fg_X5_deliver_13 (hb : Z.2.2.1 = true) (hd : decode cX5_deliver pc = .ok (.getfield 13, 3)) (kk : mg_G K Z mX5_deliver post (pc + 3) ls (rv Z 36 0 :: st) g) : mg_G K Z mX5_deliver post pc ls (rv Z 5 0 :: st) g :=
  g_get (own := RX5) (ci := 5) (j := 6) (by rw [hb]; decide) rfl rfl (by decide) (by decide +kernel) iw_X5_deliver_X5 rfl hd kk
theorem fg_X5_deliver_17 (hb : Z.2.2.1 = true) (hd : decode cX5_deliver pc = .ok (.getfield 17, 3)) (kk : mg_G K Z mX5_deliver post (pc + 3) ls (rv Z 37 0 :: st) g) : mg_G K Z mX5_deliver post pc ls (rv Z 5 0 :: st) g :=
  g_get (own := RX5) (ci := 5) (j := 7) (by rw [hb]; decide) rfl rfl (by decide) (by decide +kernel) iw_X5_deliver_X5 rfl hd kk
theorem iw_X5_lose_X5 : ∀ w ∈ wsX50, w ∈ wsX5_lose := fun w h => List.mem_cons.mpr (Or.inr (List.mem_append.mpr (Or.inr h)))
theorem fg_X5_lose_105 (hb : Z.2.2.1 = true) (hd : decode cX5_lose pc = .ok (.getfield 105, 3)) (kk : mg_G K Z mX5_lose post (pc + 3) ls (iv (g 5 0 1) :: st) g) : mg_G K Z mX5_lose post pc ls (rv Z 5 0 :: st) g :=
  g_get (own := RX5) (ci := 5) (j := 1) (by rw [hb]; decide) rfl rfl (by decide) (by decide +kernel) iw_X5_lose_X5 rfl hd kk
theorem fg_X5_lose_136 (hb : Z.2.2.1 = true) (hd : decode cX5_lose pc = .ok (.getfield 136, 3)) (kk : mg_G K Z mX5_lose post (pc + 3) ls (iv (g 5 0 26) :: st) g) : mg_G K Z mX5_lose post pc ls (rv Z 5 0 :: st) g :=
  g_get (own := RX5) (ci := 5) (j := 26) (by rw [hb]; decide) rfl rfl (by decide) (by decide +kernel) iw_X5_lose_X5 rfl hd kk
theorem iw_X5_twin_X5 : ∀ w ∈ wsX50, w ∈ wsX5_twin := fun w h => List.mem_cons.mpr (Or.inr (List.mem_append.mpr (Or.inr h)))
theorem fg_X5_twin_105 (hb : Z.2.2.1 = true) (hd : decode cX5_twin pc = .ok (.getfield 105, 3)) (kk : mg_G K Z mX5_twin post (pc + 3) ls (iv (g 5 0 1) :: st) g) : mg_G K Z mX5_twin post pc ls (rv Z 5 0 :: st) g :=
  g_get (own := RX5) (ci := 5) (j := 1) (by rw [hb]; decide) rfl rfl (by decide) (by decide +kernel) iw_X5_twin_X5 rfl hd kk
theorem fg_X5_twin_136 (hb : Z.2.2.1 = true) (hd : decode cX5_twin pc = .ok (.getfield 136, 3)) (kk : mg_G K Z mX5_twin post (pc + 3) ls (iv (g 5 0 26) :: st) g) : mg_G K Z mX5_twin post pc ls (rv Z 5 0 :: st) g :=
  g_get (own := RX5) (ci := 5) (j := 26) (by rw [hb]; decide) rfl rfl (by decide) (by decide +kernel) iw_X5_twin_X5 rfl hd kk
theorem fg_X5_twin_68 (hb : Z.2.2.1 = true) (hd : decode cX5_twin pc = .ok (.getfield 68, 3)) (kk : mg_G K Z mX5_twin post (pc + 3) ls (rv Z 57 0 :: st) g) : mg_G K Z mX5_twin post pc ls (rv Z 5 0 :: st) g :=
  g_get (own := RX5) (ci := 5) (j := 27) (by rw [hb]; decide) rfl rfl (by decide) (by decide +kernel) iw_X5_twin_X5 rfl hd kk
theorem fg_X5_twin_71 (hb : Z.2.2.1 = true) (hd : decode cX5_twin pc = .ok (.getfield 71, 3)) (kk : mg_G K Z mX5_twin post (pc + 3) ls (rv Z 58 0 :: st) g) : mg_G K Z mX5_twin post pc ls (rv Z 5 0 :: st) g :=
  g_get (own := RX5) (ci := 5) (j := 28) (by rw [hb]; decide) rfl rfl (by decide) (by decide +kernel) iw_X5_twin_X5 rfl hd kk
theorem fg_X5_twin_74 (hb : Z.2.2.1 = true) (hd : decode cX5_twin pc = .ok (.getfield 74, 3)) (kk : mg_G K Z mX5_twin post (pc + 3) ls (rv Z 59 0 :: st) g) : mg_G K Z mX5_twin post pc ls (rv Z 5 0 :: st) g :=
  g_get (own := RX5) (ci := 5) (j := 29) (by rw [hb]; decide) rfl rfl (by decide) (by decide +kernel) iw_X5_twin_X5 rfl hd kk
theorem fg_X5_twin_77 (hb : Z.2.2.1 = true) (hd : decode cX5_twin pc = .ok (.getfield 77, 3)) (kk : mg_G K Z mX5_twin post (pc + 3) ls (rv Z 60 0 :: st) g) : mg_G K Z mX5_twin post pc ls (rv Z 5 0 :: st) g :=
  g_get (own := RX5) (ci := 5) (j := 30) (by rw [hb]; decide) rfl rfl (by decide) (by decide +kernel) iw_X5_twin_X5 rfl hd kk
theorem iw_X5_resend_X5 : ∀ w ∈ wsX50, w ∈ wsX5_resend := fun w h => List.mem_cons.mpr (Or.inr (List.mem_append.mpr (Or.inr h)))
theorem fg_X5_resend_101 (hb : Z.2.2.1 = true) (hd : decode cX5_resend pc = .ok (.getfield 101, 3)) (kk : mg_G K Z mX5_resend post (pc + 3) ls (iv (g 5 0 0) :: st) g) : mg_G K Z mX5_resend post pc ls (rv Z 5 0 :: st) g :=
  g_get (own := RX5) (ci := 5) (j := 0) (by rw [hb]; decide) rfl rfl (by decide) (by decide +kernel) iw_X5_resend_X5 rfl hd kk
theorem fg_X5_resend_136 (hb : Z.2.2.1 = true) (hd : decode cX5_resend pc = .ok (.getfield 136, 3)) (kk : mg_G K Z mX5_resend post (pc + 3) ls (iv (g 5 0 26) :: st) g) : mg_G K Z mX5_resend post pc ls (rv Z 5 0 :: st) g :=
  g_get (own := RX5) (ci := 5) (j := 26) (by rw [hb]; decide) rfl rfl (by decide) (by decide +kernel) iw_X5_resend_X5 rfl hd kk
theorem iw_X5_crash_X5 : ∀ w ∈ wsX50, w ∈ wsX5_crash := fun w h => List.mem_cons.mpr (Or.inr (List.mem_append.mpr (Or.inr h)))
theorem fg_X5_crash_23 (hb : Z.2.2.1 = true) (hd : decode cX5_crash pc = .ok (.getfield 23, 3)) (kk : mg_G K Z mX5_crash post (pc + 3) ls (rv Z 39 0 :: st) g) : mg_G K Z mX5_crash post pc ls (rv Z 5 0 :: st) g :=
  g_get (own := RX5) (ci := 5) (j := 9) (by rw [hb]; decide) rfl rfl (by decide) (by decide +kernel) iw_X5_crash_X5 rfl hd kk
theorem iw_X5_restart_X5 : ∀ w ∈ wsX50, w ∈ wsX5_restart := fun w h => List.mem_cons.mpr (Or.inr (List.mem_append.mpr (Or.inr h)))
theorem fg_X5_restart_105 (hb : Z.2.2.1 = true) (hd : decode cX5_restart pc = .ok (.getfield 105, 3)) (kk : mg_G K Z mX5_restart post (pc + 3) ls (iv (g 5 0 1) :: st) g) : mg_G K Z mX5_restart post pc ls (rv Z 5 0 :: st) g :=
  g_get (own := RX5) (ci := 5) (j := 1) (by rw [hb]; decide) rfl rfl (by decide) (by decide +kernel) iw_X5_restart_X5 rfl hd kk
theorem fg_X5_restart_23 (hb : Z.2.2.1 = true) (hd : decode cX5_restart pc = .ok (.getfield 23, 3)) (kk : mg_G K Z mX5_restart post (pc + 3) ls (rv Z 39 0 :: st) g) : mg_G K Z mX5_restart post pc ls (rv Z 5 0 :: st) g :=
  g_get (own := RX5) (ci := 5) (j := 9) (by rw [hb]; decide) rfl rfl (by decide) (by decide +kernel) iw_X5_restart_X5 rfl hd kk
theorem iw_X5_cut_X5 : ∀ w ∈ wsX50, w ∈ wsX5_cut := fun w h => List.mem_cons.mpr (Or.inr (List.mem_append.mpr (Or.inr h)))
theorem fg_X5_cut_105 (hb : Z.2.2.1 = true) (hd : decode cX5_cut pc = .ok (.getfield 105, 3)) (kk : mg_G K Z mX5_cut post (pc + 3) ls (iv (g 5 0 1) :: st) g) : mg_G K Z mX5_cut post pc ls (rv Z 5 0 :: st) g :=
  g_get (own := RX5) (ci := 5) (j := 1) (by rw [hb]; decide) rfl rfl (by decide) (by decide +kernel) iw_X5_cut_X5 rfl hd kk
theorem fg_X5_cut_7 (hb : Z.2.2.1 = true) (hd : decode cX5_cut pc = .ok (.getfield 7, 3)) (kk : mg_G K Z mX5_cut post (pc + 3) ls (rv Z 35 0 :: st) g) : mg_G K Z mX5_cut post pc ls (rv Z 5 0 :: st) g :=
  g_get (own := RX5) (ci := 5) (j := 5) (by rw [hb]; decide) rfl rfl (by decide) (by decide +kernel) iw_X5_cut_X5 rfl hd kk
theorem fg_X5_cut_136 (hb : Z.2.2.1 = true) (hd : decode cX5_cut pc = .ok (.getfield 136, 3)) (kk : mg_G K Z mX5_cut post (pc + 3) ls (iv (g 5 0 26) :: st) g) : mg_G K Z mX5_cut post pc ls (rv Z 5 0 :: st) g :=
  g_get (own := RX5) (ci := 5) (j := 26) (by rw [hb]; decide) rfl rfl (by decide) (by decide +kernel) iw_X5_cut_X5 rfl hd kk
theorem fg_X5_cut_68 (hb : Z.2.2.1 = true) (hd : decode cX5_cut pc = .ok (.getfield 68, 3)) (kk : mg_G K Z mX5_cut post (pc + 3) ls (rv Z 57 0 :: st) g) : mg_G K Z mX5_cut post pc ls (rv Z 5 0 :: st) g :=
  g_get (own := RX5) (ci := 5) (j := 27) (by rw [hb]; decide) rfl rfl (by decide) (by decide +kernel) iw_X5_cut_X5 rfl hd kk
theorem fg_X5_cut_13 (hb : Z.2.2.1 = true) (hd : decode cX5_cut pc = .ok (.getfield 13, 3)) (kk : mg_G K Z mX5_cut post (pc + 3) ls (rv Z 36 0 :: st) g) : mg_G K Z mX5_cut post pc ls (rv Z 5 0 :: st) g :=
  g_get (own := RX5) (ci := 5) (j := 6) (by rw [hb]; decide) rfl rfl (by decide) (by decide +kernel) iw_X5_cut_X5 rfl hd kk
theorem iw_X5_rightAt_X5 : ∀ w ∈ wsX50, w ∈ wsX5_rightAt := fun w h => List.mem_cons.mpr (Or.inr (List.mem_append.mpr (Or.inr h)))
theorem fg_X5_rightAt_101 (hb : Z.2.2.1 = true) (hd : decode cX5_rightAt pc = .ok (.getfield 101, 3)) (kk : mg_G K Z mX5_rightAt post (pc + 3) ls (iv (g 5 0 0) :: st) g) : mg_G K Z mX5_rightAt post pc ls (rv Z 5 0 :: st) g :=
  g_get (own := RX5) (ci := 5) (j := 0) (by rw [hb]; decide) rfl rfl (by decide) (by decide +kernel) iw_X5_rightAt_X5 rfl hd kk
theorem fg_X5_rightAt_13 (hb : Z.2.2.1 = true) (hd : decode cX5_rightAt pc = .ok (.getfield 13, 3)) (kk : mg_G K Z mX5_rightAt post (pc + 3) ls (rv Z 36 0 :: st) g) : mg_G K Z mX5_rightAt post pc ls (rv Z 5 0 :: st) g :=
  g_get (own := RX5) (ci := 5) (j := 6) (by rw [hb]; decide) rfl rfl (by decide) (by decide +kernel) iw_X5_rightAt_X5 rfl hd kk
theorem fg_X5_rightAt_133 (hb : Z.2.2.1 = true) (hd : decode cX5_rightAt pc = .ok (.getfield 133, 3)) (kk : mg_G K Z mX5_rightAt post (pc + 3) ls (iv (g 5 0 21) :: st) g) : mg_G K Z mX5_rightAt post pc ls (rv Z 5 0 :: st) g :=
  g_get (own := RX5) (ci := 5) (j := 21) (by rw [hb]; decide) rfl rfl (by decide) (by decide +kernel) iw_X5_rightAt_X5 rfl hd kk
theorem fg_X5_rightAt_59 (hb : Z.2.2.1 = true) (hd : decode cX5_rightAt pc = .ok (.getfield 59, 3)) (kk : mg_G K Z mX5_rightAt post (pc + 3) ls (rv Z 53 0 :: st) g) : mg_G K Z mX5_rightAt post pc ls (rv Z 5 0 :: st) g :=
  g_get (own := RX5) (ci := 5) (j := 23) (by rw [hb]; decide) rfl rfl (by decide) (by decide +kernel) iw_X5_rightAt_X5 rfl hd kk
theorem fg_X5_rightAt_65 (hb : Z.2.2.1 = true) (hd : decode cX5_rightAt pc = .ok (.getfield 65, 3)) (kk : mg_G K Z mX5_rightAt post (pc + 3) ls (rv Z 55 0 :: st) g) : mg_G K Z mX5_rightAt post pc ls (rv Z 5 0 :: st) g :=
  g_get (own := RX5) (ci := 5) (j := 25) (by rw [hb]; decide) rfl rfl (by decide) (by decide +kernel) iw_X5_rightAt_X5 rfl hd kk
theorem fg_X5_rightAt_53 (hb : Z.2.2.1 = true) (hd : decode cX5_rightAt pc = .ok (.getfield 53, 3)) (kk : mg_G K Z mX5_rightAt post (pc + 3) ls (rv Z 50 0 :: st) g) : mg_G K Z mX5_rightAt post pc ls (rv Z 5 0 :: st) g :=
  g_get (own := RX5) (ci := 5) (j := 20) (by rw [hb]; decide) rfl rfl (by decide) (by decide +kernel) iw_X5_rightAt_X5 rfl hd kk
theorem fg_X5_rightAt_56 (hb : Z.2.2.1 = true) (hd : decode cX5_rightAt pc = .ok (.getfield 56, 3)) (kk : mg_G K Z mX5_rightAt post (pc + 3) ls (rv Z 52 0 :: st) g) : mg_G K Z mX5_rightAt post pc ls (rv Z 5 0 :: st) g :=
  g_get (own := RX5) (ci := 5) (j := 22) (by rw [hb]; decide) rfl rfl (by decide) (by decide +kernel) iw_X5_rightAt_X5 rfl hd kk
theorem iw_X5_join_X5 : ∀ w ∈ wsX50, w ∈ wsX5_join := fun w h => List.mem_cons.mpr (Or.inr (List.mem_append.mpr (Or.inr h)))
theorem fg_X5_join_105 (hb : Z.2.2.1 = true) (hd : decode cX5_join pc = .ok (.getfield 105, 3)) (kk : mg_G K Z mX5_join post (pc + 3) ls (iv (g 5 0 1) :: st) g) : mg_G K Z mX5_join post pc ls (rv Z 5 0 :: st) g :=
  g_get (own := RX5) (ci := 5) (j := 1) (by rw [hb]; decide) rfl rfl (by decide) (by decide +kernel) iw_X5_join_X5 rfl hd kk
theorem fg_X5_join_80 (hb : Z.2.2.1 = true) (hd : decode cX5_join pc = .ok (.getfield 80, 3)) (kk : mg_G K Z mX5_join post (pc + 3) ls (rv Z 61 0 :: st) g) : mg_G K Z mX5_join post pc ls (rv Z 5 0 :: st) g :=
  g_get (own := RX5) (ci := 5) (j := 31) (by rw [hb]; decide) rfl rfl (by decide) (by decide +kernel) iw_X5_join_X5 rfl hd kk
theorem fg_X5_join_83 (hb : Z.2.2.1 = true) (hd : decode cX5_join pc = .ok (.getfield 83, 3)) (kk : mg_G K Z mX5_join post (pc + 3) ls (rv Z 62 0 :: st) g) : mg_G K Z mX5_join post pc ls (rv Z 5 0 :: st) g :=
  g_get (own := RX5) (ci := 5) (j := 32) (by rw [hb]; decide) rfl rfl (by decide) (by decide +kernel) iw_X5_join_X5 rfl hd kk
theorem fg_X5_join_13 (hb : Z.2.2.1 = true) (hd : decode cX5_join pc = .ok (.getfield 13, 3)) (kk : mg_G K Z mX5_join post (pc + 3) ls (rv Z 36 0 :: st) g) : mg_G K Z mX5_join post pc ls (rv Z 5 0 :: st) g :=
  g_get (own := RX5) (ci := 5) (j := 6) (by rw [hb]; decide) rfl rfl (by decide) (by decide +kernel) iw_X5_join_X5 rfl hd kk
theorem fg_X5_join_17 (hb : Z.2.2.1 = true) (hd : decode cX5_join pc = .ok (.getfield 17, 3)) (kk : mg_G K Z mX5_join post (pc + 3) ls (rv Z 37 0 :: st) g) : mg_G K Z mX5_join post pc ls (rv Z 5 0 :: st) g :=
  g_get (own := RX5) (ci := 5) (j := 7) (by rw [hb]; decide) rfl rfl (by decide) (by decide +kernel) iw_X5_join_X5 rfl hd kk
theorem fg_X5_join_50 (hb : Z.2.2.1 = true) (hd : decode cX5_join pc = .ok (.getfield 50, 3)) (kk : mg_G K Z mX5_join post (pc + 3) ls (rv Z 49 0 :: st) g) : mg_G K Z mX5_join post pc ls (rv Z 5 0 :: st) g :=
  g_get (own := RX5) (ci := 5) (j := 19) (by rw [hb]; decide) rfl rfl (by decide) (by decide +kernel) iw_X5_join_X5 rfl hd kk
theorem fg_X5_join_53 (hb : Z.2.2.1 = true) (hd : decode cX5_join pc = .ok (.getfield 53, 3)) (kk : mg_G K Z mX5_join post (pc + 3) ls (rv Z 50 0 :: st) g) : mg_G K Z mX5_join post pc ls (rv Z 5 0 :: st) g :=
  g_get (own := RX5) (ci := 5) (j := 20) (by rw [hb]; decide) rfl rfl (by decide) (by decide +kernel) iw_X5_join_X5 rfl hd kk
theorem iw_X5_holder_X5 : ∀ w ∈ wsX50, w ∈ wsX5_holder := fun w h => List.mem_cons.mpr (Or.inr (List.mem_append.mpr (Or.inr h)))
theorem fg_X5_holder_105 (hb : Z.2.2.1 = true) (hd : decode cX5_holder pc = .ok (.getfield 105, 3)) (kk : mg_G K Z mX5_holder post (pc + 3) ls (iv (g 5 0 1) :: st) g) : mg_G K Z mX5_holder post pc ls (rv Z 5 0 :: st) g :=
  g_get (own := RX5) (ci := 5) (j := 1) (by rw [hb]; decide) rfl rfl (by decide) (by decide +kernel) iw_X5_holder_X5 rfl hd kk
theorem fg_X5_holder_101 (hb : Z.2.2.1 = true) (hd : decode cX5_holder pc = .ok (.getfield 101, 3)) (kk : mg_G K Z mX5_holder post (pc + 3) ls (iv (g 5 0 0) :: st) g) : mg_G K Z mX5_holder post pc ls (rv Z 5 0 :: st) g :=
  g_get (own := RX5) (ci := 5) (j := 0) (by rw [hb]; decide) rfl rfl (by decide) (by decide +kernel) iw_X5_holder_X5 rfl hd kk
theorem fg_X5_holder_13 (hb : Z.2.2.1 = true) (hd : decode cX5_holder pc = .ok (.getfield 13, 3)) (kk : mg_G K Z mX5_holder post (pc + 3) ls (rv Z 36 0 :: st) g) : mg_G K Z mX5_holder post pc ls (rv Z 5 0 :: st) g :=
  g_get (own := RX5) (ci := 5) (j := 6) (by rw [hb]; decide) rfl rfl (by decide) (by decide +kernel) iw_X5_holder_X5 rfl hd kk
theorem iw_X5_pointer_X5 : ∀ w ∈ wsX50, w ∈ wsX5_pointer := fun w h => List.mem_cons.mpr (Or.inr (List.mem_append.mpr (Or.inr h)))
theorem fg_X5_pointer_105 (hb : Z.2.2.1 = true) (hd : decode cX5_pointer pc = .ok (.getfield 105, 3)) (kk : mg_G K Z mX5_pointer post (pc + 3) ls (iv (g 5 0 1) :: st) g) : mg_G K Z mX5_pointer post pc ls (rv Z 5 0 :: st) g :=
  g_get (own := RX5) (ci := 5) (j := 1) (by rw [hb]; decide) rfl rfl (by decide) (by decide +kernel) iw_X5_pointer_X5 rfl hd kk
theorem fg_X5_pointer_13 (hb : Z.2.2.1 = true) (hd : decode cX5_pointer pc = .ok (.getfield 13, 3)) (kk : mg_G K Z mX5_pointer post (pc + 3) ls (rv Z 36 0 :: st) g) : mg_G K Z mX5_pointer post pc ls (rv Z 5 0 :: st) g :=
  g_get (own := RX5) (ci := 5) (j := 6) (by rw [hb]; decide) rfl rfl (by decide) (by decide +kernel) iw_X5_pointer_X5 rfl hd kk
theorem iw_X5_queue_X5 : ∀ w ∈ wsX50, w ∈ wsX5_queue := fun w h => List.mem_cons.mpr (Or.inr (List.mem_append.mpr (Or.inr h)))
theorem fg_X5_queue_105 (hb : Z.2.2.1 = true) (hd : decode cX5_queue pc = .ok (.getfield 105, 3)) (kk : mg_G K Z mX5_queue post (pc + 3) ls (iv (g 5 0 1) :: st) g) : mg_G K Z mX5_queue post pc ls (rv Z 5 0 :: st) g :=
  g_get (own := RX5) (ci := 5) (j := 1) (by rw [hb]; decide) rfl rfl (by decide) (by decide +kernel) iw_X5_queue_X5 rfl hd kk
theorem fg_X5_queue_41 (hb : Z.2.2.1 = true) (hd : decode cX5_queue pc = .ok (.getfield 41, 3)) (kk : mg_G K Z mX5_queue post (pc + 3) ls (rv Z 46 0 :: st) g) : mg_G K Z mX5_queue post pc ls (rv Z 5 0 :: st) g :=
  g_get (own := RX5) (ci := 5) (j := 16) (by rw [hb]; decide) rfl rfl (by decide) (by decide +kernel) iw_X5_queue_X5 rfl hd kk
theorem fg_X5_queue_47 (hb : Z.2.2.1 = true) (hd : decode cX5_queue pc = .ok (.getfield 47, 3)) (kk : mg_G K Z mX5_queue post (pc + 3) ls (rv Z 48 0 :: st) g) : mg_G K Z mX5_queue post pc ls (rv Z 5 0 :: st) g :=
  g_get (own := RX5) (ci := 5) (j := 18) (by rw [hb]; decide) rfl rfl (by decide) (by decide +kernel) iw_X5_queue_X5 rfl hd kk
theorem fg_X5_queue_44 (hb : Z.2.2.1 = true) (hd : decode cX5_queue pc = .ok (.getfield 44, 3)) (kk : mg_G K Z mX5_queue post (pc + 3) ls (rv Z 47 0 :: st) g) : mg_G K Z mX5_queue post pc ls (rv Z 5 0 :: st) g :=
  g_get (own := RX5) (ci := 5) (j := 17) (by rw [hb]; decide) rfl rfl (by decide) (by decide +kernel) iw_X5_queue_X5 rfl hd kk
theorem iw_X5_letter_X5 : ∀ w ∈ wsX50, w ∈ wsX5_letter := fun w h => List.mem_cons.mpr (Or.inr (List.mem_append.mpr (Or.inr h)))
theorem fg_X5_letter_105 (hb : Z.2.2.1 = true) (hd : decode cX5_letter pc = .ok (.getfield 105, 3)) (kk : mg_G K Z mX5_letter post (pc + 3) ls (iv (g 5 0 1) :: st) g) : mg_G K Z mX5_letter post pc ls (rv Z 5 0 :: st) g :=
  g_get (own := RX5) (ci := 5) (j := 1) (by rw [hb]; decide) rfl rfl (by decide) (by decide +kernel) iw_X5_letter_X5 rfl hd kk
theorem fg_X5_letter_136 (hb : Z.2.2.1 = true) (hd : decode cX5_letter pc = .ok (.getfield 136, 3)) (kk : mg_G K Z mX5_letter post (pc + 3) ls (iv (g 5 0 26) :: st) g) : mg_G K Z mX5_letter post pc ls (rv Z 5 0 :: st) g :=
  g_get (own := RX5) (ci := 5) (j := 26) (by rw [hb]; decide) rfl rfl (by decide) (by decide +kernel) iw_X5_letter_X5 rfl hd kk
theorem fg_X5_letter_71 (hb : Z.2.2.1 = true) (hd : decode cX5_letter pc = .ok (.getfield 71, 3)) (kk : mg_G K Z mX5_letter post (pc + 3) ls (rv Z 58 0 :: st) g) : mg_G K Z mX5_letter post pc ls (rv Z 5 0 :: st) g :=
  g_get (own := RX5) (ci := 5) (j := 28) (by rw [hb]; decide) rfl rfl (by decide) (by decide +kernel) iw_X5_letter_X5 rfl hd kk
theorem fg_X5_letter_68 (hb : Z.2.2.1 = true) (hd : decode cX5_letter pc = .ok (.getfield 68, 3)) (kk : mg_G K Z mX5_letter post (pc + 3) ls (rv Z 57 0 :: st) g) : mg_G K Z mX5_letter post pc ls (rv Z 5 0 :: st) g :=
  g_get (own := RX5) (ci := 5) (j := 27) (by rw [hb]; decide) rfl rfl (by decide) (by decide +kernel) iw_X5_letter_X5 rfl hd kk
theorem fg_X5_letter_77 (hb : Z.2.2.1 = true) (hd : decode cX5_letter pc = .ok (.getfield 77, 3)) (kk : mg_G K Z mX5_letter post (pc + 3) ls (rv Z 60 0 :: st) g) : mg_G K Z mX5_letter post pc ls (rv Z 5 0 :: st) g :=
  g_get (own := RX5) (ci := 5) (j := 30) (by rw [hb]; decide) rfl rfl (by decide) (by decide +kernel) iw_X5_letter_X5 rfl hd kk
theorem fg_X5_letter_74 (hb : Z.2.2.1 = true) (hd : decode cX5_letter pc = .ok (.getfield 74, 3)) (kk : mg_G K Z mX5_letter post (pc + 3) ls (rv Z 59 0 :: st) g) : mg_G K Z mX5_letter post pc ls (rv Z 5 0 :: st) g :=
  g_get (own := RX5) (ci := 5) (j := 29) (by rw [hb]; decide) rfl rfl (by decide) (by decide +kernel) iw_X5_letter_X5 rfl hd kk
theorem iw_X5_told_X5 : ∀ w ∈ wsX50, w ∈ wsX5_told := fun w h => List.mem_cons.mpr (Or.inr (List.mem_append.mpr (Or.inr h)))
theorem fg_X5_told_105 (hb : Z.2.2.1 = true) (hd : decode cX5_told pc = .ok (.getfield 105, 3)) (kk : mg_G K Z mX5_told post (pc + 3) ls (iv (g 5 0 1) :: st) g) : mg_G K Z mX5_told post pc ls (rv Z 5 0 :: st) g :=
  g_get (own := RX5) (ci := 5) (j := 1) (by rw [hb]; decide) rfl rfl (by decide) (by decide +kernel) iw_X5_told_X5 rfl hd kk
theorem fg_X5_told_17 (hb : Z.2.2.1 = true) (hd : decode cX5_told pc = .ok (.getfield 17, 3)) (kk : mg_G K Z mX5_told post (pc + 3) ls (rv Z 37 0 :: st) g) : mg_G K Z mX5_told post pc ls (rv Z 5 0 :: st) g :=
  g_get (own := RX5) (ci := 5) (j := 7) (by rw [hb]; decide) rfl rfl (by decide) (by decide +kernel) iw_X5_told_X5 rfl hd kk
theorem fg_X5_told_20 (hb : Z.2.2.1 = true) (hd : decode cX5_told pc = .ok (.getfield 20, 3)) (kk : mg_G K Z mX5_told post (pc + 3) ls (rv Z 38 0 :: st) g) : mg_G K Z mX5_told post pc ls (rv Z 5 0 :: st) g :=
  g_get (own := RX5) (ci := 5) (j := 8) (by rw [hb]; decide) rfl rfl (by decide) (by decide +kernel) iw_X5_told_X5 rfl hd kk
theorem fg_X5_told_23 (hb : Z.2.2.1 = true) (hd : decode cX5_told pc = .ok (.getfield 23, 3)) (kk : mg_G K Z mX5_told post (pc + 3) ls (rv Z 39 0 :: st) g) : mg_G K Z mX5_told post pc ls (rv Z 5 0 :: st) g :=
  g_get (own := RX5) (ci := 5) (j := 9) (by rw [hb]; decide) rfl rfl (by decide) (by decide +kernel) iw_X5_told_X5 rfl hd kk
theorem fg_X5_told_41 (hb : Z.2.2.1 = true) (hd : decode cX5_told pc = .ok (.getfield 41, 3)) (kk : mg_G K Z mX5_told post (pc + 3) ls (rv Z 46 0 :: st) g) : mg_G K Z mX5_told post pc ls (rv Z 5 0 :: st) g :=
  g_get (own := RX5) (ci := 5) (j := 16) (by rw [hb]; decide) rfl rfl (by decide) (by decide +kernel) iw_X5_told_X5 rfl hd kk
theorem fg_X5_told_26 (hb : Z.2.2.1 = true) (hd : decode cX5_told pc = .ok (.getfield 26, 3)) (kk : mg_G K Z mX5_told post (pc + 3) ls (rv Z 40 0 :: st) g) : mg_G K Z mX5_told post pc ls (rv Z 5 0 :: st) g :=
  g_get (own := RX5) (ci := 5) (j := 10) (by rw [hb]; decide) rfl rfl (by decide) (by decide +kernel) iw_X5_told_X5 rfl hd kk
theorem fg_X5_told_32 (hb : Z.2.2.1 = true) (hd : decode cX5_told pc = .ok (.getfield 32, 3)) (kk : mg_G K Z mX5_told post (pc + 3) ls (rv Z 42 0 :: st) g) : mg_G K Z mX5_told post pc ls (rv Z 5 0 :: st) g :=
  g_get (own := RX5) (ci := 5) (j := 12) (by rw [hb]; decide) rfl rfl (by decide) (by decide +kernel) iw_X5_told_X5 rfl hd kk
theorem fg_X5_told_35 (hb : Z.2.2.1 = true) (hd : decode cX5_told pc = .ok (.getfield 35, 3)) (kk : mg_G K Z mX5_told post (pc + 3) ls (rv Z 43 0 :: st) g) : mg_G K Z mX5_told post pc ls (rv Z 5 0 :: st) g :=
  g_get (own := RX5) (ci := 5) (j := 13) (by rw [hb]; decide) rfl rfl (by decide) (by decide +kernel) iw_X5_told_X5 rfl hd kk
theorem fg_X5_told_38 (hb : Z.2.2.1 = true) (hd : decode cX5_told pc = .ok (.getfield 38, 3)) (kk : mg_G K Z mX5_told post (pc + 3) ls (rv Z 44 0 :: st) g) : mg_G K Z mX5_told post pc ls (rv Z 5 0 :: st) g :=
  g_get (own := RX5) (ci := 5) (j := 14) (by rw [hb]; decide) rfl rfl (by decide) (by decide +kernel) iw_X5_told_X5 rfl hd kk
theorem fg_X5_told_133 (hb : Z.2.2.1 = true) (hd : decode cX5_told pc = .ok (.getfield 133, 3)) (kk : mg_G K Z mX5_told post (pc + 3) ls (iv (g 5 0 21) :: st) g) : mg_G K Z mX5_told post pc ls (rv Z 5 0 :: st) g :=
  g_get (own := RX5) (ci := 5) (j := 21) (by rw [hb]; decide) rfl rfl (by decide) (by decide +kernel) iw_X5_told_X5 rfl hd kk
theorem fg_X5_told_56 (hb : Z.2.2.1 = true) (hd : decode cX5_told pc = .ok (.getfield 56, 3)) (kk : mg_G K Z mX5_told post (pc + 3) ls (rv Z 52 0 :: st) g) : mg_G K Z mX5_told post pc ls (rv Z 5 0 :: st) g :=
  g_get (own := RX5) (ci := 5) (j := 22) (by rw [hb]; decide) rfl rfl (by decide) (by decide +kernel) iw_X5_told_X5 rfl hd kk
theorem fg_X5_told_101 (hb : Z.2.2.1 = true) (hd : decode cX5_told pc = .ok (.getfield 101, 3)) (kk : mg_G K Z mX5_told post (pc + 3) ls (iv (g 5 0 0) :: st) g) : mg_G K Z mX5_told post pc ls (rv Z 5 0 :: st) g :=
  g_get (own := RX5) (ci := 5) (j := 0) (by rw [hb]; decide) rfl rfl (by decide) (by decide +kernel) iw_X5_told_X5 rfl hd kk
theorem fg_X5_told_7 (hb : Z.2.2.1 = true) (hd : decode cX5_told pc = .ok (.getfield 7, 3)) (kk : mg_G K Z mX5_told post (pc + 3) ls (rv Z 35 0 :: st) g) : mg_G K Z mX5_told post pc ls (rv Z 5 0 :: st) g :=
  g_get (own := RX5) (ci := 5) (j := 5) (by rw [hb]; decide) rfl rfl (by decide) (by decide +kernel) iw_X5_told_X5 rfl hd kk
theorem iw_X5_count_X5 : ∀ w ∈ wsX50, w ∈ wsX5_count := fun w h => List.mem_cons.mpr (Or.inr (List.mem_append.mpr (Or.inr h)))
theorem fg_X5_count_101 (hb : Z.2.2.1 = true) (hd : decode cX5_count pc = .ok (.getfield 101, 3)) (kk : mg_G K Z mX5_count post (pc + 3) ls (iv (g 5 0 0) :: st) g) : mg_G K Z mX5_count post pc ls (rv Z 5 0 :: st) g :=
  g_get (own := RX5) (ci := 5) (j := 0) (by rw [hb]; decide) rfl rfl (by decide) (by decide +kernel) iw_X5_count_X5 rfl hd kk
theorem fg_X5_count_113 (hb : Z.2.2.1 = true) (hd : decode cX5_count pc = .ok (.getfield 113, 3)) (kk : mg_G K Z mX5_count post (pc + 3) ls (iv (g 5 0 4) :: st) g) : mg_G K Z mX5_count post pc ls (rv Z 5 0 :: st) g :=
  g_get (own := RX5) (ci := 5) (j := 4) (by rw [hb]; decide) rfl rfl (by decide) (by decide +kernel) iw_X5_count_X5 rfl hd kk
theorem fg_X5_count_105 (hb : Z.2.2.1 = true) (hd : decode cX5_count pc = .ok (.getfield 105, 3)) (kk : mg_G K Z mX5_count post (pc + 3) ls (iv (g 5 0 1) :: st) g) : mg_G K Z mX5_count post pc ls (rv Z 5 0 :: st) g :=
  g_get (own := RX5) (ci := 5) (j := 1) (by rw [hb]; decide) rfl rfl (by decide) (by decide +kernel) iw_X5_count_X5 rfl hd kk
theorem fg_X5_count_20 (hb : Z.2.2.1 = true) (hd : decode cX5_count pc = .ok (.getfield 20, 3)) (kk : mg_G K Z mX5_count post (pc + 3) ls (rv Z 38 0 :: st) g) : mg_G K Z mX5_count post pc ls (rv Z 5 0 :: st) g :=
  g_get (own := RX5) (ci := 5) (j := 8) (by rw [hb]; decide) rfl rfl (by decide) (by decide +kernel) iw_X5_count_X5 rfl hd kk
theorem fg_X5_count_136 (hb : Z.2.2.1 = true) (hd : decode cX5_count pc = .ok (.getfield 136, 3)) (kk : mg_G K Z mX5_count post (pc + 3) ls (iv (g 5 0 26) :: st) g) : mg_G K Z mX5_count post pc ls (rv Z 5 0 :: st) g :=
  g_get (own := RX5) (ci := 5) (j := 26) (by rw [hb]; decide) rfl rfl (by decide) (by decide +kernel) iw_X5_count_X5 rfl hd kk
theorem fg_X5_count_130 (hb : Z.2.2.1 = true) (hd : decode cX5_count pc = .ok (.getfield 130, 3)) (kk : mg_G K Z mX5_count post (pc + 3) ls (iv (g 5 0 15) :: st) g) : mg_G K Z mX5_count post pc ls (rv Z 5 0 :: st) g :=
  g_get (own := RX5) (ci := 5) (j := 15) (by rw [hb]; decide) rfl rfl (by decide) (by decide +kernel) iw_X5_count_X5 rfl hd kk
end MGF
