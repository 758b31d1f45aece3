/-! ===== first places, serving, holders ===== -/
section FIRST
variable {Z : mg_Zt} {g : mg_F}
theorem mg_gp_s {r : Nat → Nat} {n : Nat} (h : 0 < n) : mg_gp r (n + 1) = if r (mg_gp r n) < r n then n else mg_gp r n := by
  rw [mg_gp, if_neg (by omega)]
theorem c_greatestPlace_loop {K : mg_Kt} {s : Nat} (hs : s < 24) (hl : g 2 s 2 ≤ 24) (hr : ∀ i, i < 24 → g 17 s i < 2147483648) : ∀ (m i : Nat), g 2 s 2 - i < m → (1 ≤ i) → (i ≤ g 2 s 2 ∨ i = 1) → mg_G K Z mX2_greatestPlace (fun v g' => v = some (mg_gp (g 17 s) (g 2 s 2)) ∧ g' = g) 4 [rv Z 2 s, iv (mg_gp (g 17 s) i), iv i] [] g := by
  intro m
  induction m with
  | zero => intro i h; exact absurd h (Nat.not_lt_zero _)
  | succ m ih =>
    intro i hm h1 hi
    have hgp := mg_gp_lt (g 17 s) i (by omega)
    refine g_iload_n (pc := 4) dX2_greatestPlace_4 rfl ?_
    refine g_aload_n (pc := 5) dX2_greatestPlace_5 rfl ?_
    refine fg_X2_greatestPlace_18 (pc := 6) (by first | omega | exact hr _ (by omega)) dX2_greatestPlace_6 ?_
    refine g_icmp_ge (pc := 9) 35 dX2_greatestPlace_9 (by decide) (by first | omega | exact hr _ (by omega)) (by first | omega | exact hr _ (by omega)) (fun h1 => ?_) (fun h1 => ?_)
    · refine g_iload_n (pc := 35) dX2_greatestPlace_35 rfl ?_
      exact g_iret (pc := 36) dX2_greatestPlace_36 ⟨mg_narI _, Or.inl rfl⟩ (by rcases (show i = g 2 s 2 ∨ (i = 1 ∧ g 2 s 2 = 0) by omega) with e | ⟨e, e'⟩; rw [e]; exact ⟨rfl, rfl⟩; subst e; rw [e']; exact ⟨rfl, rfl⟩)
    · refine g_aload_n (pc := 12) dX2_greatestPlace_12 rfl ?_
      refine fg_X2_greatestPlace_15 (pc := 13) (by first | omega | exact hr _ (by omega)) dX2_greatestPlace_13 ?_
      refine g_iload_n (pc := 16) dX2_greatestPlace_16 rfl ?_
      refine g_iaload (pc := 17) (k := 17) (i := s) (n := 24) (show s < 24 by omega) rfl (by decide) (by first | omega | exact hr _ (by omega)) dX2_greatestPlace_17 ?_
      refine g_aload_n (pc := 18) dX2_greatestPlace_18 rfl ?_
      refine fg_X2_greatestPlace_15 (pc := 19) (by first | omega | exact hr _ (by omega)) dX2_greatestPlace_19 ?_
      refine g_iload_n (pc := 22) dX2_greatestPlace_22 rfl ?_
      refine g_iaload (pc := 23) (k := 17) (i := s) (n := 24) (show s < 24 by omega) rfl (by decide) (by first | omega | exact hr _ (by omega)) dX2_greatestPlace_23 ?_
      refine g_icmp_le (pc := 24) 29 dX2_greatestPlace_24 (by decide) (by first | omega | exact hr _ (by omega)) (by first | omega | exact hr _ (by omega)) (fun h2 => ?_) (fun h2 => ?_)
      · refine g_iinc (pc := 29) (v := i + 1) (ls' := [rv Z 2 s, iv (mg_gp (g 17 s) i), iv (i + 1)]) dX2_greatestPlace_29 (Nat.le_of_ble_eq_true rfl) rfl (mg_inc _) rfl ?_
        refine g_goto (pc := 32) 4 dX2_greatestPlace_32 (by decide) ?_
        have e : mg_gp (g 17 s) (i + 1) = mg_gp (g 17 s) i := by rw [mg_gp_s (by omega), if_neg (by omega)]
        have h := ih (i + 1) (by omega) (by omega) (by omega)
        rw [e] at h
        exact h
      · refine g_iload_n (pc := 27) dX2_greatestPlace_27 rfl ?_
        refine g_istore_n (pc := 28) (ls' := [rv Z 2 s, iv i, iv i]) dX2_greatestPlace_28 (Nat.le_of_ble_eq_true rfl) (Nat.le_of_ble_eq_true rfl) rfl ?_
        refine g_iinc (pc := 29) (v := i + 1) (ls' := [rv Z 2 s, iv i, iv (i + 1)]) dX2_greatestPlace_29 (Nat.le_of_ble_eq_true rfl) rfl (mg_inc _) rfl ?_
        refine g_goto (pc := 32) 4 dX2_greatestPlace_32 (by decide) ?_
        have e : mg_gp (g 17 s) (i + 1) = i := by rw [mg_gp_s (by omega), if_pos (by omega)]
        have h := ih (i + 1) (by omega) (by omega) (by omega)
        rw [e] at h
        exact h
theorem c_greatestPlace (l : Launch) {s : Nat} (hs : s < 24) (hl : g 2 s 2 ≤ 24) (hr : ∀ i, i < 24 → g 17 s i < 2147483648) : mg_C l Z mX2_greatestPlace [rv Z 2 s] g (fun v g' => v = some (mg_gp (g 17 s) (g 2 s 2)) ∧ g' = g) := by
  refine mg_C.of (by decide) rfl (Nat.le_of_ble_eq_true rfl) (List.forall_mem_cons.mpr ⟨rfl, (fun _ h => nomatch h)⟩) (fun K => ?_)
  refine g_iconst (pc := 0) (v := 0) dX2_greatestPlace_0 (by decide +kernel) ?_
  refine g_istore_n (pc := 1) (ls' := [rv Z 2 s, iv 0]) dX2_greatestPlace_1 (Nat.le_of_ble_eq_true rfl) (Nat.le_of_ble_eq_true rfl) rfl ?_
  refine g_iconst (pc := 2) (v := 1) dX2_greatestPlace_2 (by decide +kernel) ?_
  refine g_istore_n (pc := 3) (ls' := [rv Z 2 s, iv 0, iv 1]) dX2_greatestPlace_3 (Nat.le_of_ble_eq_true rfl) (Nat.le_of_ble_eq_true rfl) rfl ?_
  exact c_greatestPlace_loop hs hl hr (g 2 s 2 + 1) 1 (by omega) (by omega) (by omega)
/-- X2_greatestRank -/
theorem c_greatestRank (l : Launch) {s : Nat} (hs : s < 24) (hl : g 2 s 2 ≤ 24) (h0 : 0 < g 2 s 2) (hr : ∀ i, i < 24 → g 17 s i < 2147483648) : mg_C l Z mX2_greatestRank [rv Z 2 s] g (fun v g' => v = some (g 17 s (mg_gp (g 17 s) (g 2 s 2))) ∧ g' = g) := by
  refine mg_C.of (by decide) rfl (Nat.le_of_ble_eq_true rfl) (List.forall_mem_cons.mpr ⟨rfl, (fun _ h => nomatch h)⟩) (fun K => ?_)
  have hgp := mg_gp_lt (g 17 s) (g 2 s 2) h0
  refine g_aload_n (pc := 0) dX2_greatestRank_0 rfl ?_
  refine fg_X2_greatestRank_15 (pc := 1) (by omega) dX2_greatestRank_1 ?_
  refine g_aload_n (pc := 4) dX2_greatestRank_4 rfl ?_
  refine g_callVi (pc := 5) (Y' := mX2_greatestPlace) (As := []) (st := [rv Z 17 s]) (k := 2) (i := s) (c_greatestPlace K.2.1 (g := g) (s := s) (by omega) (by omega) hr) gX2_greatestRank_X2_greatestPlace rfl (show s < 24 by omega) rfl rfl (na := 0) rfl (by decide +kernel) (by decide) (by decide) (Nat.le_of_ble_eq_true rfl) dX2_greatestRank_5 (fun r1 g2 p3 => ?_)
  obtain ⟨hv, hg⟩ := p3
  have hg := hg.symm
  subst hg
  have hv := (Option.some.inj hv).symm
  subst hv
  refine g_iaload (pc := 8) (k := 17) (i := s) (n := 24) (show s < 24 by omega) rfl (by decide) (by omega) dX2_greatestRank_8 ?_
  exact g_iret (pc := 9) dX2_greatestRank_9 ⟨mg_narI _, Or.inl rfl⟩ ⟨rfl, rfl⟩
theorem c_sentBy_loop {K : mg_Kt} {t x : Nat} (ht : t < 2) (hl : g 1 t 5 ≤ mg_cap t) (hc : mg_cap t < 2147483648) (hw : ∀ i, i < mg_cap t → g 12 t i < 4294967296) (hx : x < 4294967296) : ∀ (m i : Nat), g 1 t 5 - i < m → (i ≤ g 1 t 5) → mg_G K Z mX1_sentBy (fun v g' => v = some (mg_cn (fun q => g 12 t q = x) (g 1 t 5)) ∧ g' = g) 4 [rv Z 1 t, iv x, iv (mg_cn (fun q => g 12 t q = x) i), iv i] [] g := by
  intro m
  induction m with
  | zero => intro i h; exact absurd h (Nat.not_lt_zero _)
  | succ m ih =>
    intro i hm hi
    refine g_iload_n (pc := 4) dX1_sentBy_4 rfl ?_
    refine g_aload_n (pc := 5) dX1_sentBy_5 rfl ?_
    refine fg_X1_sentBy_27 (pc := 6) (by first | omega | exact hw _ (by omega)) dX1_sentBy_6 ?_
    refine g_icmp_ge (pc := 9) 31 dX1_sentBy_9 (by decide) (by first | omega | exact hw _ (by omega)) (by first | omega | exact hw _ (by omega)) (fun h1 => ?_) (fun h1 => ?_)
    · refine g_iload_n (pc := 31) dX1_sentBy_31 rfl ?_
      exact g_iret (pc := 32) dX1_sentBy_32 ⟨mg_narI _, Or.inl rfl⟩ (by rw [show i = g 1 t 5 by omega]; exact ⟨rfl, rfl⟩)
    · refine g_aload_n (pc := 12) dX1_sentBy_12 rfl ?_
      refine fg_X1_sentBy_15 (pc := 13) (by first | omega | exact hw _ (by omega)) dX1_sentBy_13 ?_
      refine g_iload_n (pc := 16) dX1_sentBy_16 rfl ?_
      refine g_iaload (pc := 17) (k := 12) (i := t) (n := mg_cap t) (show t < 2 by omega) rfl (by first | omega | exact hw _ (by omega)) (by first | omega | exact hw _ (by omega)) dX1_sentBy_17 ?_
      refine g_iload_n (pc := 18) dX1_sentBy_18 rfl ?_
      refine g_icmp_ne (pc := 19) 25 dX1_sentBy_19 (by decide) (by first | omega | exact hw _ (by omega)) (by first | omega | exact hw _ (by omega)) (fun h2 => ?_) (fun h2 => ?_)
      · refine g_iinc (pc := 25) (v := i + 1) (ls' := [rv Z 1 t, iv x, iv (mg_cn (fun q => g 12 t q = x) i), iv (i + 1)]) dX1_sentBy_25 (Nat.le_of_ble_eq_true rfl) rfl (mg_inc _) rfl ?_
        refine g_goto (pc := 28) 4 dX1_sentBy_28 (by decide) ?_
        have e : mg_cn (fun q => g 12 t q = x) (i + 1) = mg_cn (fun q => g 12 t q = x) i := by rw [mg_cn, if_neg (by omega), Nat.add_zero]
        have h := ih (i + 1) (by omega) (by omega)
        rw [e] at h
        exact h
      · refine g_iinc (pc := 22) (v := mg_cn (fun q => g 12 t q = x) i + 1) (ls' := [rv Z 1 t, iv x, iv (mg_cn (fun q => g 12 t q = x) i + 1), iv i]) dX1_sentBy_22 (Nat.le_of_ble_eq_true rfl) rfl (mg_inc _) rfl ?_
        refine g_iinc (pc := 25) (v := i + 1) (ls' := [rv Z 1 t, iv x, iv (mg_cn (fun q => g 12 t q = x) i + 1), iv (i + 1)]) dX1_sentBy_25 (Nat.le_of_ble_eq_true rfl) rfl (mg_inc _) rfl ?_
        refine g_goto (pc := 28) 4 dX1_sentBy_28 (by decide) ?_
        have e : mg_cn (fun q => g 12 t q = x) (i + 1) = mg_cn (fun q => g 12 t q = x) i + 1 := by rw [mg_cn, if_pos (by omega)]
        have h := ih (i + 1) (by omega) (by omega)
        rw [e] at h
        exact h
theorem c_sentBy (l : Launch) {t x : Nat} (ht : t < 2) (hl : g 1 t 5 ≤ mg_cap t) (hc : mg_cap t < 2147483648) (hw : ∀ i, i < mg_cap t → g 12 t i < 4294967296) (hx : x < 4294967296) : mg_C l Z mX1_sentBy [rv Z 1 t, iv x] g (fun v g' => v = some (mg_cn (fun q => g 12 t q = x) (g 1 t 5)) ∧ g' = g) := by
  refine mg_C.of (by decide) rfl (Nat.le_of_ble_eq_true rfl) (List.forall_mem_cons.mpr ⟨rfl, (List.forall_mem_cons.mpr ⟨rfl, (fun _ h => nomatch h)⟩)⟩) (fun K => ?_)
  refine g_iconst (pc := 0) (v := 0) dX1_sentBy_0 (by decide +kernel) ?_
  refine g_istore_n (pc := 1) (ls' := [rv Z 1 t, iv x, iv 0]) dX1_sentBy_1 (Nat.le_of_ble_eq_true rfl) (Nat.le_of_ble_eq_true rfl) rfl ?_
  refine g_iconst (pc := 2) (v := 0) dX1_sentBy_2 (by decide +kernel) ?_
  refine g_istore_n (pc := 3) (ls' := [rv Z 1 t, iv x, iv 0, iv 0]) dX1_sentBy_3 (Nat.le_of_ble_eq_true rfl) (Nat.le_of_ble_eq_true rfl) rfl ?_
  exact c_sentBy_loop ht hl hc hw hx (g 1 t 5 + 1) 0 (by omega) (Nat.zero_le _)
/-- X1_hasBetween -/
theorem c_hasBetween (l : Launch) {t a b : Nat} (ht : t < 2) (hl : g 1 t 5 ≤ mg_cap t) (hc : mg_cap t < 2147483648) (hw : ∀ i, i < mg_cap t → g 12 t i < 4294967296 ∧ g 13 t i < 4294967296) (ha : a < 4294967296) (hb : b < 4294967296) : mg_C l Z mX1_hasBetween [rv Z 1 t, iv a, iv b] g (fun v g' => ((∃ i, i < g 1 t 5 ∧ ((g 12 t i = a ∧ g 13 t i = b) ∨ (g 12 t i = b ∧ g 13 t i = a))) ∧ v = some 1 ∧ g' = g) ∨ ((∀ i, i < g 1 t 5 → ¬ ((g 12 t i = a ∧ g 13 t i = b) ∨ (g 12 t i = b ∧ g 13 t i = a))) ∧ v = some 0 ∧ g' = g)) := by
  refine mg_C.of (by decide) rfl (Nat.le_of_ble_eq_true rfl) (List.forall_mem_cons.mpr ⟨rfl, (List.forall_mem_cons.mpr ⟨rfl, (List.forall_mem_cons.mpr ⟨rfl, (fun _ h => nomatch h)⟩)⟩)⟩) (fun K => ?_)
  refine g_aload_n (pc := 0) dX1_hasBetween_0 rfl ?_
  refine g_iload_n (pc := 1) dX1_hasBetween_1 rfl ?_
  refine g_iload_n (pc := 2) dX1_hasBetween_2 rfl ?_
  refine g_callVi (pc := 3) (Y' := mX1_firstBetween) (As := [iv a, iv b]) (st := []) (k := 1) (i := t) (c_firstBetween K.2.1 (g := g) (t := t) (a := a) (b := b) ht hl hc hw (by first | omega | (have := hl; unfold mg_cap at *; split at this <;> omega)) (by first | omega | (have := hl; unfold mg_cap at *; split at this <;> omega))) gX1_hasBetween_X1_firstBetween rfl (show t < 2 by omega) rfl rfl (na := 2) rfl (by decide +kernel) (by decide) (by decide) (Nat.le_of_ble_eq_true rfl) dX1_hasBetween_3 (fun r1 g2 p3 => ?_)
  rcases p3 with ⟨pl, ⟨hpl, hfst, hbef⟩, hv, hg⟩ | ⟨hnonea, hv, hg⟩
  · have hg := hg.symm
    subst hg
    have hv := (Option.some.inj hv).symm
    subst hv
    refine g_bipush (pc := 6) (v := 4294967294) dX1_hasBetween_6 (by decide +kernel) ?_
    refine g_icmp_ne (pc := 8) 22 dX1_hasBetween_8 (by decide) (by first | omega | (have := hl; unfold mg_cap at *; split at this <;> omega)) (by first | omega | (have := hl; unfold mg_cap at *; split at this <;> omega)) (fun h4 => ?_) (fun h4 => ?_)
    · refine g_iconst (pc := 22) (v := 1) dX1_hasBetween_22 (by decide +kernel) ?_
      refine g_goto (pc := 23) 27 dX1_hasBetween_23 (by decide) ?_
      exact g_iret (pc := 27) dX1_hasBetween_27 ⟨mg_narZ (by decide), Or.inr rfl⟩ (by first | exact Or.inl ⟨⟨pl, hpl, Or.inl hfst⟩, rfl, rfl⟩ | exact Or.inl ⟨⟨pl, hpl, Or.inr hfst⟩, rfl, rfl⟩ | (exfalso; omega))
    · refine g_aload_n (pc := 11) dX1_hasBetween_11 rfl ?_
      refine g_iload_n (pc := 12) dX1_hasBetween_12 rfl ?_
      refine g_iload_n (pc := 13) dX1_hasBetween_13 rfl ?_
      refine g_callVi (pc := 14) (Y' := mX1_firstBetween) (As := [iv b, iv a]) (st := []) (k := 1) (i := t) (c_firstBetween K.2.1 (g := g) (t := t) (a := b) (b := a) ht hl hc hw (by first | omega | (have := hl; unfold mg_cap at *; split at this <;> omega)) (by first | omega | (have := hl; unfold mg_cap at *; split at this <;> omega))) gX1_hasBetween_X1_firstBetween rfl (show t < 2 by omega) rfl rfl (na := 2) rfl (by decide +kernel) (by decide) (by decide) (Nat.le_of_ble_eq_true rfl) dX1_hasBetween_14 (fun r5 g6 p7 => ?_)
      rcases p7 with ⟨pl, ⟨hpl, hfst, hbef⟩, hv, hg⟩ | ⟨hnoneb, hv, hg⟩
      · have hg := hg.symm
        subst hg
        have hv := (Option.some.inj hv).symm
        subst hv
        refine g_bipush (pc := 17) (v := 4294967294) dX1_hasBetween_17 (by decide +kernel) ?_
        refine g_icmp_eq (pc := 19) 26 dX1_hasBetween_19 (by decide) (by first | omega | (have := hl; unfold mg_cap at *; split at this <;> omega)) (by first | omega | (have := hl; unfold mg_cap at *; split at this <;> omega)) (fun h8 => ?_) (fun h8 => ?_)
        · refine g_iconst (pc := 26) (v := 0) dX1_hasBetween_26 (by decide +kernel) ?_
          exact g_iret (pc := 27) dX1_hasBetween_27 ⟨mg_narZ (by decide), Or.inr rfl⟩ (by first | exact Or.inr ⟨fun i hi z => z.elim (hnonea i hi) (hnoneb i hi), rfl, rfl⟩ | (exfalso; omega))
        · refine g_iconst (pc := 22) (v := 1) dX1_hasBetween_22 (by decide +kernel) ?_
          refine g_goto (pc := 23) 27 dX1_hasBetween_23 (by decide) ?_
          exact g_iret (pc := 27) dX1_hasBetween_27 ⟨mg_narZ (by decide), Or.inr rfl⟩ (by first | exact Or.inl ⟨⟨pl, hpl, Or.inl hfst⟩, rfl, rfl⟩ | exact Or.inl ⟨⟨pl, hpl, Or.inr hfst⟩, rfl, rfl⟩ | (exfalso; omega))
      · have hg := hg.symm
        subst hg
        have hv := (Option.some.inj hv).symm
        subst hv
        refine g_bipush (pc := 17) (v := 4294967294) dX1_hasBetween_17 (by decide +kernel) ?_
        refine g_icmp_eq (pc := 19) 26 dX1_hasBetween_19 (by decide) (by decide) (by decide) (fun _ => ?_) (fun h => absurd (by decide) h)
        refine g_iconst (pc := 26) (v := 0) dX1_hasBetween_26 (by decide +kernel) ?_
        exact g_iret (pc := 27) dX1_hasBetween_27 ⟨mg_narZ (by decide), Or.inr rfl⟩ (by first | exact Or.inr ⟨fun i hi z => z.elim (hnonea i hi) (hnoneb i hi), rfl, rfl⟩ | (exfalso; omega))
  · have hg := hg.symm
    subst hg
    have hv := (Option.some.inj hv).symm
    subst hv
    refine g_bipush (pc := 6) (v := 4294967294) dX1_hasBetween_6 (by decide +kernel) ?_
    refine g_icmp_ne (pc := 8) 22 dX1_hasBetween_8 (by decide) (by decide) (by decide) (fun h => absurd (by decide) h) (fun _ => ?_)
    refine g_aload_n (pc := 11) dX1_hasBetween_11 rfl ?_
    refine g_iload_n (pc := 12) dX1_hasBetween_12 rfl ?_
    refine g_iload_n (pc := 13) dX1_hasBetween_13 rfl ?_
    refine g_callVi (pc := 14) (Y' := mX1_firstBetween) (As := [iv b, iv a]) (st := []) (k := 1) (i := t) (c_firstBetween K.2.1 (g := g) (t := t) (a := b) (b := a) ht hl hc hw (by first | omega | (have := hl; unfold mg_cap at *; split at this <;> omega)) (by first | omega | (have := hl; unfold mg_cap at *; split at this <;> omega))) gX1_hasBetween_X1_firstBetween rfl (show t < 2 by omega) rfl rfl (na := 2) rfl (by decide +kernel) (by decide) (by decide) (Nat.le_of_ble_eq_true rfl) dX1_hasBetween_14 (fun r9 g10 p11 => ?_)
    rcases p11 with ⟨pl, ⟨hpl, hfst, hbef⟩, hv, hg⟩ | ⟨hnoneb, hv, hg⟩
    · have hg := hg.symm
      subst hg
      have hv := (Option.some.inj hv).symm
      subst hv
      refine g_bipush (pc := 17) (v := 4294967294) dX1_hasBetween_17 (by decide +kernel) ?_
      refine g_icmp_eq (pc := 19) 26 dX1_hasBetween_19 (by decide) (by first | omega | (have := hl; unfold mg_cap at *; split at this <;> omega)) (by first | omega | (have := hl; unfold mg_cap at *; split at this <;> omega)) (fun h12 => ?_) (fun h12 => ?_)
      · refine g_iconst (pc := 26) (v := 0) dX1_hasBetween_26 (by decide +kernel) ?_
        exact g_iret (pc := 27) dX1_hasBetween_27 ⟨mg_narZ (by decide), Or.inr rfl⟩ (by first | exact Or.inr ⟨fun i hi z => z.elim (hnonea i hi) (hnoneb i hi), rfl, rfl⟩ | (exfalso; omega))
      · refine g_iconst (pc := 22) (v := 1) dX1_hasBetween_22 (by decide +kernel) ?_
        refine g_goto (pc := 23) 27 dX1_hasBetween_23 (by decide) ?_
        exact g_iret (pc := 27) dX1_hasBetween_27 ⟨mg_narZ (by decide), Or.inr rfl⟩ (by first | exact Or.inl ⟨⟨pl, hpl, Or.inl hfst⟩, rfl, rfl⟩ | exact Or.inl ⟨⟨pl, hpl, Or.inr hfst⟩, rfl, rfl⟩ | (exfalso; omega))
    · have hg := hg.symm
      subst hg
      have hv := (Option.some.inj hv).symm
      subst hv
      refine g_bipush (pc := 17) (v := 4294967294) dX1_hasBetween_17 (by decide +kernel) ?_
      refine g_icmp_eq (pc := 19) 26 dX1_hasBetween_19 (by decide) (by decide) (by decide) (fun _ => ?_) (fun h => absurd (by decide) h)
      refine g_iconst (pc := 26) (v := 0) dX1_hasBetween_26 (by decide +kernel) ?_
      exact g_iret (pc := 27) dX1_hasBetween_27 ⟨mg_narZ (by decide), Or.inr rfl⟩ (by first | exact Or.inr ⟨fun i hi z => z.elim (hnonea i hi) (hnoneb i hi), rfl, rfl⟩ | (exfalso; omega))
def mg_tie (g : mg_F) (a b : Nat) : mg_F := mg_up (mg_up (mg_up g 10 0 a ((g 10 0 a) ||| (2 ^ b))) 10 0 b (((mg_up g 10 0 a ((g 10 0 a) ||| (2 ^ b))) 10 0 b) ||| (2 ^ a))) 0 0 2 ((g 0 0 2) + 1)
/-- X0_tie -/
theorem c_tie (l : Launch) {a b : Nat} (ha : a < 24) (hb : b < 24) : mg_C l Z mX0_tie [rv Z 0 0, iv a, iv b] g (fun v g' => v = none ∧ g' = mg_tie g a b) := by
  refine mg_C.of (by decide) rfl (Nat.le_of_ble_eq_true rfl) (List.forall_mem_cons.mpr ⟨rfl, (List.forall_mem_cons.mpr ⟨rfl, (List.forall_mem_cons.mpr ⟨rfl, (fun _ h => nomatch h)⟩)⟩)⟩) (fun K => ?_)
  refine g_aload_n (pc := 0) dX0_tie_0 rfl ?_
  refine fg_X0_tie_9 (pc := 1) dX0_tie_1 ?_
  refine g_iload_n (pc := 4) dX0_tie_4 rfl ?_
  refine g_dup2 (pc := 5) dX0_tie_5 rfl rfl ?_
  refine g_iaload (pc := 6) (k := 10) (i := 0) (n := 24) (show 0 < 1 by omega) rfl (by decide) (by omega) dX0_tie_6 ?_
  refine g_iconst (pc := 7) (v := 1) dX0_tie_7 (by decide +kernel) ?_
  refine g_iload_n (pc := 8) dX0_tie_8 rfl ?_
  refine g_ishl (pc := 9) (by omega) dX0_tie_9 ?_
  refine g_ior (pc := 10) dX0_tie_10 ?_
  refine g_iastore (pc := 11) (k := 10) (i := 0) (n := 24) (show 0 < 1 by omega) (fun _ => rfl) (by decide) (by omega) dX0_tie_11 ?_
  refine g_aload_n (pc := 12) dX0_tie_12 rfl ?_
  refine fg_X0_tie_9 (pc := 13) dX0_tie_13 ?_
  refine g_iload_n (pc := 16) dX0_tie_16 rfl ?_
  refine g_dup2 (pc := 17) dX0_tie_17 rfl rfl ?_
  refine g_iaload (pc := 18) (k := 10) (i := 0) (n := 24) (show 0 < 1 by omega) rfl (by decide) (by omega) dX0_tie_18 ?_
  refine g_iconst (pc := 19) (v := 1) dX0_tie_19 (by decide +kernel) ?_
  refine g_iload_n (pc := 20) dX0_tie_20 rfl ?_
  refine g_ishl (pc := 21) (by omega) dX0_tie_21 ?_
  refine g_ior (pc := 22) dX0_tie_22 ?_
  refine g_iastore (pc := 23) (k := 10) (i := 0) (n := 24) (show 0 < 1 by omega) (fun _ => rfl) (by decide) (by omega) dX0_tie_23 ?_
  refine g_aload_n (pc := 24) dX0_tie_24 rfl ?_
  refine g_dup (pc := 25) dX0_tie_25 rfl ?_
  refine fg_X0_tie_25 (pc := 26) dX0_tie_26 ?_
  refine g_top (b := g 0 0 2) (by simp [mg_up, mg_upr, mg_us]) ?_
  refine g_iconst (pc := 29) (v := 1) dX0_tie_29 (by decide +kernel) ?_
  refine g_iadd (pc := 30) dX0_tie_30 ?_
  refine fp_X0_tie_25 (pc := 31) dX0_tie_31 ?_
  exact g_ret (pc := 34) dX0_tie_34 trivial ⟨rfl, rfl⟩
def mg_untie (g : mg_F) (a b : Nat) : mg_F := mg_up (mg_up (mg_up g 10 0 a ((g 10 0 a) &&& ((2 ^ b) ^^^ 4294967295))) 10 0 b (((mg_up g 10 0 a ((g 10 0 a) &&& ((2 ^ b) ^^^ 4294967295))) 10 0 b) &&& ((2 ^ a) ^^^ 4294967295))) 0 0 2 ((g 0 0 2) - 1)
/-- X0_untie -/
theorem c_untie (l : Launch) {a b : Nat} (ha : a < 24) (hb : b < 24) (h1 : 1 ≤ g 0 0 2) : mg_C l Z mX0_untie [rv Z 0 0, iv a, iv b] g (fun v g' => v = none ∧ g' = mg_untie g a b) := by
  refine mg_C.of (by decide) rfl (Nat.le_of_ble_eq_true rfl) (List.forall_mem_cons.mpr ⟨rfl, (List.forall_mem_cons.mpr ⟨rfl, (List.forall_mem_cons.mpr ⟨rfl, (fun _ h => nomatch h)⟩)⟩)⟩) (fun K => ?_)
  refine g_aload_n (pc := 0) dX0_untie_0 rfl ?_
  refine fg_X0_untie_9 (pc := 1) dX0_untie_1 ?_
  refine g_iload_n (pc := 4) dX0_untie_4 rfl ?_
  refine g_dup2 (pc := 5) dX0_untie_5 rfl rfl ?_
  refine g_iaload (pc := 6) (k := 10) (i := 0) (n := 24) (show 0 < 1 by omega) rfl (by decide) (by omega) dX0_untie_6 ?_
  refine g_iconst (pc := 7) (v := 1) dX0_untie_7 (by decide +kernel) ?_
  refine g_iload_n (pc := 8) dX0_untie_8 rfl ?_
  refine g_ishl (pc := 9) (by omega) dX0_untie_9 ?_
  refine g_iconst (pc := 10) (v := 4294967295) dX0_untie_10 (by decide +kernel) ?_
  refine g_ixor (pc := 11) dX0_untie_11 ?_
  refine g_iand (pc := 12) dX0_untie_12 ?_
  refine g_iastore (pc := 13) (k := 10) (i := 0) (n := 24) (show 0 < 1 by omega) (fun _ => rfl) (by decide) (by omega) dX0_untie_13 ?_
  refine g_aload_n (pc := 14) dX0_untie_14 rfl ?_
  refine fg_X0_untie_9 (pc := 15) dX0_untie_15 ?_
  refine g_iload_n (pc := 18) dX0_untie_18 rfl ?_
  refine g_dup2 (pc := 19) dX0_untie_19 rfl rfl ?_
  refine g_iaload (pc := 20) (k := 10) (i := 0) (n := 24) (show 0 < 1 by omega) rfl (by decide) (by omega) dX0_untie_20 ?_
  refine g_iconst (pc := 21) (v := 1) dX0_untie_21 (by decide +kernel) ?_
  refine g_iload_n (pc := 22) dX0_untie_22 rfl ?_
  refine g_ishl (pc := 23) (by omega) dX0_untie_23 ?_
  refine g_iconst (pc := 24) (v := 4294967295) dX0_untie_24 (by decide +kernel) ?_
  refine g_ixor (pc := 25) dX0_untie_25 ?_
  refine g_iand (pc := 26) dX0_untie_26 ?_
  refine g_iastore (pc := 27) (k := 10) (i := 0) (n := 24) (show 0 < 1 by omega) (fun _ => rfl) (by decide) (by omega) dX0_untie_27 ?_
  refine g_aload_n (pc := 28) dX0_untie_28 rfl ?_
  refine g_dup (pc := 29) dX0_untie_29 rfl ?_
  refine fg_X0_untie_25 (pc := 30) dX0_untie_30 ?_
  refine g_top (b := g 0 0 2) (by simp [mg_up, mg_upr, mg_us]) ?_
  refine g_iconst (pc := 33) (v := 1) dX0_untie_33 (by decide +kernel) ?_
  refine g_isub (pc := 34) (by omega) dX0_untie_34 ?_
  refine fp_X0_untie_25 (pc := 35) dX0_untie_35 ?_
  exact g_ret (pc := 38) dX0_untie_38 trivial ⟨rfl, rfl⟩
theorem c_whoHolds_loop {K : mg_Kt} (hn : g 0 0 1 ≤ 24) (hp : ∀ s, s < 24 → g 3 s 2 < 4294967296) : ∀ (m s : Nat), g 0 0 1 - s < m → (s ≤ g 0 0 1) → (∀ j, j < s → g 3 j 2 ≠ j) → mg_G K Z mX4_whoHolds (fun v g' => (∃ s, (s < g 0 0 1 ∧ g 3 s 2 = s ∧ ∀ j, j < s → g 3 j 2 ≠ j) ∧ v = some s ∧ g' = g) ∨ ((∀ j, j < g 0 0 1 → g 3 j 2 ≠ j) ∧ v = some 4294967294 ∧ g' = g)) 2 [rv Z 4 0, iv s] [] g := by
  intro m
  induction m with
  | zero => intro s h; exact absurd h (Nat.not_lt_zero _)
  | succ m ih =>
    intro s hm hi hb
    refine g_iload_n (pc := 2) dX4_whoHolds_2 rfl ?_
    refine g_aload_n (pc := 3) dX4_whoHolds_3 rfl ?_
    refine fg_X4_whoHolds_10 (pc := 4) dX4_whoHolds_4 ?_
    refine fg_X4_whoHolds_229 (pc := 7) dX4_whoHolds_7 ?_
    refine g_icmp_ge (pc := 10) 33 dX4_whoHolds_10 (by decide) (by omega) (by omega) (fun h1 => ?_) (fun h1 => ?_)
    · refine g_bipush (pc := 33) (v := 4294967294) dX4_whoHolds_33 (by decide +kernel) ?_
      exact g_iret (pc := 35) dX4_whoHolds_35 ⟨mg_narI _, Or.inl rfl⟩ (Or.inr ⟨fun j hj => hb j (by omega), rfl, rfl⟩)
    · refine g_aload_n (pc := 13) dX4_whoHolds_13 rfl ?_
      refine fg_X4_whoHolds_18 (pc := 14) dX4_whoHolds_14 ?_
      refine g_iload_n (pc := 17) dX4_whoHolds_17 rfl ?_
      refine g_aastation (pc := 18) (a := s) (by omega) dX4_whoHolds_18 ?_
      refine g_callVi (pc := 19) (Y' := mX3_holds) (As := []) (st := []) (k := 3) (i := s) (c_holds K.2.1 (g := g) (s := s) (by omega) (hp s (by omega))) gX4_whoHolds_X3_holds rfl (show s < 24 by omega) rfl rfl (na := 0) rfl (by decide +kernel) (by decide) (by decide) (Nat.le_of_ble_eq_true rfl) dX4_whoHolds_19 (fun r2 g3 p4 => ?_)
      rcases p4 with ⟨hc, hv, hg⟩ | ⟨hc, hv, hg⟩
      · have hg := hg.symm
        subst hg
        have hv := (Option.some.inj hv).symm
        subst hv
        refine g_if_eq (pc := 22) 27 dX4_whoHolds_22 (by decide) (by decide) (fun h => absurd h (by decide)) (fun _ => ?_)
        refine g_iload_n (pc := 25) dX4_whoHolds_25 rfl ?_
        exact g_iret (pc := 26) dX4_whoHolds_26 ⟨mg_narI _, Or.inl rfl⟩ (Or.inl ⟨s, ⟨by omega, hc, hb⟩, rfl, rfl⟩)
      · have hg := hg.symm
        subst hg
        have hv := (Option.some.inj hv).symm
        subst hv
        refine g_if_eq (pc := 22) 27 dX4_whoHolds_22 (by decide) (by decide) (fun _ => ?_) (fun h => absurd (by decide) h)
        refine g_iinc (pc := 27) (v := s + 1) (ls' := [rv Z 4 0, iv (s + 1)]) dX4_whoHolds_27 (Nat.le_of_ble_eq_true rfl) rfl (mg_inc _) rfl ?_
        refine g_goto (pc := 30) 2 dX4_whoHolds_30 (by decide) ?_
        exact ih (s + 1) (by omega) (by omega) (fun j hj => by rcases (show j < s ∨ j = s by omega) with z | rfl; exact hb j z; exact hc)
theorem c_whoHolds (l : Launch) (hn : g 0 0 1 ≤ 24) (hp : ∀ s, s < 24 → g 3 s 2 < 4294967296) : mg_C l Z mX4_whoHolds [rv Z 4 0] g (fun v g' => (∃ s, (s < g 0 0 1 ∧ g 3 s 2 = s ∧ ∀ j, j < s → g 3 j 2 ≠ j) ∧ v = some s ∧ g' = g) ∨ ((∀ j, j < g 0 0 1 → g 3 j 2 ≠ j) ∧ v = some 4294967294 ∧ g' = g)) := by
  refine mg_C.of (by decide) rfl (Nat.le_of_ble_eq_true rfl) (List.forall_mem_cons.mpr ⟨rfl, (fun _ h => nomatch h)⟩) (fun K => ?_)
  refine g_iconst (pc := 0) (v := 0) dX4_whoHolds_0 (by decide +kernel) ?_
  refine g_istore_n (pc := 1) (ls' := [rv Z 4 0, iv 0]) dX4_whoHolds_1 (Nat.le_of_ble_eq_true rfl) (Nat.le_of_ble_eq_true rfl) rfl ?_
  exact c_whoHolds_loop hn hp (g 0 0 1 + 1) 0 (by omega) (Nat.zero_le _) (fun j hj => absurd hj (Nat.not_lt_zero j))
theorem c_whoPumps_loop {K : mg_Kt} (hn : g 0 0 1 ≤ 24) (hp : ∀ s, s < 24 → g 3 s 5 < 2) : ∀ (m s : Nat), g 0 0 1 - s < m → (s ≤ g 0 0 1) → (∀ j, j < s → g 3 j 5 = 0) → mg_G K Z mX4_whoPumps (fun v g' => (∃ s, (s < g 0 0 1 ∧ g 3 s 5 ≠ 0 ∧ ∀ j, j < s → g 3 j 5 = 0) ∧ v = some s ∧ g' = g) ∨ ((∀ j, j < g 0 0 1 → g 3 j 5 = 0) ∧ v = some 4294967294 ∧ g' = g)) 2 [rv Z 4 0, iv s] [] g := by
  intro m
  induction m with
  | zero => intro s h; exact absurd h (Nat.not_lt_zero _)
  | succ m ih =>
    intro s hm hi hb
    refine g_iload_n (pc := 2) dX4_whoPumps_2 rfl ?_
    refine g_aload_n (pc := 3) dX4_whoPumps_3 rfl ?_
    refine fg_X4_whoPumps_10 (pc := 4) dX4_whoPumps_4 ?_
    refine fg_X4_whoPumps_229 (pc := 7) dX4_whoPumps_7 ?_
    refine g_icmp_ge (pc := 10) 33 dX4_whoPumps_10 (by decide) (by first | omega | (have := hp s (by omega); omega)) (by first | omega | (have := hp s (by omega); omega)) (fun h1 => ?_) (fun h1 => ?_)
    · refine g_bipush (pc := 33) (v := 4294967294) dX4_whoPumps_33 (by decide +kernel) ?_
      exact g_iret (pc := 35) dX4_whoPumps_35 ⟨mg_narI _, Or.inl rfl⟩ (Or.inr ⟨fun j hj => hb j (by omega), rfl, rfl⟩)
    · refine g_aload_n (pc := 13) dX4_whoPumps_13 rfl ?_
      refine fg_X4_whoPumps_18 (pc := 14) dX4_whoPumps_14 ?_
      refine g_iload_n (pc := 17) dX4_whoPumps_17 rfl ?_
      refine g_aastation (pc := 18) (a := s) (by first | omega | (have := hp s (by omega); omega)) dX4_whoPumps_18 ?_
      refine fg_X4_whoPumps_111 (pc := 19) (by first | omega | (have := hp s (by omega); omega)) dX4_whoPumps_19 ?_
      refine g_if_eq (pc := 22) 27 dX4_whoPumps_22 (by decide) (by first | omega | (have := hp s (by omega); omega)) (fun h2 => ?_) (fun h2 => ?_)
      · refine g_iinc (pc := 27) (v := s + 1) (ls' := [rv Z 4 0, iv (s + 1)]) dX4_whoPumps_27 (Nat.le_of_ble_eq_true rfl) rfl (mg_inc _) rfl ?_
        refine g_goto (pc := 30) 2 dX4_whoPumps_30 (by decide) ?_
        exact ih (s + 1) (by omega) (by omega) (fun j hj => by rcases (show j < s ∨ j = s by omega) with z | rfl; exact hb j z; assumption)
      · refine g_iload_n (pc := 25) dX4_whoPumps_25 rfl ?_
        exact g_iret (pc := 26) dX4_whoPumps_26 ⟨mg_narI _, Or.inl rfl⟩ (Or.inl ⟨s, ⟨by omega, by assumption, hb⟩, rfl, rfl⟩)
theorem c_whoPumps (l : Launch) (hn : g 0 0 1 ≤ 24) (hp : ∀ s, s < 24 → g 3 s 5 < 2) : mg_C l Z mX4_whoPumps [rv Z 4 0] g (fun v g' => (∃ s, (s < g 0 0 1 ∧ g 3 s 5 ≠ 0 ∧ ∀ j, j < s → g 3 j 5 = 0) ∧ v = some s ∧ g' = g) ∨ ((∀ j, j < g 0 0 1 → g 3 j 5 = 0) ∧ v = some 4294967294 ∧ g' = g)) := by
  refine mg_C.of (by decide) rfl (Nat.le_of_ble_eq_true rfl) (List.forall_mem_cons.mpr ⟨rfl, (fun _ h => nomatch h)⟩) (fun K => ?_)
  refine g_iconst (pc := 0) (v := 0) dX4_whoPumps_0 (by decide +kernel) ?_
  refine g_istore_n (pc := 1) (ls' := [rv Z 4 0, iv 0]) dX4_whoPumps_1 (Nat.le_of_ble_eq_true rfl) (Nat.le_of_ble_eq_true rfl) rfl ?_
  exact c_whoPumps_loop hn hp (g 0 0 1 + 1) 0 (by omega) (Nat.zero_le _) (fun j hj => absurd hj (Nat.not_lt_zero j))
end FIRST
