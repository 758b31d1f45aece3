/-! ===== own places, first places, serving ===== -/
theorem mg_C.mono {l : Launch} {Z : mg_Zt} {Y : mg_Yt} {As : List Value} {g : mg_F} {post post' : Option Nat → mg_F → Prop} (h : mg_C l Z Y As g post) (hp : ∀ v g', mg_rt Y.2.2.2.1 v → post v g' → post' v g') : mg_C l Z Y As g post' := by
  intro p e ha hc hk s m args below hf hap hP hK
  obtain ⟨n, o, h1, h2, h3, ⟨v, g', e1, hr, hpo, hP', hF⟩, L, hFr⟩ := h p e ha hc hk s m args below hf hap hP hK
  exact ⟨n, o, h1, h2, h3, ⟨v, g', e1, hr, hp v g' hr hpo, hP', hF⟩, L, hFr⟩
/-- the first i < n with p, or NONE -/
def mg_fi (p : Nat → Prop) [DecidablePred p] : Nat → Nat
  | 0 => 4294967294
  | n + 1 => if mg_fi p n = 4294967294 then (if p n then n else 4294967294) else mg_fi p n
theorem mg_fi_none {p : Nat → Prop} [DecidablePred p] : ∀ n, (∀ j, j < n → ¬ p j) → mg_fi p n = 4294967294
  | 0, _ => rfl
  | n + 1, h => by
    rw [mg_fi, if_pos (mg_fi_none n (fun j hj => h j (by omega))), if_neg (h n (by omega))]
theorem mg_fi_some {p : Nat → Prop} [DecidablePred p] {i : Nat} (hi : i < 4294967294) (hp : p i) (hb : ∀ j, j < i → ¬ p j) : ∀ n, i < n → mg_fi p n = i
  | 0, h => absurd h (Nat.not_lt_zero _)
  | n + 1, h => by
    by_cases e : i = n
    · subst e
      rw [mg_fi, if_pos (mg_fi_none i hb), if_pos hp]
    · have := mg_fi_some hi hp hb n (by omega)
      rw [mg_fi, if_neg (by omega), this]
theorem mg_fi_or (p : Nat → Prop) [DecidablePred p] : ∀ n, (mg_fi p n < n ∧ p (mg_fi p n)) ∨ (mg_fi p n = 4294967294 ∧ ∀ j, j < n → ¬ p j)
  | 0 => Or.inr ⟨rfl, fun j hj => absurd hj (Nat.not_lt_zero j)⟩
  | n + 1 => by
    rcases mg_fi_or p n with ⟨h1, h2⟩ | ⟨h1, h2⟩
    · by_cases e : mg_fi p n = 4294967294
      · rw [mg_fi, if_pos e]
        by_cases hp : p n
        · rw [if_pos hp]; exact Or.inl ⟨by omega, hp⟩
        · rw [if_neg hp]
          by_cases hx : 4294967294 < n + 1
          · exact Or.inl ⟨hx, by rw [← e]; exact h2⟩
          · exact absurd h1 (by omega)
      · rw [mg_fi, if_neg e]
        exact Or.inl ⟨by omega, h2⟩
    · rw [mg_fi, if_pos h1]
      by_cases hp : p n
      · rw [if_pos hp]; exact Or.inl ⟨by omega, hp⟩
      · rw [if_neg hp]
        exact Or.inr ⟨rfl, fun j hj => by rcases (show j < n ∨ j = n by omega) with z | rfl; exact h2 j z; exact hp⟩
/-- where a station stands in its own queue -/
def mg_own (g : mg_F) (s x : Nat) : Nat := mg_fi (fun q => g 16 s q = x) (g 2 s 2)
def mg_gr (g : mg_F) (s r : Nat) : Nat := if mg_own g s s ≠ 4294967294 ∧ (g 3 s 7 < r ∨ g 2 s 2 = 1) then mg_own g s s else if mg_own g s s = 0 then 1 else 0
def mg_fp (g : mg_F) (s r q : Nat) : Nat := if g 2 s 2 = 0 then 4294967294 else if r = 1 then mg_gr g s q else if r = 2 then mg_gp (g 17 s) (g 2 s 2) else 0
/-- the first n of a row grow by one, up to 1000 -/
def mg_in1 (r : Nat → Nat) (n : Nat) : Nat → Nat := fun i => if i < n then min (r i + 1) 1000 else r i
theorem mg_in1_0 (r : Nat → Nat) : mg_in1 r 0 = r := by funext i; simp [mg_in1]
theorem mg_in1_at (r : Nat → Nat) (n : Nat) : mg_in1 r n n = r n := by simp [mg_in1]
theorem mg_in1_s (r : Nat → Nat) (n : Nat) : mg_us (mg_in1 r n) n (min (mg_in1 r n n + 1) 1000) = mg_in1 r (n + 1) := by
  funext i
  unfold mg_us mg_in1
  by_cases h : i = n
  · subst h
    rw [if_pos rfl, if_neg (Nat.lt_irrefl _), if_pos (Nat.lt_succ_self _)]
  · rw [if_neg h]
    by_cases h2 : i < n
    · rw [if_pos h2, if_pos (by omega)]
    · rw [if_neg h2, if_neg (by omega)]
section FP
variable {Z : mg_Zt} {g : mg_F}
theorem c_placeF (l : Launch) {s x : Nat} (hs : s < 24) (hl : g 2 s 2 ≤ 24) (hw : ∀ i, i < 24 → g 16 s i < 4294967296) (hx : x < 4294967296) : mg_C l Z mX2_placeOf [rv Z 2 s, iv x] g (fun v g' => v = some (mg_own g s x) ∧ g' = g) := by
  refine (c_placeOf l hs hl hw hx).mono (fun v g' _ h => ?_)
  rcases h with ⟨i, ⟨h1, h2, h3⟩, rfl, rfl⟩ | ⟨h1, rfl, rfl⟩
  · exact ⟨by rw [mg_own, mg_fi_some (p := fun q => g' 16 s q = x) (i := i) (by omega) h2 h3 _ h1], rfl⟩
  · exact ⟨by rw [mg_own, mg_fi_none (p := fun q => g' 16 s q = x) _ h1], rfl⟩
/-- X3_greedyPlace -/
theorem c_greedyPlace (l : Launch) {s r : Nat} (hs : s < 24) (hl : g 2 s 2 ≤ 24) (hw : ∀ i, i < 24 → g 16 s i < 4294967296) (h7 : g 3 s 7 < 2147483648) (hr : r < 2147483648) : mg_C l Z mX3_greedyPlace [rv Z 3 s, iv r] g (fun v g' => v = some (mg_gr g s r) ∧ g' = g) := by
  refine mg_C.of (by decide) rfl (Nat.le_of_ble_eq_true rfl) (List.forall_mem_cons.mpr ⟨rfl, (List.forall_mem_cons.mpr ⟨rfl, (fun _ h => nomatch h)⟩)⟩) (fun K => ?_)
  have ho : mg_own g s s < 4294967295 := by rcases mg_fi_or (fun q => g 16 s q = s) (g 2 s 2) with z | z <;> (unfold mg_own; omega)
  refine g_aload_n (pc := 0) dX3_greedyPlace_0 rfl ?_
  refine fg_X3_greedyPlace_12 (pc := 1) (by omega) dX3_greedyPlace_1 ?_
  refine g_aload_n (pc := 4) dX3_greedyPlace_4 rfl ?_
  refine fg_X3_greedyPlace_18 (pc := 5) (by omega) dX3_greedyPlace_5 ?_
  refine g_callVi (pc := 8) (Y' := mX2_placeOf) (As := [iv s]) (st := []) (k := 2) (i := s) (c_placeF K.2.1 (g := g) (s := s) (x := s) (by omega) (by omega) hw (by omega)) gX3_greedyPlace_X2_placeOf rfl (show s < 24 by omega) rfl rfl (na := 1) rfl (by decide +kernel) (by decide) (by decide) (Nat.le_of_ble_eq_true rfl) dX3_greedyPlace_8 (fun r1 g2 p3 => ?_)
  obtain ⟨hv, hg⟩ := p3
  have hg := hg.symm
  subst hg
  have hv := (Option.some.inj hv).symm
  subst hv
  refine g_istore_n (pc := 11) (ls' := [rv Z 3 s, iv r, iv (mg_own g s s)]) dX3_greedyPlace_11 (Nat.le_of_ble_eq_true rfl) (Nat.le_of_ble_eq_true rfl) rfl ?_
  refine g_iload_n (pc := 12) dX3_greedyPlace_12 rfl ?_
  refine g_bipush (pc := 13) (v := 4294967294) dX3_greedyPlace_13 (by decide +kernel) ?_
  refine g_icmp_eq (pc := 15) 39 dX3_greedyPlace_15 (by decide) (by omega) (by omega) (fun h4 => ?_) (fun h4 => ?_)
  · refine g_iload_n (pc := 39) dX3_greedyPlace_39 rfl ?_
    refine g_if_ne (pc := 40) 47 dX3_greedyPlace_40 (by decide) (by omega) (fun h5 => ?_) (fun h5 => ?_)
    · refine g_iconst (pc := 47) (v := 0) dX3_greedyPlace_47 (by decide +kernel) ?_
      exact g_iret (pc := 48) dX3_greedyPlace_48 ⟨mg_narI _, Or.inl rfl⟩ (by unfold mg_gr; first | (rw [if_pos ⟨by omega, by omega⟩]; exact ⟨rfl, rfl⟩) | (rw [if_neg (by omega), if_pos (by omega)]; exact ⟨rfl, rfl⟩) | (rw [if_neg (by omega), if_neg (by omega)]; exact ⟨rfl, rfl⟩))
    · refine g_iconst (pc := 43) (v := 1) dX3_greedyPlace_43 (by decide +kernel) ?_
      refine g_goto (pc := 44) 48 dX3_greedyPlace_44 (by decide) ?_
      exact g_iret (pc := 48) dX3_greedyPlace_48 ⟨mg_narI _, Or.inl rfl⟩ (by unfold mg_gr; first | (rw [if_pos ⟨by omega, by omega⟩]; exact ⟨rfl, rfl⟩) | (rw [if_neg (by omega), if_pos (by omega)]; exact ⟨rfl, rfl⟩) | (rw [if_neg (by omega), if_neg (by omega)]; exact ⟨rfl, rfl⟩))
  · refine g_aload_n (pc := 18) dX3_greedyPlace_18 rfl ?_
    refine fg_X3_greedyPlace_41 (pc := 19) (by omega) dX3_greedyPlace_19 ?_
    refine g_iload_n (pc := 22) dX3_greedyPlace_22 rfl ?_
    refine g_icmp_lt (pc := 23) 37 dX3_greedyPlace_23 (by decide) (by omega) (by omega) (fun h6 => ?_) (fun h6 => ?_)
    · refine g_iload_n (pc := 37) dX3_greedyPlace_37 rfl ?_
      exact g_iret (pc := 38) dX3_greedyPlace_38 ⟨mg_narI _, Or.inl rfl⟩ (by unfold mg_gr; first | (rw [if_pos ⟨by omega, by omega⟩]; exact ⟨rfl, rfl⟩) | (rw [if_neg (by omega), if_pos (by omega)]; exact ⟨rfl, rfl⟩) | (rw [if_neg (by omega), if_neg (by omega)]; exact ⟨rfl, rfl⟩))
    · refine g_aload_n (pc := 26) dX3_greedyPlace_26 rfl ?_
      refine fg_X3_greedyPlace_12 (pc := 27) (by omega) dX3_greedyPlace_27 ?_
      refine fg_X3_greedyPlace_22 (pc := 30) (by omega) dX3_greedyPlace_30 ?_
      refine g_iconst (pc := 33) (v := 1) dX3_greedyPlace_33 (by decide +kernel) ?_
      refine g_icmp_ne (pc := 34) 39 dX3_greedyPlace_34 (by decide) (by omega) (by omega) (fun h7 => ?_) (fun h7 => ?_)
      · refine g_iload_n (pc := 39) dX3_greedyPlace_39 rfl ?_
        refine g_if_ne (pc := 40) 47 dX3_greedyPlace_40 (by decide) (by omega) (fun h8 => ?_) (fun h8 => ?_)
        · refine g_iconst (pc := 47) (v := 0) dX3_greedyPlace_47 (by decide +kernel) ?_
          exact g_iret (pc := 48) dX3_greedyPlace_48 ⟨mg_narI _, Or.inl rfl⟩ (by unfold mg_gr; first | (rw [if_pos ⟨by omega, by omega⟩]; exact ⟨rfl, rfl⟩) | (rw [if_neg (by omega), if_pos (by omega)]; exact ⟨rfl, rfl⟩) | (rw [if_neg (by omega), if_neg (by omega)]; exact ⟨rfl, rfl⟩))
        · refine g_iconst (pc := 43) (v := 1) dX3_greedyPlace_43 (by decide +kernel) ?_
          refine g_goto (pc := 44) 48 dX3_greedyPlace_44 (by decide) ?_
          exact g_iret (pc := 48) dX3_greedyPlace_48 ⟨mg_narI _, Or.inl rfl⟩ (by unfold mg_gr; first | (rw [if_pos ⟨by omega, by omega⟩]; exact ⟨rfl, rfl⟩) | (rw [if_neg (by omega), if_pos (by omega)]; exact ⟨rfl, rfl⟩) | (rw [if_neg (by omega), if_neg (by omega)]; exact ⟨rfl, rfl⟩))
      · refine g_iload_n (pc := 37) dX3_greedyPlace_37 rfl ?_
        exact g_iret (pc := 38) dX3_greedyPlace_38 ⟨mg_narI _, Or.inl rfl⟩ (by unfold mg_gr; first | (rw [if_pos ⟨by omega, by omega⟩]; exact ⟨rfl, rfl⟩) | (rw [if_neg (by omega), if_pos (by omega)]; exact ⟨rfl, rfl⟩) | (rw [if_neg (by omega), if_neg (by omega)]; exact ⟨rfl, rfl⟩))
/-- X3_firstPlace -/
theorem c_firstPlace (l : Launch) {s r q : Nat} (hs : s < 24) (hl : g 2 s 2 ≤ 24) (hw : ∀ i, i < 24 → g 16 s i < 4294967296) (hk : ∀ i, i < 24 → g 17 s i < 2147483648) (h7 : g 3 s 7 < 2147483648) (hr : r < 4294967296) (hq : q < 2147483648) : mg_C l Z mX3_firstPlace [rv Z 3 s, iv r, iv q] g (fun v g' => v = some (mg_fp g s r q) ∧ g' = g) := by
  refine mg_C.of (by decide) rfl (Nat.le_of_ble_eq_true rfl) (List.forall_mem_cons.mpr ⟨rfl, (List.forall_mem_cons.mpr ⟨rfl, (List.forall_mem_cons.mpr ⟨rfl, (fun _ h => nomatch h)⟩)⟩)⟩) (fun K => ?_)
  refine g_aload_n (pc := 0) dX3_firstPlace_0 rfl ?_
  refine fg_X3_firstPlace_12 (pc := 1) (by omega) dX3_firstPlace_1 ?_
  refine fg_X3_firstPlace_22 (pc := 4) (by omega) dX3_firstPlace_4 ?_
  refine g_if_ne (pc := 7) 13 dX3_firstPlace_7 (by decide) (by omega) (fun h1 => ?_) (fun h1 => ?_)
  · refine g_iload_n (pc := 13) dX3_firstPlace_13 rfl ?_
    refine g_iconst (pc := 14) (v := 1) dX3_firstPlace_14 (by decide +kernel) ?_
    refine g_icmp_ne (pc := 15) 24 dX3_firstPlace_15 (by decide) (by omega) (by omega) (fun h2 => ?_) (fun h2 => ?_)
    · refine g_iload_n (pc := 24) dX3_firstPlace_24 rfl ?_
      refine g_iconst (pc := 25) (v := 2) dX3_firstPlace_25 (by decide +kernel) ?_
      refine g_icmp_ne (pc := 26) 39 dX3_firstPlace_26 (by decide) (by omega) (by omega) (fun h3 => ?_) (fun h3 => ?_)
      · refine g_iconst (pc := 39) (v := 0) dX3_firstPlace_39 (by decide +kernel) ?_
        exact g_iret (pc := 40) dX3_firstPlace_40 ⟨mg_narI _, Or.inl rfl⟩ (by unfold mg_fp; first | (rw [if_pos (by omega)]; exact ⟨rfl, rfl⟩) | (rw [if_neg (by omega), if_pos (by omega)]; exact ⟨rfl, rfl⟩) | (rw [if_neg (by omega), if_neg (by omega), if_pos (by omega)]; exact ⟨rfl, rfl⟩) | (rw [if_neg (by omega), if_neg (by omega), if_neg (by omega)]; exact ⟨rfl, rfl⟩))
      · refine g_aload_n (pc := 29) dX3_firstPlace_29 rfl ?_
        refine fg_X3_firstPlace_12 (pc := 30) (by omega) dX3_firstPlace_30 ?_
        refine g_callVi (pc := 33) (Y' := mX2_greatestPlace) (As := []) (st := []) (k := 2) (i := s) (c_greatestPlace K.2.1 (g := g) (s := s) hs hl hk) gX3_firstPlace_X2_greatestPlace rfl (show s < 24 by omega) rfl rfl (na := 0) rfl (by decide +kernel) (by decide) (by decide) (Nat.le_of_ble_eq_true rfl) dX3_firstPlace_33 (fun r4 g5 p6 => ?_)
        obtain ⟨hv, hg⟩ := p6
        have hg := hg.symm
        subst hg
        have hv := (Option.some.inj hv).symm
        subst hv
        refine g_goto (pc := 36) 40 dX3_firstPlace_36 (by decide) ?_
        exact g_iret (pc := 40) dX3_firstPlace_40 ⟨mg_narI _, Or.inl rfl⟩ (by unfold mg_fp; first | (rw [if_pos (by omega)]; exact ⟨rfl, rfl⟩) | (rw [if_neg (by omega), if_pos (by omega)]; exact ⟨rfl, rfl⟩) | (rw [if_neg (by omega), if_neg (by omega), if_pos (by omega)]; exact ⟨rfl, rfl⟩) | (rw [if_neg (by omega), if_neg (by omega), if_neg (by omega)]; exact ⟨rfl, rfl⟩))
    · refine g_aload_n (pc := 18) dX3_firstPlace_18 rfl ?_
      refine g_iload_n (pc := 19) dX3_firstPlace_19 rfl ?_
      refine g_callVi (pc := 20) (Y' := mX3_greedyPlace) (As := [iv q]) (st := []) (k := 3) (i := s) (c_greedyPlace K.2.1 (g := g) (s := s) (r := q) hs hl hw h7 (by omega)) gX3_firstPlace_X3_greedyPlace rfl (show s < 24 by omega) rfl rfl (na := 1) rfl (by decide +kernel) (by decide) (by decide) (Nat.le_of_ble_eq_true rfl) dX3_firstPlace_20 (fun r7 g8 p9 => ?_)
      obtain ⟨hv, hg⟩ := p9
      have hg := hg.symm
      subst hg
      have hv := (Option.some.inj hv).symm
      subst hv
      exact g_iret (pc := 23) dX3_firstPlace_23 ⟨mg_narI _, Or.inl rfl⟩ (by unfold mg_fp; first | (rw [if_pos (by omega)]; exact ⟨rfl, rfl⟩) | (rw [if_neg (by omega), if_pos (by omega)]; exact ⟨rfl, rfl⟩) | (rw [if_neg (by omega), if_neg (by omega), if_pos (by omega)]; exact ⟨rfl, rfl⟩) | (rw [if_neg (by omega), if_neg (by omega), if_neg (by omega)]; exact ⟨rfl, rfl⟩))
  · refine g_bipush (pc := 10) (v := 4294967294) dX3_firstPlace_10 (by decide +kernel) ?_
    exact g_iret (pc := 12) dX3_firstPlace_12 ⟨mg_narI _, Or.inl rfl⟩ (by unfold mg_fp; first | (rw [if_pos (by omega)]; exact ⟨rfl, rfl⟩) | (rw [if_neg (by omega), if_pos (by omega)]; exact ⟨rfl, rfl⟩) | (rw [if_neg (by omega), if_neg (by omega), if_pos (by omega)]; exact ⟨rfl, rfl⟩) | (rw [if_neg (by omega), if_neg (by omega), if_neg (by omega)]; exact ⟨rfl, rfl⟩))
theorem c_serve_loop {K : mg_Kt} {s p : Nat} {post : Option Nat → mg_F → Prop} (hs : s < 24) (hl : g 2 s 2 ≤ 24) (hr : ∀ i, i < 24 → g 17 s i < 2147483647) (hp : post none (mg_upr g 17 s (mg_in1 (g 17 s) (g 2 s 2)))) : ∀ (m i : Nat), g 2 s 2 - i < m → i ≤ g 2 s 2 → mg_G K Z mX2_serve post 36 [rv Z 2 s, iv p, iv i] [] (mg_upr g 17 s (mg_in1 (g 17 s) i)) := by
  intro m
  induction m with
  | zero => intro i h; exact absurd h (Nat.not_lt_zero _)
  | succ m ih =>
    intro i hm hi
    refine g_iload_n (pc := 36) dX2_serve_36 rfl ?_
    refine g_aload_n (pc := 37) dX2_serve_37 rfl ?_
    refine fg_X2_serve_18 (pc := 38) (by first | omega | (rw [mg_in1_at]; have := hr i (by omega); omega)) dX2_serve_38 ?_
    refine g_top (b := g 2 s 2) (by simp [mg_up, mg_upr, mg_us]) ?_
    refine g_icmp_ge (pc := 41) 70 dX2_serve_41 (by decide) (by first | omega | (rw [mg_in1_at]; have := hr i (by omega); omega)) (by first | omega | (rw [mg_in1_at]; have := hr i (by omega); omega)) (fun h1 => ?_) (fun h1 => ?_)
    · exact g_ret (pc := 70) dX2_serve_70 trivial (by rw [show i = g 2 s 2 by omega]; exact hp)
    · refine g_aload_n (pc := 44) dX2_serve_44 rfl ?_
      refine fg_X2_serve_15 (pc := 45) (by first | omega | (rw [mg_in1_at]; have := hr i (by omega); omega)) dX2_serve_45 ?_
      refine g_iload_n (pc := 48) dX2_serve_48 rfl ?_
      refine g_aload_n (pc := 49) dX2_serve_49 rfl ?_
      refine fg_X2_serve_15 (pc := 50) (by first | omega | (rw [mg_in1_at]; have := hr i (by omega); omega)) dX2_serve_50 ?_
      refine g_iload_n (pc := 53) dX2_serve_53 rfl ?_
      refine g_iaload (pc := 54) (k := 17) (i := s) (n := 24) (show s < 24 by omega) rfl (by decide) (by first | omega | (rw [mg_in1_at]; have := hr i (by omega); omega)) dX2_serve_54 ?_
      refine g_top (b := (mg_in1 (g 17 s) i) i) (by simp [mg_up, mg_upr, mg_us]) ?_
      refine g_iconst (pc := 55) (v := 1) dX2_serve_55 (by decide +kernel) ?_
      refine g_iadd (pc := 56) dX2_serve_56 ?_
      refine g_sipush (pc := 57) (v := 1000) dX2_serve_57 (by decide +kernel) ?_
      refine g_min (pc := 60) (by first | omega | (rw [mg_in1_at]; have := hr i (by omega); omega)) (by first | omega | (rw [mg_in1_at]; have := hr i (by omega); omega)) (by decide +kernel) (by decide +kernel) (by decide +kernel) (by decide +kernel) (by decide) (Nat.le_of_ble_eq_true rfl) dX2_serve_60 ?_
      refine g_iastore (pc := 63) (k := 17) (i := s) (n := 24) (show s < 24 by omega) (fun _ => rfl) (by decide) (by first | omega | (rw [mg_in1_at]; have := hr i (by omega); omega)) dX2_serve_63 ?_
      refine g_iinc (pc := 64) (v := i + 1) (ls' := [rv Z 2 s, iv p, iv (i + 1)]) dX2_serve_64 (Nat.le_of_ble_eq_true rfl) rfl (mg_inc _) rfl ?_
      refine g_goto (pc := 67) 36 dX2_serve_67 (by decide) ?_
      rw [mg_up_upr, mg_in1_s]
      exact ih (i + 1) (by omega) (by omega)
end FP
