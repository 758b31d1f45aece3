/-! ===== the class's constructor ===== -/
theorem iw_X4_init_X0 : ∀ w ∈ wsX00, w ∈ wsX4_init := fun w h => List.mem_cons.mpr (Or.inr (List.mem_append.mpr (Or.inl (List.mem_append.mpr (Or.inl (List.mem_append.mpr (Or.inl (List.mem_append.mpr (Or.inl (List.mem_append.mpr (Or.inr h)))))))))))
theorem iw_X4_init_X1 : ∀ w ∈ wsX10, w ∈ wsX4_init := fun w h => List.mem_cons.mpr (Or.inr (List.mem_append.mpr (Or.inl (List.mem_append.mpr (Or.inl (List.mem_append.mpr (Or.inr h)))))))
theorem iw_X4_init_X3 : ∀ w ∈ wsX30, w ∈ wsX4_init := fun w h => List.mem_cons.mpr (Or.inr (List.mem_append.mpr (Or.inl (List.mem_append.mpr (Or.inr h)))))
theorem iw_X4_init_X4 : ∀ w ∈ wsX40, w ∈ wsX4_init := fun w h => List.mem_cons.mpr (Or.inr (List.mem_append.mpr (Or.inl (List.mem_append.mpr (Or.inl (List.mem_append.mpr (Or.inl (List.mem_append.mpr (Or.inr h)))))))))
/-- a cell that is another's equal in all that counts -/
theorem kw_conv {D : va_G} {dm : List (Nat × Nat)} {ad : Nat → Nat → Nat} {ce : Nat → Nat → va_E} {k i : Nat} {e : va_E} {H : Heap} (h : va_at D vwCl (ad k i, ce k i) H → va_at D vwCl (ad k i, e) H) (hP : va_P D vwCl (kw dm ad ce) H) : va_P D vwCl (kw dm ad (ku ce k i e)) H := by
  intro n x hx
  unfold kw at hx
  rw [List.getElem?_map] at hx
  cases hq : dm[n]? with
  | none => rw [hq] at hx; cases hx
  | some q =>
    rw [hq] at hx
    cases hx
    have h0 : va_at D vwCl (ad q.1 q.2, ce q.1 q.2) H := hP n _ (by unfold kw; rw [List.getElem?_map, hq]; rfl)
    unfold kr
    by_cases hk : q.1 = k ∧ q.2 = i
    · rw [hk.1, hk.2, ku_at]
      rw [hk.1, hk.2] at h0
      exact h h0
    · rw [ku_ne _ _ hk]
      exact h0
theorem kw_convD {A : Nat → Prop} {dm : List (Nat × Nat)} {ad : Nat → Nat → Nat} {ce ce' : Nat → Nat → va_E} (h : va_D A (kw dm ad ce)) : va_D A (kw dm ad ce') := by
  have key : ∀ (c : Nat → Nat → va_E) (n : Nat) (x : Nat × va_E), (kw dm ad c)[n]? = some x → ∃ q, dm[n]? = some q ∧ x.1 = ad q.1 q.2 := by
    intro c n x hx
    unfold kw at hx
    rw [List.getElem?_map] at hx
    cases hq : dm[n]? with
    | none => rw [hq] at hx; cases hx
    | some q => rw [hq] at hx; cases hx; exact ⟨q, rfl, rfl⟩
  have at' : ∀ (n : Nat) (q : Nat × Nat), dm[n]? = some q → (kw dm ad ce)[n]? = some (ad q.1 q.2, ce q.1 q.2) := by
    intro n q hq
    unfold kw
    rw [List.getElem?_map, hq]
    rfl
  refine ⟨fun i j x y hi hj e => ?_, fun n x hx => ?_⟩
  · obtain ⟨q, h1, h2⟩ := key _ i x hi
    obtain ⟨q', h3, h4⟩ := key _ j y hj
    exact h.1 i j _ _ (at' i q h1) (at' j q' h3) (by rw [← h2, ← h4, e])
  · obtain ⟨q, h1, h2⟩ := key _ n x hx
    rw [h2]
    exact h.2 n _ (at' n q h1)
theorem arrV_ext {c : ClassId} {n : Nat} {f f' : Nat → Value} (h : ∀ j, j < n → f j = f' j) : arrV c n f = arrV c n f' := by
  unfold arrV
  congr 1
  congr 1
  funext j
  exact h j.val j.isLt
section XINIT4
variable {K : mg_Kt} {Z : kg_Zt} {cells slots : Nat} {dm : List (Nat × Nat)} {ad : Nat → Nat → Nat} {ce : Nat → Nat → va_E} {a : Nat}
theorem c_X4_tail {P : (Nat → Nat → Nat) → Prop} {f : Nat → Option Nat} (ha : ad 4 0 = a) (hP : P ad) (hf : ce 18 0 = .inl (Z.2.1.2.2.1, 24, .inr (.inr (.inr (.inr f))))) (hff : ∀ j, j < 24 → f j = some (ad 3 j)) (h18 : (18, 0) ∈ dm) (hm : ∀ k i, i < mg_cnt false k → k ≠ 18 → (k, i) ∈ dm ∧ ce k i = mg_mk (ad, Z.2.1) k i (fun _ => 0)) (h1 : cells ≤ kmc K) (h2 : slots ≤ kms K) (hR : kg_R K Z mX4_init (fun dm' ad' ce' => dm' = mg_all false ∧ P ad' ∧ ce' = fun k i => mg_mk (ad', Z.2.1) k i (qcs80 k i))) : kg_G K Z mX4_init cells slots 103 [.ref a, iv 24] [] dm ad ce := by
  subst ha
  have step : kg_G K Z mX4_init cells slots 103 [.ref (ad 4 0), iv 24] [] dm ad (ku ce 18 0 (mg_mk (ad, Z.2.1) 18 0 (fun _ => 0))) := by
    refine k_toG (b := false) (g := mg_z) (post := fun v g => v = none ∧ g = qcs80) (fun k i hi => ?_) h1 h2 (kg_ret5 hP rfl hR) ?_
    · by_cases hk : k = 18
      · subst hk
        have hi0 : i = 0 := by
          have : mg_cnt false 18 = 1 := rfl
          omega
        subst hi0
        exact ⟨h18, ku_at _ _ _ _⟩
      · exact ⟨(hm k i hi hk).1, (ku_ne _ _ (by omega)).trans (hm k i hi hk).2⟩
    · show mg_G K (Z.1, (ad, Z.2.1), false, Z.2.2) mX4_init _ 103 [rv (Z.1, (ad, Z.2.1), false, Z.2.2) 4 0, iv 24] [] _
      refine g_aload_n (pc := 103) dX4_init_103 rfl ?_
      refine g_iconst (pc := 104) (v := 2) dX4_init_104 (by decide +kernel) ?_
      refine g_callVi (pc := 105) (Y' := mX4_canal) (As := [iv 2]) (st := []) (k := 4) (i := 0) (qc2 K.2.1) gX4_init_X4_canal rfl (show 0 < 1 by omega) rfl rfl (na := 1) rfl (by decide +kernel) (by decide) (by decide) (Nat.le_of_ble_eq_true rfl) dX4_init_105 (fun r1 g1 hp => ?_)
      obtain ⟨h1, rfl⟩ := hp
      refine g_pop (pc := 108) dX4_init_108 rfl ?_
      refine g_aload_n (pc := 109) dX4_init_109 rfl ?_
      refine g_iconst (pc := 110) (v := 0) dX4_init_110 (by decide +kernel) ?_
      refine g_iconst (pc := 111) (v := 1) dX4_init_111 (by decide +kernel) ?_
      refine g_callVi (pc := 112) (Y' := mX4_link) (As := [iv 0, iv 1]) (st := []) (k := 4) (i := 0) (qc9 K.2.1) gX4_init_X4_link rfl (show 0 < 1 by omega) rfl rfl (na := 2) rfl (by decide +kernel) (by decide) (by decide) (Nat.le_of_ble_eq_true rfl) dX4_init_112 (fun r2 g2 hp => ?_)
      obtain ⟨h2, rfl⟩ := hp
      refine g_pop (pc := 115) dX4_init_115 rfl ?_
      refine g_aload_n (pc := 116) dX4_init_116 rfl ?_
      refine g_iconst (pc := 117) (v := 0) dX4_init_117 (by decide +kernel) ?_
      refine g_iconst (pc := 118) (v := 0) dX4_init_118 (by decide +kernel) ?_
      refine g_iconst (pc := 119) (v := 1) dX4_init_119 (by decide +kernel) ?_
      refine g_callVi (pc := 120) (Y' := mX4_open) (As := [iv 0, iv 0, iv 1]) (st := []) (k := 4) (i := 0) (qc52 K.2.1) gX4_init_X4_open rfl (show 0 < 1 by omega) rfl rfl (na := 3) rfl (by decide +kernel) (by decide) (by decide) (Nat.le_of_ble_eq_true rfl) dX4_init_120 (fun r3 g3 hp => ?_)
      obtain ⟨h3, rfl⟩ := hp
      refine g_pop (pc := 123) dX4_init_123 rfl ?_
      exact g_ret (pc := 124) dX4_init_124 trivial ⟨rfl, rfl⟩
  intro hF H locs la hP' hD hS hL
  refine step hF H locs la (kw_conv (fun hv => ?_) hP') (kw_convD hD) hS hL
  rw [hf] at hv
  have e : vp_cell Z.2.1.2.2.1 (24, .inr (.inr (.inr (.inr f)))) = vp_cell Z.2.1.2.2.1 (24, .inr (.inr (.inr (.inr (fun j => some (ad 3 j)))))) := by
    rw [vp_cell_q, vp_cell_q]
    exact arrV_ext (fun j hj => by rw [hff j hj])
  show H[ad 18 0]? = some (vp_cell Z.2.1.2.2.1 (24, .inr (.inr (.inr (.inr (fun j => some (ad 3 j)))))))
  rw [← e]
  exact hv
/-- what a cell holds hangs on the addresses that it names alone -/
theorem mg_mk_congr2 {ad' : Nat → Nat → Nat} {cs : ClassId × ClassId × ClassId × ClassId} {k i s : Nat} {r : Nat → Nat} (hk : k < 23) (h18 : k ≠ 18) (h5 : k ≠ 5) (hi : k = 2 ∨ k = 3 → i ≠ s) (h : ∀ k' i', ¬ (i' = s ∧ (k' = 2 ∨ k' = 3 ∨ k' = 16 ∨ k' = 17)) → ad' k' i' = ad k' i') : mg_mk (ad', cs) k i r = mg_mk (ad, cs) k i r := by
  rcases (show k = 0 ∨ k = 1 ∨ k = 2 ∨ k = 3 ∨ k = 4 ∨ k = 6 ∨ k = 7 ∨ k = 8 ∨ k = 9 ∨ k = 10 ∨ k = 11 ∨ k = 12 ∨ k = 13 ∨ k = 14 ∨ k = 15 ∨ k = 16 ∨ k = 17 ∨ k = 19 ∨ k = 20 ∨ k = 21 ∨ k = 22 by omega) with rfl | rfl | rfl | rfl | rfl | rfl | rfl | rfl | rfl | rfl | rfl | rfl | rfl | rfl | rfl | rfl | rfl | rfl | rfl | rfl | rfl
  case inr.inr.inl =>
    have e : i ≠ s := hi (Or.inl rfl)
    simp [mg_mk, h, e]
  case inr.inr.inr.inl =>
    have e : i ≠ s := hi (Or.inr rfl)
    simp [mg_mk, h, e]
  all_goals simp [mg_mk, h]
theorem mg_cnt_small {k i : Nat} (h : i < mg_cnt false k) : k < 23 ∧ k ≠ 5 := by
  have : ∀ k, k < 63 → mg_cnt false k ≠ 0 → k < 23 ∧ k ≠ 5 := by decide +kernel
  exact this k (mg_cnt_lt h) (by omega)
theorem c_X4_loop {P : (Nat → Nat → Nat) → Prop} (hP : ∀ ad', ad' 4 0 = a → P ad') (hmc : kmc K = 161) (hms : kms K = 8195) (hR : kg_R K Z mX4_init (fun dm' ad' ce' => dm' = mg_all false ∧ P ad' ∧ ce' = fun k i => mg_mk (ad', Z.2.1) k i (qcs80 k i))) : ∀ (n s : Nat), s ≤ 24 → 24 - s = n → ∀ (dm : List (Nat × Nat)) (ad : Nat → Nat → Nat) (ce : Nat → Nat → va_E) (f : Nat → Option Nat), ad 4 0 = a → ce 18 0 = .inl (Z.2.1.2.2.1, 24, .inr (.inr (.inr (.inr f)))) → (∀ j, j < s → f j = some (ad 3 j)) → (18, 0) ∈ dm →
    (∀ k i, i < mg_cnt false k → k ≠ 18 → k ≠ 2 → k ≠ 3 → k ≠ 16 → k ≠ 17 → (k, i) ∈ dm ∧ ce k i = mg_mk (ad, Z.2.1) k i (fun _ => 0)) → (∀ k i, (k = 2 ∨ k = 3 ∨ k = 16 ∨ k = 17) → i < s → (k, i) ∈ dm ∧ ce k i = mg_mk (ad, Z.2.1) k i (fun _ => 0)) → (∀ k i, (k = 2 ∨ k = 3 ∨ k = 16 ∨ k = 17) → s ≤ i → (k, i) ∉ dm) →
    kg_G K Z mX4_init (65 + 4 * s) (6683 + 63 * s) 77 [.ref a, iv s] [] dm ad ce := by
  intro n
  induction n with
  | zero =>
    intro s hs hn dm ad ce f ha hf hff h18 hb hst hno
    have e : s = 24 := by omega
    subst e
    refine k_iload_n (pc := 77) dX4_init_77 rfl ?_
    refine k_bipush (pc := 78) (v := 24) dX4_init_78 (by decide +kernel) ?_
    refine k_icmp_ge (pc := 80) 103 dX4_init_80 (by decide) (by decide) (by decide) (fun _ => ?_) (fun h => absurd (Nat.le_refl _) h)
    refine c_X4_tail (P := P) (f := f) ha (hP ad ha) hf hff h18 (fun k i hi hk => ?_) (by rw [hmc]; decide) (by rw [hms]; decide) hR
    by_cases h2 : k = 2 ∨ k = 3 ∨ k = 16 ∨ k = 17
    · exact hst k i h2 (by rcases h2 with rfl | rfl | rfl | rfl <;> exact hi)
    · exact hb k i hi hk (by omega) (by omega) (by omega) (by omega)
  | succ n ih =>
    intro s hs hn dm ad ce f ha hf hff h18 hb hst hno
    have h4 := hb 4 0 (show 0 < 1 by omega) (by decide) (by decide) (by decide) (by decide) (by decide)
    refine k_iload_n (pc := 77) dX4_init_77 rfl ?_
    refine k_bipush (pc := 78) (v := 24) dX4_init_78 (by decide +kernel) ?_
    refine k_icmp_ge (pc := 80) 103 dX4_init_80 (by decide) (by omega) (by decide) (fun h => absurd h (by omega)) (fun _ => ?_)
    refine k_aload_n (pc := 83) dX4_init_83 rfl ?_
    refine k_get (pc := 84) (k := 4) (i := 0) (ci := 4) (j := 1) h4.1 ha h4.2 rfl (by decide) (by decide +kernel) iw_X4_init_X4 rfl dX4_init_84 ?_
    refine k_iload_n (pc := 87) dX4_init_87 rfl ?_
    refine k_new (pc := 88) (k := 3) (i := s) (ci := 3) (ty := tyX3) (fs := [iv 0, .null, iv 0, iv 0, iv 0, iv 0, iv 0, iv 0, iv 0, iv 0, iv 0, iv 0]) (hno 3 s (by omega) (Nat.le_refl _)) rfl iw_X4_init_X3 tyX3_ok (by decide +kernel) (by decide +kernel) (by decide +kernel) (fun j hj => by rcases (show j = 0 ∨ j = 1 ∨ j = 2 ∨ j = 3 ∨ j = 4 ∨ j = 5 ∨ j = 6 ∨ j = 7 ∨ j = 8 ∨ j = 9 ∨ j = 10 ∨ j = 11 by omega) with rfl | rfl | rfl | rfl | rfl | rfl | rfl | rfl | rfl | rfl | rfl | rfl <;> rfl) (by rw [hmc]; omega) (by rw [hms]; omega) dX4_init_88 (fun q => ?_)
    refine k_dup (pc := 91) dX4_init_91 rfl ?_
    refine k_iload_n (pc := 92) dX4_init_92 rfl ?_
    refine k_callI (pc := 93) (Y' := mX3_init) (As := [iv s]) (st := [.ref q, iv s, .ref (ad 18 0)]) (c_X3_init K.2.1 (s := s) (by simp) (ku_at _ _ _ _) (ku_at _ _ _ _) (by simp; exact hno 2 s (by omega) (Nat.le_refl _)) (by simp; exact hno 16 s (by omega) (Nat.le_refl _)) (by simp; exact hno 17 s (by omega) (Nat.le_refl _))) gX4_init_X3_init rfl (by decide +kernel) (by decide +kernel) (by decide +kernel) rfl (na := 1) rfl (by decide +kernel) (by decide) (by decide) (Nat.le_of_ble_eq_true rfl) (by rw [hmc]; omega) (by rw [hms]; omega) dX4_init_93 (fun dm' ad' ce' hp => ?_)
    obtain ⟨q1, q2, q3, rfl, rfl, ce0, rfl, e2, e16, e17, eo⟩ := hp
    have had : ∀ k i, ¬ (i = s ∧ (k = 2 ∨ k = 3 ∨ k = 16 ∨ k = 17)) → ku (ku (ku (ku ad 3 s q) 2 s q1) 16 s q2) 17 s q3 k i = ad k i := by
      intro k i h
      have z1 : ¬ (k = 3 ∧ i = s) := fun z => h ⟨z.2, by omega⟩
      have z2 : ¬ (k = 2 ∧ i = s) := fun z => h ⟨z.2, by omega⟩
      have z3 : ¬ (k = 16 ∧ i = s) := fun z => h ⟨z.2, by omega⟩
      have z4 : ¬ (k = 17 ∧ i = s) := fun z => h ⟨z.2, by omega⟩
      simp [ku, z1, z2, z3, z4]
    have hce : ∀ k i, ¬ (i = s ∧ (k = 2 ∨ k = 3 ∨ k = 16 ∨ k = 17)) → ce0 k i = ce k i := by
      intro k i h
      rw [eo k i h]
      exact ku_ne _ _ (fun z => h ⟨z.2, by omega⟩)
    have hmem : ∀ p, p ∈ dm → p ∈ ((((dm ++ [(3, s)]) ++ [(2, s)]) ++ [(16, s)]) ++ [(17, s)]) := fun p hp => by simp [hp]
    refine k_aastore (pc := 96) (k := 18) (i := 0) (s := s) (n := 24) (f := f) (hmem _ h18) (had 18 0 (by omega)) ?_ (by simp) (by simp [ku]) (ku_at _ _ _ _) (by omega) (by decide) dX4_init_96 ?_
    · rw [ku_ne _ _ (by omega), hce 18 0 (by omega)]
      exact hf
    refine k_iinc (pc := 97) (v := s + 1) (ls' := [.ref a, iv (s + 1)]) dX4_init_97 (Nat.le_of_ble_eq_true rfl) rfl (mg_inc s) rfl ?_
    refine k_goto (pc := 100) 77 dX4_init_100 (by decide) ?_
    have hcs : 65 + 4 * s + 1 + 3 = 65 + 4 * (s + 1) ∧ 6683 + 63 * s + 12 + 51 = 6683 + 63 * (s + 1) := by omega
    rw [hcs.1, hcs.2]
    refine ih (s + 1) (by omega) (by omega) _ _ _ (va_up f s (some q)) ((had 4 0 (by omega)).trans ha) (ku_at _ _ _ _) (fun j hj => ?_) (hmem _ h18) (fun k i hi h18' h2' h3' h16' h17' => ?_) (fun k i hk hi => ?_) (fun k i hk hi => ?_)
    · by_cases hjs : j = s
      · subst hjs
        simp [va_up, ku]
      · rw [had 3 j (by omega)]
        simp only [va_up, if_neg hjs]
        exact hff j (by omega)
    · have hb' := hb k i hi h18' h2' h3' h16' h17'
      have hsm := mg_cnt_small hi
      refine ⟨hmem _ hb'.1, ?_⟩
      rw [ku_ne _ _ (by omega), ku_ne _ _ (by omega), hce k i (by omega), hb'.2]
      exact (mg_mk_congr2 hsm.1 h18' hsm.2 (by omega) had).symm
    · by_cases his : i = s
      · subst his
        rw [ku_ne _ _ (by omega)]
        rcases hk with rfl | rfl | rfl | rfl
        · refine ⟨by simp, ?_⟩
          rw [ku_ne _ _ (by omega), e2]
          simp [mg_mk, ku]
        · refine ⟨by simp, ?_⟩
          rw [ku_at]
          simp [mg_mk, ku]
        · refine ⟨by simp, ?_⟩
          rw [ku_ne _ _ (by omega), e16]
          rfl
        · refine ⟨by simp, ?_⟩
          rw [ku_ne _ _ (by omega), e17]
          rfl
      · have hb' := hst k i hk (by omega)
        refine ⟨hmem _ hb'.1, ?_⟩
        rw [ku_ne _ _ (by omega), ku_ne _ _ (by omega), hce k i (by omega), hb'.2]
        exact (mg_mk_congr2 (by omega) (by omega) (by omega) (fun _ => his) had).symm
    · have hn' := hno k i hk (by omega)
      have : ¬ i = s := by omega
      simp [hn', this]
end XINIT4
