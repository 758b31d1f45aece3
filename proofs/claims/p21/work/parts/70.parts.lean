/-! ===== pure: the parts, as the class and as the reference find them ===== -/
theorem q_partOf {s n : Nat} {g : mg_F} {A : Nat → Nat → Prop} (hA : ∀ a b, A a b ↔ (a < 24 ∧ b < 24 ∧ (g 10 0 a).testBit b = true)) (hN : ∀ a, a < 24 → g 10 0 a < 16777216) (hn : g 0 0 1 = n) (hn2 : n < 25) (hs : s < n) (hAn : ∀ a b, A a b → a < n ∧ b < n) (hsym : ∀ a b, A a b → A b a) : ∃ r, P_X0_partOf s g = some (r, g) ∧ r < 16777216 ∧ ∀ t, t < n → (r.testBit t = true ↔ rch A s t) := by
  unfold P_X0_partOf
  rw [ck_t (by omega)]
  have tb : ∀ (S i : Nat), S < 16777216 → S.testBit i = true → i < 24 := by
    intro S i hS h
    apply Classical.byContradiction
    intro hi
    rw [Nat.testBit_lt_two_pow (Nat.lt_of_lt_of_le hS (by have := Nat.pow_le_pow_right (n := 2) (by omega) (show 24 ≤ i by omega); omega))] at h
    cases h
  have inner : ∀ (S r : Nat) (k : Nat → Nat → mg_F → mo), S < 16777216 → (∀ i, S.testBit i = true → rch A s i) → ∃ S', (S' < 16777216 ∧ (∀ i, S'.testBit i = true → rch A s i) ∧ (∀ i, S.testBit i = true → S'.testBit i = true) ∧ (∀ u w, A u w → S.testBit u = true → S'.testBit w = true)) ∧ L_X0_partOf_17 s r k 4000 S 0 g = k S' n g := by
    intro S r k hS hr
    obtain ⟨S', h1, h2⟩ := lp_ex (L := fun n x v => L_X0_partOf_17 s r k n x v g) (K := fun x => k x n g) (I := fun t S' => S' < 16777216 ∧ (∀ i, S'.testBit i = true → rch A s i) ∧ (∀ i, S.testBit i = true → S'.testBit i = true) ∧ (∀ u w, u < t → A u w → S.testBit u = true → S'.testBit w = true)) (N := n) (by
      intro m S' t ht hI
      obtain ⟨i1, i2, i3, i4⟩ := hI
      refine ⟨if S'.testBit t = true then S' ||| g 10 0 t else S', ?_, ?_⟩
      · show L_X0_partOf_17 s r _ (m + 1) S' t g = L_X0_partOf_17 s r _ m _ (t + 1) g
        rw [L_X0_partOf_17, hn, if_pos ((sv_ltN (by omega) (by omega)).mpr ht), q_cont (by omega) (by omega), bd_s, jn_s]
        by_cases c : S'.testBit t = true
        · rw [if_pos c, if_neg (by rw [sv_l1]; omega), ck_t (by omega), if_pos c]
        · rw [if_neg c, if_pos sv_0, if_neg c]
      · by_cases c : S'.testBit t = true
        · rw [if_pos c]
          refine ⟨?_, fun i hi => ?_, fun i hi => ?_, fun u w hu huw hSu => ?_⟩
          · have := Nat.or_lt_two_pow (n := 24) (x := S') (y := g 10 0 t) (by simpa using i1) (by simpa using hN t (by omega))
            simpa using this
          · rw [Nat.testBit_or] at hi
            by_cases d : S'.testBit i = true
            · exact i2 i d
            · have hg : (g 10 0 t).testBit i = true := by simpa [d] using hi
              exact rch_trans (i2 t c) (rch_step ((hA t i).mpr ⟨by omega, tb _ _ (hN t (by omega)) hg, hg⟩))
          · rw [Nat.testBit_or, i3 i hi]; rfl
          · rw [Nat.testBit_or]
            by_cases cu : u = t
            · subst cu; rw [((hA u w).mp huw).2.2]; simp
            · rw [i4 u w (by omega) huw hSu]; rfl
        · rw [if_neg c]
          refine ⟨i1, i2, i3, fun u w hu huw hSu => ?_⟩
          by_cases cu : u = t
          · subst cu; exact absurd (i3 u hSu) c
          · exact i4 u w (by omega) huw hSu) (by
      intro m S' hI
      show L_X0_partOf_17 s r _ (m + 1) S' n g = _
      rw [L_X0_partOf_17, hn, if_neg (by omega)]) n 4000 S 0 (by omega) (by omega) ⟨hS, hr, fun i h => h, fun u w hu => by omega⟩
    obtain ⟨j1, j2, j3, j4⟩ := h1
    exact ⟨S', ⟨j1, j2, j3, fun u w huw hSu => j4 u w (hAn u w huw).1 huw hSu⟩, h2⟩
  have s0 : (2 ^ s) < 16777216 := by
    have := Nat.pow_lt_pow_right (a := 2) (by omega) (show s < 24 by omega)
    simpa using this
  obtain ⟨S, h1, h2⟩ := lp_ex (L := fun m x v => L_X0_partOf_6 s (fun w13 w14 g15 => some (w13, g15)) m x v g) (K := fun x => some (x, g)) (I := fun r S => 1 ≤ r ∧ S < 16777216 ∧ S.testBit s = true ∧ (∀ i, S.testBit i = true → rch A s i) ∧ (clo A S.testBit ∨ r ≤ cnt S.testBit n)) (N := n) (by
    intro m S r hr hI
    obtain ⟨i0, i1, i2, i3, i4⟩ := hI
    obtain ⟨S', ⟨j1, j2, j3, j4⟩, e⟩ := inner S r (fun w10 _ g12 => L_X0_partOf_6 s (fun w13 w14 g15 => some (w13, g15)) m w10 (r + 1) g12) i1 i3
    refine ⟨S', ?_, by omega, j1, j3 s i2, j2, ?_⟩
    · show L_X0_partOf_6 s _ (m + 1) S r g = L_X0_partOf_6 s _ m S' (r + 1) g
      rw [L_X0_partOf_6, hn, if_pos ((sv_ltN (by omega) (by omega)).mpr hr), e]
    · exact grow (fun a b h => (hAn a b h).2) j3 j4 (fun hc i hi => clo_rch hsym hc (j2 i hi) i2) i4) (by
    intro m S hI
    show L_X0_partOf_6 s _ (m + 1) S n g = _
    rw [L_X0_partOf_6, hn, if_neg (by omega)]) (n - 1) 4000 (2 ^ s) 1 (by omega) (by omega) ⟨by omega, s0, by rw [Nat.testBit_two_pow]; simp, fun i hi => by
      rw [Nat.testBit_two_pow] at hi
      have : s = i := by simpa using hi
      rw [this]; exact rch_refl, Or.inr (cnt_pos (w := s) hs (by rw [Nat.testBit_two_pow]; simp))⟩
  obtain ⟨_, j1, j2, j3, j4⟩ := h1
  have hclo : clo A S.testBit := by
    rcases j4 with h | h
    · exact h
    · intro a b hab _
      exact cnt_full n h b (hAn a b hab).2
  exact ⟨S, h2, j1, fun t ht => ⟨j3 t, fun hr => clo_rch hsym hclo hr j2⟩⟩
def ex61 (g x : mg_F) : Prop := ∀ k i j, k ≠ 61 → x k i j = g k i j
theorem ex61_up {g x : mg_F} (h : ex61 g x) (i j v : Nat) : ex61 g (mg_up x 61 i j v) := fun k i' j' hk => by
  rw [ue, if_neg (fun q => hk q.1)]; exact h k i' j' hk
theorem m_part {n : Nat} {g : mg_F} {A : Nat → Nat → Prop} (hA : ∀ a b, A a b ↔ (a < 24 ∧ b < 24 ∧ g 35 0 (24 * a + b) = 1)) (h35 : ∀ a b, a < 24 → b < 24 → g 35 0 (24 * a + b) < 2) (hn : g 5 0 0 = n) (hn2 : n < 25) (hn0 : 0 < n) (hAn : ∀ a b, A a b → a < n ∧ b < n) (hsym : ∀ a b, A a b → A b a) : ∃ g', P_X5_part g = some (cnt (fun s => g' 61 0 s == s) n, g') ∧ ex61 g g' ∧ LBL n A (g' 61 0) := by
  unfold P_X5_part
  -- the rows, one station
  have rb : ∀ (x0 x : mg_F) (a r : Nat) (K : mg_F → mo), a < n → ex61 g x → (∀ i, i < n → x0 61 0 i ≤ i) → (∀ i, i < n → x 61 0 i ≤ x0 61 0 i ∧ rch A i (x 61 0 i)) → (∀ i b, i < a → A i b → x 61 0 i ≤ x0 61 0 b) → ∃ x', (ex61 g x' ∧ (∀ i, i < n → x' 61 0 i ≤ x0 61 0 i ∧ rch A i (x' 61 0 i)) ∧ (∀ i b, i < a + 1 → A i b → x' 61 0 i ≤ x0 61 0 b)) ∧ L_X5_part_45 r a (fun _ g => K g) 4000 0 x = K x' := by
    intro x0 x a r K ha hx h0 hx2 hx3
    obtain ⟨x', h1, h2⟩ := lp_ex (L := fun m x v => L_X5_part_45 r a (fun _ g => K g) m v x) (K := K) (I := fun b x => ex61 g x ∧ (∀ i, i < n → x 61 0 i ≤ x0 61 0 i ∧ rch A i (x 61 0 i)) ∧ (∀ i b, i < a → A i b → x 61 0 i ≤ x0 61 0 b) ∧ (∀ b', b' < b → A a b' → x 61 0 a ≤ x0 61 0 b')) (N := n) (by
      intro m x b hb hI
      obtain ⟨i1, i2, i3, i4⟩ := hI
      have e5 : x 5 0 0 = n := by rw [i1 5 0 0 (by omega)]; exact hn
      have e35 : x 35 0 (24 * a + b) = g 35 0 (24 * a + b) := i1 35 0 _ (by omega)
      have l35 := h35 a b (by omega) (by omega)
      have la := (i2 a ha)
      have lb := (i2 b hb)
      have l0a := h0 a ha
      have l0b := h0 b hb
      have fin : ∀ y, y ≤ x 61 0 a → rch A a y → (A a b → y ≤ x0 61 0 b) → (ex61 g (mg_up x 61 0 a y) ∧ (∀ i, i < n → mg_up x 61 0 a y 61 0 i ≤ x0 61 0 i ∧ rch A i (mg_up x 61 0 a y 61 0 i)) ∧ (∀ i b, i < a → A i b → mg_up x 61 0 a y 61 0 i ≤ x0 61 0 b) ∧ (∀ b', b' < b + 1 → A a b' → mg_up x 61 0 a y 61 0 a ≤ x0 61 0 b')) := by
        intro y y1 y2 y3
        refine ⟨ex61_up i1 _ _ _, fun i hi => ?_, fun i b' hi hib => ?_, fun b' hb' hab => ?_⟩
        · rw [ue]
          by_cases c : i = a
          · rw [if_pos ⟨rfl, rfl, c⟩, c]; exact ⟨by omega, y2⟩
          · rw [if_neg (fun q => c q.2.2)]; exact i2 i hi
        · rw [ue, if_neg (by omega)]; exact i3 i b' hi hib
        · rw [ue, if_pos ⟨rfl, rfl, rfl⟩]
          by_cases c : b' = b
          · rw [c] at hab ⊢; exact y3 hab
          · have := i4 b' (by omega) hab
            omega
      by_cases cl : g 35 0 (24 * a + b) = 1
      · have hab : A a b := (hA a b).mpr ⟨by omega, by omega, cl⟩
        by_cases c : x 61 0 b < x 61 0 a
        · refine ⟨mg_up x 61 0 a (x 61 0 b), ?_, fin _ (by omega) (rch_trans (rch_step hab) lb.2) (fun _ => lb.1)⟩
          show L_X5_part_45 r a _ (m + 1) b x = _
          rw [L_X5_part_45, e5, if_pos ((sv_ltN (by omega) (by omega)).mpr hb), ck_t (by omega), jn_s, e35, cl, if_neg (by rw [sv_l1]; omega), ck_t (by omega), ck_t (by omega), if_pos ((sv_ltN (by omega) (by omega)).mpr c)]
          exact ck_t (by omega)
        · refine ⟨mg_up x 61 0 a (x 61 0 a), ?_, fin _ (by omega) la.2 (fun _ => by omega)⟩
          show L_X5_part_45 r a _ (m + 1) b x = _
          rw [L_X5_part_45, e5, if_pos ((sv_ltN (by omega) (by omega)).mpr hb), ck_t (by omega), jn_s, e35, cl, if_neg (by rw [sv_l1]; omega), ck_t (by omega), ck_t (by omega), if_neg (by rw [sv_ltN (by omega) (by omega)]; exact c)]
          exact ck_t (by omega)
      · refine ⟨mg_up x 61 0 a (x 61 0 a), ?_, fin _ (by omega) la.2 (fun h => absurd ((hA a b).mp h).2.2 cl)⟩
        show L_X5_part_45 r a _ (m + 1) b x = _
        rw [L_X5_part_45, e5, if_pos ((sv_ltN (by omega) (by omega)).mpr hb), ck_t (by omega), jn_s, e35, show g 35 0 (24 * a + b) = 0 by omega, if_pos sv_0, ck_t (by omega)]
        exact ck_t (by omega)) (by
      intro m x hI
      have e5 : x 5 0 0 = n := by rw [hI.1 5 0 0 (by omega)]; exact hn
      show L_X5_part_45 r a _ (m + 1) n x = _
      rw [L_X5_part_45, e5, if_neg (by omega)]) n 4000 x 0 (by omega) (by omega) ⟨hx, hx2, hx3, fun b' hb' => by omega⟩
    refine ⟨x', ⟨h1.1, h1.2.1, fun i b hi hib => ?_⟩, h2⟩
    by_cases c : i = a
    · subst c; exact h1.2.2.2 b (hAn i b hib).2 hib
    · exact h1.2.2.1 i b (by omega) hib
  -- one round
  have rr : ∀ (x0 : mg_F) (r : Nat) (K : mg_F → mo), ex61 g x0 → (∀ i, i < n → x0 61 0 i ≤ i ∧ rch A i (x0 61 0 i)) → ∃ x', (ex61 g x' ∧ (∀ i, i < n → x' 61 0 i ≤ x0 61 0 i ∧ rch A i (x' 61 0 i)) ∧ (∀ i b, A i b → x' 61 0 i ≤ x0 61 0 b)) ∧ L_X5_part_35 r (fun _ g => K g) 4000 0 x0 = K x' := by
    intro x0 r K hx0 h0
    obtain ⟨x', h1, h2⟩ := lp_ex (L := fun m x v => L_X5_part_35 r (fun _ g => K g) m v x) (K := K) (I := fun a x => ex61 g x ∧ (∀ i, i < n → x 61 0 i ≤ x0 61 0 i ∧ rch A i (x 61 0 i)) ∧ (∀ i b, i < a → A i b → x 61 0 i ≤ x0 61 0 b)) (N := n) (by
      intro m x a ha hI
      obtain ⟨i1, i2, i3⟩ := hI
      have e5 : x 5 0 0 = n := by rw [i1 5 0 0 (by omega)]; exact hn
      obtain ⟨x', j, e⟩ := rb x0 x a r (fun g => L_X5_part_35 r (fun _ g => K g) m (a + 1) g) ha i1 (fun i hi => (h0 i hi).1) i2 i3
      refine ⟨x', ?_, j⟩
      show L_X5_part_35 r _ (m + 1) a x = _
      rw [L_X5_part_35, e5, if_pos ((sv_ltN (by omega) (by omega)).mpr ha), e]) (by
      intro m x hI
      have e5 : x 5 0 0 = n := by rw [hI.1 5 0 0 (by omega)]; exact hn
      show L_X5_part_35 r _ (m + 1) n x = _
      rw [L_X5_part_35, e5, if_neg (by omega)]) n 4000 x0 0 (by omega) (by omega) ⟨hx0, fun i hi => ⟨Nat.le_refl _, (h0 i hi).2⟩, fun i b hi => by omega⟩
    exact ⟨x', ⟨h1.1, h1.2.1, fun i b hib => h1.2.2 i b (hAn i b hib).1 hib⟩, h2⟩
  -- all rounds
  have ra : ∀ (x0 : mg_F) (K : mg_F → mo), ex61 g x0 → (∀ i, i < n → x0 61 0 i = i) → ∃ x', (ex61 g x' ∧ LBL n A (x' 61 0)) ∧ L_X5_part_25 (fun _ g => K g) 4000 0 x0 = K x' := by
    intro x0 K hx0 h0
    obtain ⟨x', h1, h2⟩ := lp_ex (L := fun m x v => L_X5_part_25 (fun _ g => K g) m v x) (K := K) (I := fun r x => ex61 g x ∧ (∀ i, i < n → x 61 0 i ≤ i ∧ rch A i (x 61 0 i)) ∧ (∀ v, clo A (fun i => decide (i < n ∧ x 61 0 i ≤ v)) ∨ r + 1 ≤ cnt (fun i => decide (i < n ∧ x 61 0 i ≤ v)) n)) (N := n) (by
      intro m x r hr hI
      obtain ⟨i1, i2, i3⟩ := hI
      have e5 : x 5 0 0 = n := by rw [i1 5 0 0 (by omega)]; exact hn
      obtain ⟨x', ⟨j1, j2, j3⟩, e⟩ := rr x r (fun g => L_X5_part_25 (fun _ g => K g) m (r + 1) g) i1 i2
      refine ⟨x', ?_, j1, fun i hi => ⟨Nat.le_trans (j2 i hi).1 (i2 i hi).1, (j2 i hi).2⟩, fun v => ?_⟩
      · show L_X5_part_25 _ (m + 1) r x = _
        rw [L_X5_part_25, e5, if_pos ((sv_ltN (by omega) (by omega)).mpr hr), e]
      · refine grow (S := fun i => decide (i < n ∧ x 61 0 i ≤ v)) (fun a b h => (hAn a b h).2) (fun i hi => ?_) (fun a b hab ha => ?_) (fun hc i hi => ?_) (i3 v)
        · simp only [decide_eq_true_eq] at hi ⊢
          have := (j2 i hi.1).1
          omega
        · simp only [decide_eq_true_eq] at ha ⊢
          have hb := (hAn a b hab).2
          have := j3 b a (hsym a b hab)
          omega
        · have hi' : i < n ∧ x' 61 0 i ≤ v := by simpa using hi
          have q1 := (i2 i hi'.1).1
          have q2 := (j2 i hi'.1)
          have hl : x' 61 0 i < n := by omega
          have q3 := (i2 _ hl).1
          refine clo_rch hsym hc (rch_symm q2.2) ?_
          simp only [decide_eq_true_eq]
          omega) (by
      intro m x hI
      have e5 : x 5 0 0 = n := by rw [hI.1 5 0 0 (by omega)]; exact hn
      show L_X5_part_25 _ (m + 1) n x = _
      rw [L_X5_part_25, e5, if_neg (by omega)]) n 4000 x0 0 (by omega) (by omega) ⟨hx0, fun i hi => by rw [h0 i hi]; exact ⟨Nat.le_refl _, rch_refl⟩, fun v => Or.inr (cnt_pos (w := 0) hn0 (by
        simp only [decide_eq_true_eq]
        have := h0 0 hn0
        omega))⟩
    obtain ⟨j1, j2, j3⟩ := h1
    refine ⟨x', ⟨j1, j2, fun a b hab => ?_⟩, h2⟩
    have cl : ∀ v, clo A (fun i => decide (i < n ∧ x' 61 0 i ≤ v)) := fun v => by
      rcases j3 v with h | h
      · exact h
      · have := cnt_le (fun i => decide (i < n ∧ x' 61 0 i ≤ v)) n
        omega
    have ha := hAn a b hab
    have c1 := cl (x' 61 0 a) a b hab (by simp only [decide_eq_true_eq]; omega)
    have c2 := cl (x' 61 0 b) b a (hsym a b hab) (by simp only [decide_eq_true_eq]; omega)
    simp only [decide_eq_true_eq] at c1 c2
    omega
  -- the count
  have rc : ∀ (x : mg_F), ex61 g x → (∀ i, i < n → x 61 0 i ≤ i) → L_X5_part_125 (fun w _ g => some (w, g)) 4000 0 0 x = some (cnt (fun s => x 61 0 s == s) n, x) := by
    intro x hx hx2
    have e5 : x 5 0 0 = n := by rw [hx 5 0 0 (by omega)]; exact hn
    obtain ⟨y, h1, h2⟩ := lp_ex (L := fun m y v => L_X5_part_125 (fun w _ g => some (w, g)) m y v x) (K := fun y => some (y, x)) (I := fun v y => y = cnt (fun s => x 61 0 s == s) v) (N := n) (by
      intro m y v hv hI
      refine ⟨y + (if x 61 0 v = v then 1 else 0), ?_, ?_⟩
      · show L_X5_part_125 _ (m + 1) y v x = L_X5_part_125 _ m _ (v + 1) x
        have := hx2 v hv
        rw [L_X5_part_125, e5, if_pos ((sv_ltN (by omega) (by omega)).mpr hv), ck_t (by omega), jn_s]
        simp only [sv_eqN (a := x 61 0 v) (b := v) (by omega) (by omega)]
        by_cases c : x 61 0 v = v
        · rw [if_pos c, if_pos c]
        · rw [if_neg c, if_neg c]
      · rw [cnt, hI]
        by_cases c : x 61 0 v = v
        · rw [if_pos c, if_pos (by simpa using c)]
        · rw [if_neg c, if_neg (by simpa using c)]) (by
      intro m y hI
      show L_X5_part_125 _ (m + 1) y n x = _
      rw [L_X5_part_125, e5, if_neg (by omega)]) n 4000 0 0 (by omega) (by omega) rfl
    rw [h1] at h2
    exact h2
  obtain ⟨x0, ⟨k1, k2⟩, e0⟩ := lp_ex (L := fun m x v => L_X5_part_2 (fun _ g5 => L_X5_part_25 (fun _ g19 => L_X5_part_125 (fun w20 _ g22 => some (w20, g22)) 4000 0 0 g19) 4000 0 g5) m v x) (K := fun x => L_X5_part_25 (fun _ g19 => L_X5_part_125 (fun w20 _ g22 => some (w20, g22)) 4000 0 0 g19) 4000 0 x) (I := fun v x => ex61 g x ∧ ∀ i, i < v → x 61 0 i = i) (N := n) (by
    intro m x v hv hI
    have e5 : x 5 0 0 = n := by rw [hI.1 5 0 0 (by omega)]; exact hn
    refine ⟨mg_up x 61 0 v v, ?_, ex61_up hI.1 _ _ _, fun i hi => ?_⟩
    · show L_X5_part_2 _ (m + 1) v x = _
      rw [L_X5_part_2, e5, if_pos ((sv_ltN (by omega) (by omega)).mpr hv), ck_t (by omega), wr_s]
    · rw [ue]
      by_cases c : i = v
      · rw [if_pos ⟨rfl, rfl, c⟩, c]
      · rw [if_neg (fun q => c q.2.2)]; exact hI.2 i (by omega)) (by
    intro m x hI
    have e5 : x 5 0 0 = n := by rw [hI.1 5 0 0 (by omega)]; exact hn
    show L_X5_part_2 _ (m + 1) n x = _
    rw [L_X5_part_2, e5, if_neg (by omega)]) n 4000 g 0 (by omega) (by omega) ⟨fun k i j _ => rfl, fun i hi => by omega⟩
  obtain ⟨x1, ⟨k3, k4⟩, e1⟩ := ra x0 (fun g19 => L_X5_part_125 (fun w20 _ g22 => some (w20, g22)) 4000 0 0 g19) k1 k2
  refine ⟨x1, ?_, k3, k4⟩
  refine e0.trans (e1.trans ?_)
  exact rc x1 k3 (fun i hi => (k4.1 i hi).1)
