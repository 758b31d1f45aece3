/-! ===== links made and cut ===== -/
theorem sv_add1 {x y : Nat} (h : sv x = sv y) : sv (x + 1) = sv (y + 1) := by
  rw [sv_eq] at h ⊢
  rw [← nI_add, ← nI_add, h]
theorem sv_sub1 {x y : Nat} (h : sv x = sv y) : sv (sb x 1) = sv (y + 4294967295) := by
  rw [sv_eq] at h ⊢
  rw [← nI_sb, ← nI_add, h, Int32.sub_eq_add_neg]
  have : nI 4294967295 = - nI 1 := by decide +kernel
  rw [this]
def mjn (g : mg_F) (a b c x : Nat) : mg_F := mg_up (mg_up (mg_up g 35 0 (24 * a + b) c) 35 0 (24 * b + a) c) 5 0 4 (g 5 0 4 + x)
theorem m_j1 {a b : Nat} {g : mg_F} (ha : a < 24) (hb : b < 24) : P_X5_join2 a b 1 g = some (0, mjn g a b 1 1) := by
  unfold P_X5_join2 mjn
  have e1 : 24 * a + b < 576 := by omega
  have e2 : 24 * b + a < 576 := by omega
  rw [ck_t e1, ck_t (by omega), wr_s, ck_t e2, ck_t (by omega), wr_s, jn_s, if_neg sv10]
  rfl
theorem m_j0 {a b : Nat} {g : mg_F} (ha : a < 24) (hb : b < 24) : P_X5_join2 a b 0 g = some (0, mjn g a b 0 4294967295) := by
  unfold P_X5_join2 mjn
  have e1 : 24 * a + b < 576 := by omega
  have e2 : 24 * b + a < 576 := by omega
  rw [ck_t e1, ck_t (by omega), wr_s, ck_t e2, ck_t (by omega), wr_s, jn_s, if_pos sv_0]
  rfl
theorem mjn_35 {g : mg_F} {a b c x u v : Nat} (ha : a < 24) (hb : b < 24) (hv : v < 24) : mjn g a b c x 35 0 (24 * u + v) = if (u = a ∧ v = b) ∨ (u = b ∧ v = a) then c else g 35 0 (24 * u + v) := by
  unfold mjn
  rw [ue, if_neg (by omega), ue, ue]
  by_cases c1 : u = b ∧ v = a
  · rw [if_pos (show 35 = 35 ∧ 0 = 0 ∧ 24 * u + v = 24 * b + a from ⟨rfl, rfl, by rw [c1.1, c1.2]⟩), if_pos (Or.inr c1)]
  · rw [if_neg (show ¬ (35 = 35 ∧ 0 = 0 ∧ 24 * u + v = 24 * b + a) from fun q => c1 (way_inj hv ha q.2.2))]
    by_cases c2 : u = a ∧ v = b
    · rw [if_pos (show 35 = 35 ∧ 0 = 0 ∧ 24 * u + v = 24 * a + b from ⟨rfl, rfl, by rw [c2.1, c2.2]⟩), if_pos (Or.inl c2)]
    · rw [if_neg (show ¬ (35 = 35 ∧ 0 = 0 ∧ 24 * u + v = 24 * a + b) from fun q => c2 (way_inj hv hb q.2.2)), if_neg (fun q => q.elim c2 c1)]
theorem mjn_k {g : mg_F} {a b c x k i j : Nat} (hk : k ≠ 35) (hk5 : k ≠ 5 ∨ j ≠ 4) : mjn g a b c x k i j = g k i j := by
  unfold mjn
  simp only [ue]
  rw [if_neg (by omega), if_neg (by omega), if_neg (by omega)]
theorem tie_tb {g : mg_F} {a b x y : Nat} (hab : a ≠ b) : (tie g a b 10 0 x).testBit y = ((g 10 0 x).testBit y || decide ((x = a ∧ y = b) ∨ (x = b ∧ y = a))) := by
  unfold tie
  simp only [ue]
  by_cases c1 : x = b
  · subst c1
    have e1 : ¬ x = a := fun q => hab q.symm
    simp [e1, Nat.testBit_or, Nat.testBit_two_pow]
    by_cases c : y = a
    · subst c; simp
    · have : ¬ a = y := fun q => c q.symm
      simp [c, this]
  · by_cases c2 : x = a
    · subst c2
      simp [c1, Nat.testBit_or, Nat.testBit_two_pow]
      by_cases c : y = b
      · subst c; simp
      · have : ¬ b = y := fun q => c q.symm
        simp [c, this]
    · simp [c1, c2]
theorem tie_lt {g : mg_F} {a b x : Nat} (ha : a < 24) (hb : b < 24) (h : ∀ x, x < 24 → g 10 0 x < 16777216) (hx : x < 24) : tie g a b 10 0 x < 16777216 := by
  have p : ∀ z, z < 24 → (2 : Nat) ^ z < 2 ^ 24 := fun z hz => Nat.pow_lt_pow_right (by omega) hz
  have o : ∀ y z, y < 16777216 → z < 24 → y ||| 2 ^ z < 16777216 := fun y z hy hz => by
    have := Nat.or_lt_two_pow (n := 24) (x := y) (y := 2 ^ z) (by simpa using hy) (p z hz)
    simpa using this
  unfold tie
  simp only [ue]
  rw [if_neg (by omega)]
  split
  · split
    · exact o _ _ (o _ _ (h a ha) hb) ha
    · exact o _ _ (h b hb) ha
  · split
    · exact o _ _ (h a ha) hb
    · exact h x hx
theorem untie_tb {g : mg_F} {a b x y : Nat} (hab : a ≠ b) (hy : y < 32) : (untie g a b 10 0 x).testBit y = ((g 10 0 x).testBit y && !decide ((x = a ∧ y = b) ∨ (x = b ∧ y = a))) := by
  have f : ∀ z w : Nat, (w &&& (2 ^ z ^^^ 4294967295)).testBit y = (w.testBit y && !decide (y = z)) := fun z w => by
    have : (4294967295 : Nat) = 2 ^ 32 - 1 := by decide
    rw [Nat.testBit_and, Nat.testBit_xor, Nat.testBit_two_pow, this, Nat.testBit_two_pow_sub_one]
    by_cases c : y = z
    · subst c; simp [hy]
    · have : ¬ z = y := fun q => c q.symm
      simp [c, this, hy]
  unfold untie
  simp only [ue]
  by_cases c1 : x = b
  · subst c1
    have e1 : ¬ x = a := fun q => hab q.symm
    simp [e1, f]
  · by_cases c2 : x = a
    · subst c2
      simp [c1, f]
    · simp [c1, c2]
theorem untie_lt {g : mg_F} {a b x : Nat} (h : ∀ x, x < 24 → g 10 0 x < 16777216) (ha : a < 24) (hb : b < 24) (hx : x < 24) : untie g a b 10 0 x < 16777216 := by
  have o : ∀ y z : Nat, y < 16777216 → y &&& z < 16777216 := fun y z hy => Nat.lt_of_le_of_lt Nat.and_le_left hy
  unfold untie
  simp only [ue]
  rw [if_neg (by omega)]
  split
  · split
    · exact o _ _ (o _ _ (h a ha))
    · exact o _ _ (h b hb)
  · split
    · exact o _ _ (h a ha)
    · exact h x hx
section CUT
variable {B : mg_F × mg_F} {N : Nat} {gc gm : mg_F}
theorem k_tie {a b : Nat} (h1 : sFR B gc gm) (h2 : sG gc gm) (h3 : sK gc gm) (ha : a < gm 5 0 0) (hb : b < gm 5 0 0) (hab : a ≠ b) : sFR B (tie gc a b) (mjn gm a b 1 1) ∧ sG (tie gc a b) (mjn gm a b 1 1) ∧ sK (tie gc a b) (mjn gm a b 1 1) := by
  obtain ⟨g1, g2, g3, g4, g5, g6⟩ := h2
  obtain ⟨k1, k2, k3⟩ := h3
  refine ⟨?_, ⟨g1, g2, g3, g4, g5, sv_add1 g6⟩, fun u v hu hv => ?_, fun u hu => tie_lt (by omega) (by omega) k2 hu, fun u v hu hv q => ?_⟩
  · exact sFR_m (sFR_m (sFR_m (sFR_c (sFR_c (sFR_c h1 (by omega)) (by omega)) (by omega)) (by omega)) (by omega)) (by omega)
  · rw [mjn_35 (by omega) (by omega) hv, tie_tb hab, k1 u v hu hv]
    by_cases c : (u = a ∧ v = b) ∨ (u = b ∧ v = a)
    · rw [if_pos c]; simp [c]
    · rw [if_neg c]; simp [c]
  · rw [mjn_35 (by omega) (by omega) hv] at q
    rw [mjn_35 (by omega) (by omega) hu]
    show _ ∧ _ ∧ u < gm 5 0 0 ∧ v < gm 5 0 0
    by_cases c : (u = a ∧ v = b) ∨ (u = b ∧ v = a)
    · rw [if_pos (by omega)]; exact ⟨rfl, by omega, by omega, by omega⟩
    · rw [if_neg c] at q
      rw [if_neg (by omega)]
      exact k3 u v hu hv q
theorem p_tie {a b : Nat} (h : sA B gc gm) (ha : a < gm 5 0 0) (hb : b < gm 5 0 0) (hab : a ≠ b) : sA B (tie gc a b) (mjn gm a b 1 1) := by
  obtain ⟨h0, hG, hK, hH, hF, hQ, hN, hL, hC⟩ := h
  obtain ⟨k1, k2, k3⟩ := k_tie h0 hG hK ha hb hab
  exact ⟨k1, k2, k3, hH, hF, hQ, hN, hL, hC⟩
theorem p_untie {a b : Nat} (h : sA B gc gm) (ha : a < gm 5 0 0) (hb : b < gm 5 0 0) (hab : a ≠ b) : sA B (untie gc a b) (mjn gm a b 0 4294967295) := by
  obtain ⟨h0, hG, hK, hH, hF, hQ, hN, hL, hC⟩ := h
  obtain ⟨g1, g2, g3, g4, g5, g6⟩ := hG
  obtain ⟨k1, k2, k3⟩ := hK
  refine ⟨?_, ⟨g1, g2, g3, g4, g5, sv_sub1 g6⟩, ⟨fun u v hu hv => ?_, fun u hu => untie_lt k2 (by omega) (by omega) hu, fun u v hu hv q => ?_⟩, hH, hF, hQ, hN, hL, hC⟩
  · exact sFR_m (sFR_m (sFR_m (sFR_c (sFR_c (sFR_c h0 (by omega)) (by omega)) (by omega)) (by omega)) (by omega)) (by omega)
  · rw [mjn_35 (by omega) (by omega) hv, untie_tb hab (by omega), k1 u v hu hv]
    by_cases c : (u = a ∧ v = b) ∨ (u = b ∧ v = a)
    · rw [if_pos c]; simp [c]
    · rw [if_neg c]; simp [c]
  · rw [mjn_35 (by omega) (by omega) hv] at q
    rw [mjn_35 (by omega) (by omega) hu]
    by_cases c : (u = a ∧ v = b) ∨ (u = b ∧ v = a)
    · rw [if_pos c] at q; omega
    · rw [if_neg c] at q
      rw [if_neg (by omega)]
      exact k3 u v hu hv q
theorem q_forget {i a : Nat} {g : mg_F} (ha : a < 24) (hp : g 3 i 2 < 4294967296) : P_X3_forget i a g = some (0, mg_up g 3 i 2 (if g 3 i 2 = a then 4294967294 else g 3 i 2)) := by
  unfold P_X3_forget
  by_cases c : g 3 i 2 = a
  · rw [if_pos (by rw [c]), if_pos c, wr_s]
  · rw [if_neg (by rw [sv_eqN hp (by omega)]; exact c), if_neg c, up_same]
theorem m_cut81 {a b w1 w2 x : Nat} (hx : x < 2) (h : sA B gc gm) (h1 : w1 < 576) (h2 : w2 < 576) (k : Nat → Nat → mg_F → mo) : ∃ y, y < 2 ∧ (y = 0 ↔ (x = 0 ∧ ∀ i, i < gm 5 0 26 → gm 57 0 i ≠ w1 ∧ gm 57 0 i ≠ w2)) ∧ L_X5_cut_81 a b w1 w2 k 4000 x 0 gm = k y (gm 5 0 26) gm := by
  obtain ⟨m1, m2, m3, m4⟩ := ml h
  obtain ⟨y, ⟨e1, e2⟩, e3⟩ := lp_ex (L := fun n y v => L_X5_cut_81 a b w1 w2 k n y v gm) (K := fun y => k y (gm 5 0 26) gm) (I := fun v y => y < 2 ∧ (y = 0 ↔ (x = 0 ∧ ∀ i, i < v → gm 57 0 i ≠ w1 ∧ gm 57 0 i ≠ w2))) (N := gm 5 0 26) (by
    intro n y v hv hI
    have hw := m4 v hv
    obtain ⟨i1, i2⟩ := hI
    have ext : ∀ P : Prop, (P ↔ (gm 57 0 v ≠ w1 ∧ gm 57 0 v ≠ w2)) → ((x = 0 ∧ ∀ i, i < v + 1 → gm 57 0 i ≠ w1 ∧ gm 57 0 i ≠ w2) ↔ (y = 0 ∧ P)) := by
      intro P hP
      constructor
      · intro q
        exact ⟨i2.mpr ⟨q.1, fun i hi => q.2 i (by omega)⟩, hP.mpr (q.2 v (by omega))⟩
      · intro q
        have q1 := i2.mp q.1
        refine ⟨q1.1, fun i hi => ?_⟩
        by_cases ci : i = v
        · rw [ci]; exact hP.mp q.2
        · exact q1.2 i (by omega)
    by_cases c0 : y = 0
    · by_cases c1 : gm 57 0 v = w1
      · refine ⟨1, ?_, by omega, ?_⟩
        · show L_X5_cut_81 a b w1 w2 k (n + 1) y v gm = _
          rw [L_X5_cut_81, if_pos ((sv_ltN (by omega) (by omega)).mpr hv), jn_s, if_pos (by rw [c0, sv_0]), ck_t (by omega), if_pos (by rw [c1])]
        · rw [ext False ⟨fun q => q.elim, fun q => q.1 c1⟩]
          exact ⟨fun q => by omega, fun q => q.2.elim⟩
      · by_cases c2 : gm 57 0 v = w2
        · refine ⟨1, ?_, by omega, ?_⟩
          · show L_X5_cut_81 a b w1 w2 k (n + 1) y v gm = _
            rw [L_X5_cut_81, if_pos ((sv_ltN (by omega) (by omega)).mpr hv), jn_s, if_pos (by rw [c0, sv_0]), ck_t (by omega), if_neg (by rw [sv_eqN (by omega) (by omega)]; exact c1), ck_t (by omega), if_pos (by rw [c2])]
          · rw [ext False ⟨fun q => q.elim, fun q => q.2 c2⟩]
            exact ⟨fun q => by omega, fun q => q.2.elim⟩
        · refine ⟨0, ?_, by omega, ?_⟩
          · show L_X5_cut_81 a b w1 w2 k (n + 1) y v gm = _
            rw [L_X5_cut_81, if_pos ((sv_ltN (by omega) (by omega)).mpr hv), jn_s, if_pos (by rw [c0, sv_0]), ck_t (by omega), if_neg (by rw [sv_eqN (by omega) (by omega)]; exact c1), ck_t (by omega), if_neg (by rw [sv_eqN (by omega) (by omega)]; exact c2)]
          · rw [ext True ⟨fun _ => ⟨c1, c2⟩, fun _ => trivial⟩]
            exact ⟨fun _ => ⟨c0, trivial⟩, fun _ => rfl⟩
    · refine ⟨1, ?_, by omega, ?_⟩
      · show L_X5_cut_81 a b w1 w2 k (n + 1) y v gm = _
        rw [L_X5_cut_81, if_pos ((sv_ltN (by omega) (by omega)).mpr hv), jn_s, if_neg (by rw [sv_eq0N (by omega)]; exact c0)]
      · rw [ext (gm 57 0 v ≠ w1 ∧ gm 57 0 v ≠ w2) Iff.rfl]
        exact ⟨fun q => by omega, fun q => absurd q.1 c0⟩) (by
    intro n y hI
    show L_X5_cut_81 a b w1 w2 k (n + 1) y (gm 5 0 26) gm = _
    rw [L_X5_cut_81, if_neg (by omega)]) (gm 5 0 26) 4000 x 0 (by omega) (by omega) ⟨hx, ⟨fun q => ⟨q, fun i hi => by omega⟩, fun q => q.1⟩⟩
  exact ⟨y, e1, e2, e3⟩
theorem fs_no {p : Nat → Bool} {n : Nat} : fs p n 0 = 4294967294 → n ≤ 4294967294 → ∀ i, i < n → p i = false := by
  intro h hn i hi
  rcases fs_spec p n 0 with ⟨_, f⟩ | ⟨_, f, _⟩
  · exact f i (by omega) (by omega)
  · omega
/-- the reference's numbers after a cut -/
theorem IV_cut {a b : Nat} {lo : Nat → Nat} {gm' : mg_F} (hn : gm 5 0 0 < 25) (ha : a < gm 5 0 0) (hb : b < gm 5 0 0) (hab : a ≠ b) (hq : ∀ t i, t < gm 5 0 0 → i < gm 46 0 t → gm 47 0 (24 * t + i) < gm 5 0 0) (h : IV N lo gm)
    (n1 : ∀ k, k < gm 5 0 21 → gm 52 0 k ≠ 24 * a + b ∧ gm 52 0 k ≠ 24 * b + a) (n2 : ∀ k, k < gm 5 0 26 → gm 57 0 k ≠ 24 * a + b ∧ gm 57 0 k ≠ 24 * b + a) (n3 : ∀ i, i < gm 46 0 a → gm 47 0 (24 * a + i) ≠ b) (n4 : ∀ i, i < gm 46 0 b → gm 47 0 (24 * b + i) ≠ a)
    (e35 : ∀ u v, v < 24 → gm' 35 0 (24 * u + v) = if (u = a ∧ v = b) ∨ (u = b ∧ v = a) then 0 else gm 35 0 (24 * u + v)) (e36 : ∀ x, gm' 36 0 x = if x = a ∧ gm 36 0 x = b then 4294967294 else if x = b ∧ gm 36 0 x = a then 4294967294 else gm 36 0 x) (ee : ∀ k i j, k ≠ 35 → k ≠ 36 → (k ≠ 5 ∨ j ≠ 4) → gm' k i j = gm k i j) : IV N lo gm' := by
  obtain ⟨h0, hQ, hP, hM, hL, hN, hO, hC, hR⟩ := h
  have f0 : gm' 5 0 0 = gm 5 0 0 := ee 5 0 0 (by omega) (by omega) (by omega)
  have f21 : gm' 5 0 21 = gm 5 0 21 := ee 5 0 21 (by omega) (by omega) (by omega)
  have f26 : gm' 5 0 26 = gm 5 0 26 := ee 5 0 26 (by omega) (by omega) (by omega)
  have ff : ∀ k j, k ≠ 35 → k ≠ 36 → k ≠ 5 → gm' k 0 j = gm k 0 j := fun k j h1 h2 h3 => ee k 0 j h1 h2 (Or.inl h3)
  have w35 : ∀ w, w < 576 → w ≠ 24 * a + b → w ≠ 24 * b + a → gm' 35 0 w = gm 35 0 w := fun w hw h1 h2 => by
    have e := e35 (w / 24) (w % 24) (by omega)
    have ew : 24 * (w / 24) + w % 24 = w := by omega
    rw [ew] at e
    rw [e, if_neg (by omega)]
  have hu : ∀ k, unt gm' k ↔ unt gm k := fun k => by unfold unt; rw [ff 53 k (by omega) (by omega) (by omega), ff 52 k (by omega) (by omega) (by omega), ff 55 k (by omega) (by omega) (by omega), ff 50 _ (by omega) (by omega) (by omega)]
  refine ⟨⟨by rw [f21]; exact h0.1, fun s hs => by rw [f0] at hs; rw [ff 40 s (by omega) (by omega) (by omega)]; exact h0.2 s hs⟩, fun s i hs hi => ?_, fun s hs => ?_, fun s hs hp => ?_, fun k hk => ?_, fun w hw => ?_, fun i j hij hj e => ?_, fun k hk => ?_, ?_⟩
  · rw [f0] at hs
    rw [ff 46 s (by omega) (by omega) (by omega)] at hi
    rw [ff 47 _ (by omega) (by omega) (by omega)]
    have hx := hq s i hs hi
    rcases hQ s i hs hi with q | q
    · left; exact q
    · right
      rw [e35 s _ (by omega), if_neg]
      · exact q
      · intro c
        rcases c with ⟨c1, c2⟩ | ⟨c1, c2⟩
        · subst c1; exact n3 i hi c2
        · subst c1; exact n4 i hi c2
  · rw [f0] at hs
    rw [e36]
    by_cases c1 : s = a ∧ gm 36 0 s = b
    · rw [if_pos c1]; left; rfl
    · rw [if_neg c1]
      by_cases c2 : s = b ∧ gm 36 0 s = a
      · rw [if_pos c2]; left; rfl
      · rw [if_neg c2]
        rcases hP s hs with q | q | q
        · left; exact q
        · right; left; exact q
        · right; right; refine ⟨q.1, ?_⟩
          rw [e35 s _ q.1, if_neg (by omega)]; exact q.2
  · rw [f0] at hs
    rw [ff 38 s (by omega) (by omega) (by omega)] at hp
    have := hM s hs hp
    rw [e36, if_neg (by omega), if_neg (by omega)]; exact this
  · rw [f21] at hk
    obtain ⟨l1, l2, l3⟩ := hL k hk
    have := n1 k hk
    rw [ff 52 k (by omega) (by omega) (by omega), ff 53 k (by omega) (by omega) (by omega), w35 _ l1 this.1 this.2]
    exact ⟨l1, l2, l3⟩
  · obtain ⟨a1, a2, a3, a4, a5⟩ := hN w hw
    rw [ff 50 w (by omega) (by omega) (by omega), ff 49 w (by omega) (by omega) (by omega), f21]
    refine ⟨a1, a2, a3, a4, fun x => ?_⟩
    rw [a5 x]
    constructor
    · intro ⟨k, k1, k2, k3⟩
      exact ⟨k, k1, by rw [ff 52 k (by omega) (by omega) (by omega)]; exact k2, by rw [ff 55 k (by omega) (by omega) (by omega)]; exact k3⟩
    · intro ⟨k, k1, k2, k3⟩
      rw [ff 52 k (by omega) (by omega) (by omega)] at k2
      rw [ff 55 k (by omega) (by omega) (by omega)] at k3
      exact ⟨k, k1, k2, k3⟩
  · rw [f21] at hj
    rw [ff 52 i (by omega) (by omega) (by omega), ff 52 j (by omega) (by omega) (by omega)] at e
    rw [ff 55 i (by omega) (by omega) (by omega), ff 55 j (by omega) (by omega) (by omega)]
    exact hO i j hij hj e
  · rw [f26] at hk
    obtain ⟨c0, c1, c2, c3⟩ := hC k hk
    have := n2 k hk
    rw [ff 57 k (by omega) (by omega) (by omega), ff 58 k (by omega) (by omega) (by omega), ff 60 k (by omega) (by omega) (by omega)]
    refine ⟨c0, by rw [w35 _ c0 this.1 this.2]; exact c1, fun q => by rw [ff 50 _ (by omega) (by omega) (by omega)]; exact c2 q, fun q => ⟨(c3 q).1, fun q2 => ?_⟩⟩
    rw [ff 50 _ (by omega) (by omega) (by omega)] at q2
    obtain ⟨l, l1, l2, l3, l4⟩ := (c3 q).2 q2
    exact ⟨l, by rw [f21]; exact l1, by rw [ff 52 l (by omega) (by omega) (by omega)]; exact l2, by rw [ff 55 l (by omega) (by omega) (by omega)]; exact l3, by rw [ff 53 l (by omega) (by omega) (by omega)]; exact l4⟩
  · obtain ⟨s, d, r1, r2, r3⟩ := hR
    have hps : gm' 36 0 s = gm 36 0 s := by
      rw [e36]
      rcases r3 with ⟨q1, _⟩ | ⟨_, q2, k, q3, q4, q5, _⟩
      · rw [if_neg (by omega), if_neg (by omega)]
      · have := n1 k q3
        rw [if_neg (fun c => this.1 (by rw [q5, c.2, c.1])), if_neg (fun c => this.2 (by rw [q5, c.2, c.1]))]
    refine ⟨s, d, by rw [f0]; exact r1, fun x hx hx2 hx3 => ?_, ?_⟩
    · rw [f0] at hx
      rw [e36] at hx2 ⊢
      by_cases c1 : x = a ∧ gm 36 0 x = b
      · rw [if_pos c1] at hx2; exact absurd rfl hx2
      · rw [if_neg c1] at hx2 ⊢
        by_cases c2 : x = b ∧ gm 36 0 x = a
        · rw [if_pos c2] at hx2; exact absurd rfl hx2
        · rw [if_neg c2] at hx2 ⊢
          exact r2 x hx hx2 hx3
    · rw [hps]
      rcases r3 with ⟨q1, q2⟩ | ⟨q1, q2, k, q3, q4, q5, q6⟩
      · left; exact ⟨q1, fun k hk => by rw [f21] at hk; rw [hu]; exact q2 k hk⟩
      · right; exact ⟨q1, q2, k, by rw [f21]; exact q3, (hu k).mpr q4, by rw [ff 52 k (by omega) (by omega) (by omega)]; exact q5, fun k' hk' hu' => by rw [f21] at hk'; exact q6 k' hk' ((hu k').mp hu')⟩
theorem s_cut {a b : Nat} (h : TT B N gc gm) (ha : a < 4294967296) (hb : b < 4294967296) : SM B (N + 2) (P_X4_cut a b gc) (P_X5_cut a b gm) := by
  obtain ⟨g1, g2, g3, g4, g5, g6⟩ := h.2.1
  by_cases ho : gm 5 0 1 = 1
  · have n0 : ¬ sv (gm 5 0 1) = 0 := cl_o ho rfl
    by_cases hs : a < gm 5 0 0
    · have hos : gm 5 0 1 = 1 ∧ a < gm 5 0 0 := ⟨ho, hs⟩
      by_cases ht : b < gm 5 0 0
      · have hot : gm 5 0 1 = 1 ∧ b < gm 5 0 0 := ⟨ho, ht⟩
        obtain ⟨hA, lo, hI⟩ := h.2.2.2.1 ho
        have a24 : a < 24 := by omega
        have b24 : b < 24 := by omega
        have w1 : 24 * a + b < 576 := by omega
        have w2 : 24 * b + a < 576 := by omega
        obtain ⟨k1, k2, k3⟩ := hA.2.2.1
        have hN10 := k2 a a24
        have hl := k1 a b a24 b24
        by_cases c : (gc 10 0 a).testBit b = true
        · rw [if_pos c] at hl
          have nl : ¬ sv (gm 35 0 (24 * a + b)) = 0 := by rw [hl]; exact sv10
          obtain ⟨y1, y2, y3, y4⟩ := k3 a b a24 b24 hl
          obtain ⟨l1, l2, l3, l4⟩ := al hA
          obtain ⟨m1, m2, m3, m4⟩ := ml hA
          have hL := hA.2.2.2.2.2.2.2.1
          have hC := hA.2.2.2.2.2.2.2.2
          have pf1 := p_fs (a := a) b24 hA
          have pf2 := p_fs (a := b) a24 hA
          have fl1 := m_fl (w := 24 * a + b) m1 (by omega) m3
          have fl2 := m_fl (w := 24 * b + a) m1 (by omega) m3
          have fp1 := fs_spec (fun i => gm 52 0 i == 24 * a + b) (gm 5 0 21) 0
          have fp2 := fs_spec (fun i => gm 52 0 i == 24 * b + a) (gm 5 0 21) 0
          have qh0 : P_X1_hasBetween 0 a b gc = some (if fs (fun i => gm 52 0 i == 24 * a + b) (gm 5 0 21) 0 = 4294967294 ∧ fs (fun i => gm 52 0 i == 24 * b + a) (gm 5 0 21) 0 = 4294967294 then 0 else 1, gc) := by
            rw [q_hb (q := 0) l1 (by omega) (by omega) l3, pf1, pf2]
          have ec0 : ∀ o, (bd (P_X1_hasBetween 0 a b gc) fun r10 g11 => if sv r10 = 0 then (bd (P_X1_hasBetween 1 a b g11) fun r13 g14 => if sv r13 = 0 then (ck (a < 24) <| bd (P_X2_placeOf a b g14) fun r17 g18 => if sv r17 = sv 4294967294 then (ck (b < 24) <| bd (P_X2_placeOf b a g18) fun r21 g22 => if sv r21 = sv 4294967294 then (bd (P_X0_untie a b g22) fun _ g25 => bd (P_X3_forget a b g25) fun _ g27 => bd (P_X3_forget b a g27) fun _ g29 => some (0, g29)) else (some (4294967292, g22))) else (some (4294967292, g18))) else (some (4294967293, g14))) else (some (4294967293, g11))) = o → P_X4_cut a b gc = o := by
            intro o e
            unfold P_X4_cut
            rw [st_c h ha, bd_s, if_pos hos, if_neg sv10, st_c h hb, bd_s, if_pos hot, if_neg sv10, q_lkd a24 b24 (by omega), bd_s, if_pos c, if_neg sv10]
            exact e
          have em0 : ∀ x, x < 2 → (x = 0 ↔ (fs (fun i => gm 52 0 i == 24 * a + b) (gm 5 0 21) 0 = 4294967294 ∧ fs (fun i => gm 52 0 i == 24 * b + a) (gm 5 0 21) 0 = 4294967294)) → P_X5_cut a b gm = L_X5_cut_81 a b (24 * a + b) (24 * b + a) (fun w17 w18 g19 => if sv w17 = 0 then (bd (P_X5_placeOf a b g19) fun r21 g22 => if sv r21 < 0 then (bd (P_X5_placeOf b a g22) fun r24 g25 => if sv r24 < 0 then (bd (P_X5_join2 a b 0 g25) fun _ g28 => ck (a < 24) <| jn (α := Nat) (fun x33 g34 => wr (mg_up g34 36 0 a x33) fun g35 => ck (b < 24) <| jn (α := Nat) (fun x40 g41 => wr (mg_up g41 36 0 b x40) fun g42 => some (0, g42)) fun kj38 => if sv (g35 36 0 b) = sv a then (kj38 4294967294 g35) else (kj38 (g35 36 0 b) g35)) fun kj31 => if sv (g28 36 0 a) = sv b then (kj31 4294967294 g28) else (kj31 (g28 36 0 a) g28)) else (some (4294967292, g25))) else (some (4294967292, g22))) else (some (4294967293, g19))) 4000 x 0 gm := by
            intro x hx hx2
            unfold P_X5_cut
            rw [if_neg n0, st_m h ha, bd_s, if_pos hs, if_neg sv10, st_m h hb, bd_s, if_pos ht, if_neg sv10, ck_t w1, if_neg nl, fl1, bd_s, jn_s]
            by_cases f1 : fs (fun i => gm 52 0 i == 24 * a + b) (gm 5 0 21) 0 = 4294967294
            · rw [f1, if_pos (by decide +kernel), fl2, bd_s]
              by_cases f2 : fs (fun i => gm 52 0 i == 24 * b + a) (gm 5 0 21) 0 = 4294967294
              · rw [f2, if_pos (by decide +kernel)]
                rw [show x = 0 from hx2.mpr ⟨f1, f2⟩]
              · have e : fm (fs (fun i => gm 52 0 i == 24 * b + a) (gm 5 0 21) 0) = fs (fun i => gm 52 0 i == 24 * b + a) (gm 5 0 21) 0 := by unfold fm; rw [if_neg f2]
                have x1 : x = 1 := by
                  have : x ≠ 0 := fun q => f2 (hx2.mp q).2
                  omega
                rw [e, if_neg (by rw [sv_lt0N (by omega)]; omega), x1]
            · have e : fm (fs (fun i => gm 52 0 i == 24 * a + b) (gm 5 0 21) 0) = fs (fun i => gm 52 0 i == 24 * a + b) (gm 5 0 21) 0 := by unfold fm; rw [if_neg f1]
              have x1 : x = 1 := by
                have : x ≠ 0 := fun q => f1 (hx2.mp q).1
                omega
              rw [e, if_neg (by rw [sv_lt0N (by omega)]; omega), x1]
          by_cases hl0 : fs (fun i => gm 52 0 i == 24 * a + b) (gm 5 0 21) 0 = 4294967294 ∧ fs (fun i => gm 52 0 i == 24 * b + a) (gm 5 0 21) 0 = 4294967294
          · have em1 := em0 0 (by omega) ⟨fun _ => hl0, fun _ => rfl⟩
            obtain ⟨y, z1, z2, z3⟩ := m_cut81 (a := a) (b := b) (x := 0) (by omega) hA w1 w2 (fun w17 w18 g19 => if sv w17 = 0 then (bd (P_X5_placeOf a b g19) fun r21 g22 => if sv r21 < 0 then (bd (P_X5_placeOf b a g22) fun r24 g25 => if sv r24 < 0 then (bd (P_X5_join2 a b 0 g25) fun _ g28 => ck (a < 24) <| jn (α := Nat) (fun x33 g34 => wr (mg_up g34 36 0 a x33) fun g35 => ck (b < 24) <| jn (α := Nat) (fun x40 g41 => wr (mg_up g41 36 0 b x40) fun g42 => some (0, g42)) fun kj38 => if sv (g35 36 0 b) = sv a then (kj38 4294967294 g35) else (kj38 (g35 36 0 b) g35)) fun kj31 => if sv (g28 36 0 a) = sv b then (kj31 4294967294 g28) else (kj31 (g28 36 0 a) g28)) else (some (4294967292, g25))) else (some (4294967292, g22))) else (some (4294967293, g19)))
            rw [z3] at em1
            -- copies in the class
            have qh1 := q_hb (q := 1) (a := a) (b := b) l2 (by omega) (by omega) l4
            have hcc : (fs (fun i => gc 12 1 i == a && gc 13 1 i == b) (gc 1 1 5) 0 = 4294967294 ∧ fs (fun i => gc 12 1 i == b && gc 13 1 i == a) (gc 1 1 5) 0 = 4294967294) ↔ y = 0 := by
              rw [z2]
              constructor
              · intro q
                refine ⟨rfl, fun i hi => ?_⟩
                obtain ⟨_, x2, x3, x4, _⟩ := hC.2.2 i hi
                have q1 := fs_no q.1 (by omega) i (by rw [hC.1]; exact hi)
                have q2 := fs_no q.2 (by omega) i (by rw [hC.1]; exact hi)
                constructor
                · intro e
                  obtain ⟨e1, e2⟩ := way_inj x4 b24 (x2.symm.trans e)
                  simp [e1, e2] at q1
                · intro e
                  obtain ⟨e1, e2⟩ := way_inj x4 a24 (x2.symm.trans e)
                  simp [e1, e2] at q2
              · intro q
                constructor
                · refine fs_none (fun i hi => ?_)
                  rw [hC.1] at hi
                  obtain ⟨_, x2, x3, x4, _⟩ := hC.2.2 i hi
                  have q1 := (q.2 i hi).1
                  apply Classical.byContradiction
                  intro e
                  simp at e
                  exact q1 (by rw [x2, e.1, e.2])
                · refine fs_none (fun i hi => ?_)
                  rw [hC.1] at hi
                  obtain ⟨_, x2, x3, x4, _⟩ := hC.2.2 i hi
                  have q1 := (q.2 i hi).2
                  apply Classical.byContradiction
                  intro e
                  simp at e
                  exact q1 (by rw [x2, e.1, e.2])
            by_cases cy : y = 0
            · obtain ⟨ca1, ca2, ca3, ca4⟩ := aq hA hs
              obtain ⟨cb1, cb2, cb3, cb4⟩ := aq hA ht
              obtain ⟨ma1, ma2, ma3, ma4, ma5⟩ := mq hA hs
              obtain ⟨mb1, mb2, mb3, mb4, mb5⟩ := mq hA ht
              have pa := p_qfs (a := b) hs hA
              have pb := p_qfs (a := a) ht hA
              have sa := fs_spec (fun i => gm 47 0 (24 * a + i) == b) (gm 46 0 a) 0
              have sb' := fs_spec (fun i => gm 47 0 (24 * b + i) == a) (gm 46 0 b) 0
              have qpa := q_pl (q := a) (a := b) ca1 (by omega) ca2
              have qpb := q_pl (q := b) (a := a) cb1 (by omega) cb2
              have mpa := m_pl (s := a) (a := b) a24 ma1 (by omega) ma2 ma3
              have mpb := m_pl (s := b) (a := a) b24 mb1 (by omega) mb2 mb3
              rw [pa] at qpa
              rw [pb] at qpb
              rw [cy, if_pos sv_0, mpa, bd_s] at em1
              have ec1 := fun o e => ec0 o (by
                rw [qh0, bd_s, if_pos hl0, if_pos sv_0, qh1, bd_s, if_pos (hcc.mpr cy), if_pos sv_0, ck_t a24, qpa, bd_s]
                exact e)
              by_cases fa : fs (fun i => gm 47 0 (24 * a + i) == b) (gm 46 0 a) 0 = 4294967294
              · rw [fa] at ec1 em1
                rw [if_pos (by decide +kernel), mpb, bd_s] at em1
                by_cases fb : fs (fun i => gm 47 0 (24 * b + i) == a) (gm 46 0 b) 0 = 4294967294
                · rw [fb, if_pos (by decide +kernel), m_j0 a24 b24, bd_s, ck_t a24, jn_s] at em1
                  have hFa := hA.2.2.2.2.1 a hs
                  have hFb := hA.2.2.2.2.1 b ht
                  have sA1 := p_untie hA hs ht y2
                  have va : (if gm 36 0 a = b then 4294967294 else gm 36 0 a) < gm 5 0 0 ∨ (if gm 36 0 a = b then 4294967294 else gm 36 0 a) = 4294967294 := by
                    split
                    · right; rfl
                    · omega
                  have vb : (if gm 36 0 b = a then 4294967294 else gm 36 0 b) < gm 5 0 0 ∨ (if gm 36 0 b = a then 4294967294 else gm 36 0 b) = 4294967294 := by
                    split
                    · right; rfl
                    · omega
                  have sA2 := p_f2 (s := a) (v := if gm 36 0 a = b then 4294967294 else gm 36 0 a) sA1 va
                  have sA3 := p_f2 (s := b) (v := if gm 36 0 b = a then 4294967294 else gm 36 0 b) sA2 vb
                  have cua : untie gc a b 3 a 2 = gm 36 0 a := by rw [← hFa.1]; rfl
                  have cub : ∀ v, mg_up (untie gc a b) 3 a 2 v 3 b 2 = gm 36 0 b := fun v => by rw [ue, if_neg (by omega), ← hFb.1]; rfl
                  have ec2 : P_X4_cut a b gc = some (0, mg_up (mg_up (untie gc a b) 3 a 2 (if gm 36 0 a = b then 4294967294 else gm 36 0 a)) 3 b 2 (if gm 36 0 b = a then 4294967294 else gm 36 0 b)) := by
                    refine ec1 _ ?_
                    rw [if_pos rfl, ck_t b24, qpb, bd_s, fb, if_pos rfl, q_untie a24 b24, bd_s, q_forget b24 (by rw [cua]; omega), bd_s, cua, q_forget a24 (by rw [cub]; omega), bd_s, cub]
                  have em2 : P_X5_cut a b gm = some (0, mg_up (mg_up (mjn gm a b 0 4294967295) 36 0 a (if gm 36 0 a = b then 4294967294 else gm 36 0 a)) 36 0 b (if gm 36 0 b = a then 4294967294 else gm 36 0 b)) := by
                    rw [em1]
                    have e1 : mjn gm a b 0 4294967295 36 0 a = gm 36 0 a := rfl
                    have e2 : ∀ v, mg_up (mjn gm a b 0 4294967295) 36 0 a v 36 0 b = gm 36 0 b := fun v => by rw [ue, if_neg (by omega)]; rfl
                    have t2 : ∀ v : Nat, (jn (α := Nat) (fun x40 g41 => wr (mg_up g41 36 0 b x40) fun g42 => some (0, g42)) fun kj38 => if sv (mg_up (mjn gm a b 0 4294967295) 36 0 a v 36 0 b) = sv a then (kj38 4294967294 (mg_up (mjn gm a b 0 4294967295) 36 0 a v)) else (kj38 (mg_up (mjn gm a b 0 4294967295) 36 0 a v 36 0 b) (mg_up (mjn gm a b 0 4294967295) 36 0 a v)) : mo) = some (0, mg_up (mg_up (mjn gm a b 0 4294967295) 36 0 a v) 36 0 b (if gm 36 0 b = a then 4294967294 else gm 36 0 b)) := by
                      intro v
                      rw [jn_s, e2]
                      by_cases c2 : gm 36 0 b = a
                      · rw [if_pos (by rw [c2]), if_pos c2]; rfl
                      · rw [if_neg (by rw [sv_eqN (by omega) (by omega)]; exact c2), if_neg c2]; rfl
                    rw [e1]
                    by_cases c1 : gm 36 0 a = b
                    · rw [if_pos (by rw [c1]), if_pos c1]
                      dsimp only
                      rw [wr_s, ck_t b24]
                      exact t2 _
                    · rw [if_neg (by rw [sv_eqN (by omega) (by omega)]; exact c1), if_neg c1]
                      dsimp only
                      rw [wr_s, ck_t b24]
                      exact t2 _
                  refine SM_x (M := N) (lo := lo) ec2 em2 rfl sA3 ?_ (by omega) ho
                  refine IV_cut g5 hs ht y2 (fun t i ht' hi => ((hA.2.2.2.2.2.1 t ht').2.2.1 i hi).2.2.1) hI ?_ ?_ ?_ ?_ ?_ ?_ ?_
                  · intro k hk
                    have q1 := fs_no hl0.1 (by omega) k hk
                    have q2 := fs_no hl0.2 (by omega) k hk
                    exact ⟨by simpa using q1, by simpa using q2⟩
                  · exact (z2.mp cy).2
                  · intro i hi; simpa using fs_no fa (by omega) i hi
                  · intro i hi; simpa using fs_no fb (by omega) i hi
                  · intro u v hv
                    rw [ue, if_neg (by omega), ue, if_neg (by omega), mjn_35 a24 b24 hv]
                  · intro x
                    rw [ue, ue, mjn_k (by omega) (by omega)]
                    by_cases cb : x = b
                    · subst cb
                      rw [if_pos ⟨rfl, rfl, rfl⟩, if_neg (show ¬ (x = a ∧ gm 36 0 x = x) from fun q => y2 q.1.symm)]
                      by_cases c2 : gm 36 0 x = a
                      · rw [if_pos c2, if_pos ⟨rfl, c2⟩]
                      · rw [if_neg c2, if_neg (fun q => c2 q.2)]
                    · rw [if_neg (fun q => cb q.2.2)]
                      by_cases ca : x = a
                      · subst ca
                        rw [if_pos ⟨rfl, rfl, rfl⟩]
                        by_cases c2 : gm 36 0 x = b
                        · rw [if_pos c2, if_pos ⟨rfl, c2⟩]
                        · rw [if_neg c2, if_neg (fun q => c2 q.2), if_neg (fun q => cb q.1)]
                      · rw [if_neg (fun q => ca q.2.2), if_neg (fun q => ca q.1), if_neg (fun q => cb q.1)]
                  · intro k i j h1 h2 h3
                    rw [ue, if_neg (fun q => h2 q.1), ue, if_neg (fun q => h2 q.1), mjn_k h1 h3]
                · have e : fm (fs (fun i => gm 47 0 (24 * b + i) == a) (gm 46 0 b) 0) = fs (fun i => gm 47 0 (24 * b + i) == a) (gm 46 0 b) 0 := by unfold fm; rw [if_neg fb]
                  rw [e, if_neg (by rw [sv_lt0N (by omega)]; omega)] at em1
                  exact SM_e h (ec1 _ (by rw [if_pos rfl, ck_t b24, qpb, bd_s, if_neg (by rw [sv_eqN (by omega) (by omega)]; exact fb)])) em1
              · have e : fm (fs (fun i => gm 47 0 (24 * a + i) == b) (gm 46 0 a) 0) = fs (fun i => gm 47 0 (24 * a + i) == b) (gm 46 0 a) 0 := by unfold fm; rw [if_neg fa]
                rw [e, if_neg (by rw [sv_lt0N (by omega)]; omega)] at em1
                exact SM_e h (ec1 _ (by rw [if_neg (by rw [sv_eqN (by omega) (by omega)]; exact fa)])) em1
            · rw [if_neg (by rw [sv_eq0N (by omega)]; exact cy)] at em1
              exact SM_e h (ec0 _ (by rw [qh0, bd_s, if_pos hl0, if_pos sv_0, qh1, bd_s, if_neg (fun q => cy (hcc.mp q)), if_neg sv10])) em1
          · have em1 := em0 1 (by omega) ⟨fun q => by omega, fun q => absurd q hl0⟩
            obtain ⟨y, z1, z2, z3⟩ := m_cut81 (a := a) (b := b) (x := 1) (by omega) hA w1 w2 (fun w17 w18 g19 => if sv w17 = 0 then (bd (P_X5_placeOf a b g19) fun r21 g22 => if sv r21 < 0 then (bd (P_X5_placeOf b a g22) fun r24 g25 => if sv r24 < 0 then (bd (P_X5_join2 a b 0 g25) fun _ g28 => ck (a < 24) <| jn (α := Nat) (fun x33 g34 => wr (mg_up g34 36 0 a x33) fun g35 => ck (b < 24) <| jn (α := Nat) (fun x40 g41 => wr (mg_up g41 36 0 b x40) fun g42 => some (0, g42)) fun kj38 => if sv (g35 36 0 b) = sv a then (kj38 4294967294 g35) else (kj38 (g35 36 0 b) g35)) fun kj31 => if sv (g28 36 0 a) = sv b then (kj31 4294967294 g28) else (kj31 (g28 36 0 a) g28)) else (some (4294967292, g25))) else (some (4294967292, g22))) else (some (4294967293, g19)))
            have y1' : ¬ y = 0 := fun q => by have := (z2.mp q).1; omega
            rw [z3, if_neg (by rw [sv_eq0N (by omega)]; exact y1')] at em1
            exact SM_e h (ec0 _ (by rw [qh0, bd_s, if_neg hl0, if_neg sv10])) em1
        · rw [if_neg c] at hl
          exact SM_e h (by unfold P_X4_cut; rw [st_c h ha, bd_s, if_pos hos, if_neg sv10, st_c h hb, bd_s, if_pos hot, if_neg sv10, q_lkd a24 b24 (by omega), bd_s, if_neg c, if_pos sv_0]) (by unfold P_X5_cut; rw [if_neg n0, st_m h ha, bd_s, if_pos hs, if_neg sv10, st_m h hb, bd_s, if_pos ht, if_neg sv10, ck_t w1, if_pos (by rw [hl, sv_0])])
      · exact SM_e h (by unfold P_X4_cut; rw [st_c h ha, bd_s, if_pos hos, if_neg sv10, st_c h hb, bd_s, if_neg (show ¬ (gm 5 0 1 = 1 ∧ b < gm 5 0 0) from fun q => ht q.2), if_pos sv_0]) (by unfold P_X5_cut; rw [if_neg n0, st_m h ha, bd_s, if_pos hs, if_neg sv10, st_m h hb, bd_s, if_neg ht, if_pos sv_0])
    · exact SM_e h (by unfold P_X4_cut; rw [st_c h ha, bd_s, if_neg (show ¬ (gm 5 0 1 = 1 ∧ a < gm 5 0 0) from fun q => hs q.2), if_pos sv_0]) (by unfold P_X5_cut; rw [if_neg n0, st_m h ha, bd_s, if_neg hs, if_pos sv_0])
  · obtain ⟨o1, o2⟩ := op0 h ho
    exact SM_e h (by unfold P_X4_cut; rw [st_c h ha, bd_s, if_neg (show ¬ (gm 5 0 1 = 1 ∧ a < gm 5 0 0) from fun q => ho q.1), if_pos sv_0]) (by unfold P_X5_cut; rw [if_pos o1])
end CUT
