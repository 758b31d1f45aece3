/-! ===== both in one state, with links and parts ===== -/
def TF (N : Nat) (g : mg_F) : Prop := TT (g, g) N g g ∧ FOR g
section JF
variable {P4 P5 : mg_F → mo} {g : mg_F} {N : Nat}
theorem JX (hs : ∀ B gc gm, TT B N gc gm → SN B (N + 2) (P4 gc) (P5 gm)) (h : TT (g, g) N g g) : ∃ r1 g1 r2 g2, P4 g = some (r1, g1) ∧ P5 g1 = some (r2, g2) ∧ TT (g2, g2) (N + 2) g2 g2 ∧ (∀ k i j, (k = 5 ∨ 30 ≤ k) → g1 k i j = g k i j) ∧ (∀ k i j, ¬ (k = 5 ∨ 30 ≤ k) → g2 k i j = g1 k i j) := by
  obtain ⟨r1, g1, _, gx, e1, _, t1⟩ := hs (g, g) g g h
  have a1 : ∀ k i j, (k = 5 ∨ 30 ≤ k) → g1 k i j = g k i j := t1.1.1
  have h2 := TT_re (gc' := g) (gm' := g1) h (fun _ _ _ _ => rfl) a1
  obtain ⟨r1', g1', r2, g2, e1', e2, t2⟩ := hs (g, g1) g g1 h2
  rw [e1] at e1'
  cases e1'
  have a2 : ∀ k i j, ¬ (k = 5 ∨ 30 ≤ k) → g2 k i j = g1 k i j := t2.1.2
  exact ⟨r1, g1, r2, g2, e1, e2, TT_re (gc' := g2) (gm' := g2) t2 a2 (fun _ _ _ _ => rfl), a1, a2⟩
theorem JXM (hs : ∀ B gc gm, TT B N gc gm → SM B (N + 2) (P4 gc) (P5 gm)) (h : TT (g, g) N g g) : ∃ r1 g1 r2 g2, P4 g = some (r1, g1) ∧ P5 g1 = some (r2, g2) ∧ TT (g2, g2) (N + 2) g2 g2 ∧ (∀ k i j, (k = 5 ∨ 30 ≤ k) → g1 k i j = g k i j) ∧ (∀ k i j, ¬ (k = 5 ∨ 30 ≤ k) → g2 k i j = g1 k i j) ∧ sv r1 = sv r2 := by
  obtain ⟨r1, g1, _, gx, e1, _, _, t1⟩ := hs (g, g) g g h
  have a1 : ∀ k i j, (k = 5 ∨ 30 ≤ k) → g1 k i j = g k i j := t1.1.1
  have h2 := TT_re (gc' := g) (gm' := g1) h (fun _ _ _ _ => rfl) a1
  obtain ⟨r1', g1', r2, g2, e1', e2, hr, t2⟩ := hs (g, g1) g g1 h2
  rw [e1] at e1'
  cases e1'
  have a2 : ∀ k i j, ¬ (k = 5 ∨ 30 ≤ k) → g2 k i j = g1 k i j := t2.1.2
  exact ⟨r1, g1, r2, g2, e1, e2, TT_re (gc' := g2) (gm' := g2) t2 a2 (fun _ _ _ _ => rfl), a1, a2, hr⟩
theorem FOR_keep {r1 r2 : Nat} {g1 g2 : mg_F} (k4 : ∀ c g, Rc c g → KP (Rc c) (P4 g)) (k5 : ∀ n F g, Rm n F g → KP (Rm n F) (P5 g)) (e1 : P4 g = some (r1, g1)) (e2 : P5 g1 = some (r2, g2)) (f1 : ∀ k i j, (k = 5 ∨ 30 ≤ k) → g1 k i j = g k i j) (f2 : ∀ k i j, ¬ (k = 5 ∨ 30 ≤ k) → g2 k i j = g1 k i j) (h : FOR g) : FOR g2 := by
  have a1 : g1 0 0 2 = g 0 0 2 := k4 (g 0 0 2) g rfl r1 g1 e1
  have a2 := k5 (g1 5 0 0) (g1 35 0) g1 ⟨rfl, fun _ => rfl⟩ r2 g2 e2
  refine FOR_same h ?_ ?_ (fun j => ?_)
  · rw [f2 0 0 2 (by omega), a1]
  · rw [a2.1, f1 5 0 0 (by omega)]
  · rw [a2.2 j, f1 35 0 j (by omega)]
theorem jf_keep (hs : ∀ B gc gm, TT B N gc gm → SN B (N + 2) (P4 gc) (P5 gm)) (k4 : ∀ c g, Rc c g → KP (Rc c) (P4 g)) (k5 : ∀ n F g, Rm n F g → KP (Rm n F) (P5 g)) (h : TF N g) : ∃ r1 g1 r2 g2, P4 g = some (r1, g1) ∧ P5 g1 = some (r2, g2) ∧ TF (N + 2) g2 := by
  obtain ⟨r1, g1, r2, g2, e1, e2, hT, f1, f2⟩ := JX hs h.1
  exact ⟨r1, g1, r2, g2, e1, e2, hT, FOR_keep k4 k5 e1 e2 f1 f2 h.2⟩
end JF
section JF2
variable {g : mg_F} {N : Nat}
theorem jf_count {a : Nat} (ha : a < 4294967296) (hN : N < 2147483648) (h : TF N g) : ∃ r1 g1 r2 g2, P_X4_count a g = some (r1, g1) ∧ P_X5_count a g1 = some (r2, g2) ∧ sv r1 = sv r2 ∧ TF (N + 2) g2 := by
  by_cases d5 : a = 5
  · obtain ⟨hT, hF⟩ := h
    have hF' := hF
    have m : ∀ i, i ≠ 5 → ¬ a = i := fun i hi q => hi (q.symm.trans d5)
    have nn : ∀ i, i < 7 → ¬ a = i → ¬ sv a = sv i := fun i hi q => by rw [sv_eqN ha (by omega)]; exact q
    have n0' : ¬ sv a = 0 := by rw [sv_eq0N ha]; exact m 0 (by decide)
    have y5 : sv a = sv 5 := by rw [d5]
    obtain ⟨g', e1, e2, e3⟩ := part_ok hT
    obtain ⟨g1, g2, g3, g4, g5, g6⟩ := hT.2.1
    obtain ⟨L, p, d, b2, b3, _⟩ := hF
    have hcnt : cnt (fun s => g' 61 0 s == s) (g 5 0 0) = cnt (fun s => L s == s) (g 5 0 0) := cnt_congr (fun i hi => by rw [LBL_uniq e3 b2 hi])
    refine ⟨sb (g 0 0 1) (g 0 0 2), g, cnt (fun s => g' 61 0 s == s) (g 5 0 0), g', ?_, ?_, ?_, ?_, ?_⟩
    · unfold P_X4_count P_X0_parts
      rw [if_neg (nn 0 (by decide) (m 0 (by decide))), if_neg (nn 1 (by decide) (m 1 (by decide))), if_neg (nn 2 (by decide) (m 2 (by decide))), if_neg (nn 3 (by decide) (m 3 (by decide))), if_neg (nn 4 (by decide) (m 4 (by decide))), if_pos y5, bd_s]
    · unfold P_X5_count
      rw [if_neg n0', if_neg (nn 1 (by decide) (m 1 (by decide))), if_pos y5, e1, bd_s]
    · rw [hcnt, g3, sb_le (by omega)]
      congr 1; omega
    · exact TT_mono (TT_re (gc' := g') (gm' := g') (TT_61 hT e2) (fun k i j hk => e2 k i j (by omega)) (fun _ _ _ _ => rfl)) (by omega)
    · exact FOR_same hF' (e2 0 0 2 (by omega)) (e2 5 0 0 (by omega)) (fun j => e2 35 0 j (by omega))
  · obtain ⟨r1, g1, r2, g2, e1, e2, hT, f1, f2, hr⟩ := JXM (P4 := P_X4_count a) (P5 := P_X5_count a) (fun B gc gm hh => (s_count hh ha hN).2 d5) h.1
    exact ⟨r1, g1, r2, g2, e1, e2, hr, hT, FOR_keep (P4 := P_X4_count a) (P5 := P_X5_count a) (fun c g hh => kc_X4_count hh) (fun n F g hh => km_X5_count hh) e1 e2 f1 f2 h.2⟩
theorem jf_canal {a : Nat} (ha : a < 4294967296) (h : TF N g) : ∃ r1 g1 r2 g2, P_X4_canal a g = some (r1, g1) ∧ P_X5_canal a g1 = some (r2, g2) ∧ TF (N + 2) g2 := by
  by_cases c1 : sv a < sv 2
  · exact ⟨4294967295, g, 4294967295, g, by unfold P_X4_canal; rw [if_pos c1], by unfold P_X5_canal; rw [if_pos c1], TT_mono h.1 (by omega), h.2⟩
  · by_cases c2 : sv 24 < sv a
    · exact ⟨4294967295, g, 4294967295, g, by unfold P_X4_canal; rw [if_neg c1, if_pos c2], by unfold P_X5_canal; rw [if_neg c1, if_pos c2], TT_mono h.1 (by omega), h.2⟩
    · obtain ⟨r1, g1, r2, g2, e1, e2, hT, f1, f2⟩ := JX (P4 := P_X4_canal a) (P5 := P_X5_canal a) (fun B gc gm hh => SM_SN (s_canal hh ha)) h.1
      refine ⟨r1, g1, r2, g2, e1, e2, hT, FOR_bld hT ?_⟩
      have q : g1 4 0 6 = 0 := by
        unfold P_X4_canal P_X0_clear P_fill at e1
        rw [if_neg c1, if_neg c2, wr_s, bd_s, wr_s, wr_s, bd_s] at e1
        cases e1
        simp [ue, ure]
      have t := hT.2.1.1
      rw [← t, f2 4 0 6 (by omega), q]
theorem jf_link {a b : Nat} (ha : a < 4294967296) (hb : b < 4294967296) (h : TF N g) : ∃ r1 g1 r2 g2, P_X4_link a b g = some (r1, g1) ∧ P_X5_link a b g1 = some (r2, g2) ∧ TF (N + 2) g2 := by
  obtain ⟨r1, g1, r2, g2, e1, e2, hT, f1, f2⟩ := JX (P4 := P_X4_link a b) (P5 := P_X5_link a b) (fun B gc gm hh => SM_SN (s_link hh ha hb)) h.1
  refine ⟨r1, g1, r2, g2, e1, e2, hT, ?_⟩
  have hG := TT_re (gc' := g) (gm' := g1) h.1 (fun _ _ _ _ => rfl) f1
  obtain ⟨g', p1, p2, p3⟩ := part_ok hG
  obtain ⟨q1, q2, q3, q4, q5, q6⟩ := hG.2.1
  have hn : g' 5 0 0 < 25 := by rw [p2 5 0 0 (by omega)]; exact q5
  have o' : g' 5 0 1 = g1 5 0 1 := p2 5 0 1 (by omega)
  by_cases ho : g' 5 0 1 = 0
  · refine FOR_bld hT ?_
    unfold P_X5_link at e2
    rw [p1, bd_s, if_pos (by rw [ho, sv_0]), m_stn ha hn, bd_s] at e2
    by_cases c1 : a < g' 5 0 0
    · rw [if_pos c1, if_neg sv10, m_stn hb hn, bd_s] at e2
      by_cases c2 : b < g' 5 0 0
      · rw [if_pos c2, if_neg sv10, ck_t (by omega), ck_t (by omega)] at e2
        by_cases c3 : sv (g' 61 0 a) = sv (g' 61 0 b)
        · rw [if_pos c3] at e2; cases e2; exact ho
        · rw [if_neg c3, m_j1 (by omega) (by omega), bd_s] at e2; cases e2; exact ho
      · rw [if_neg c2, if_pos sv_0] at e2; cases e2; exact ho
    · rw [if_neg c1, if_pos sv_0] at e2; cases e2; exact ho
  · have h1 : g' 5 0 1 = 1 := by omega
    have c1 : ¬ sv (g' 5 0 1) = 0 := by rw [h1]; exact sv10
    have c2 : ¬ sv (g 4 0 6) = 0 := by rw [q1, ← o']; exact c1
    unfold P_X4_link at e1
    rw [if_neg c2] at e1
    cases e1
    unfold P_X5_link at e2
    rw [p1, bd_s, if_neg c1] at e2
    cases e2
    exact FOR_same h.2 (p2 0 0 2 (by omega)) (p2 5 0 0 (by omega)) (fun j => p2 35 0 j (by omega))
theorem jf_cut {a b : Nat} (ha : a < 4294967296) (hb : b < 4294967296) (h : TF N g) : ∃ r1 g1 r2 g2, P_X4_cut a b g = some (r1, g1) ∧ P_X5_cut a b g1 = some (r2, g2) ∧ TF (N + 2) g2 := by
  obtain ⟨r1, g1, r2, g2, e1, e2, hT, f1, f2, hr⟩ := JXM (P4 := P_X4_cut a b) (P5 := P_X5_cut a b) (fun B gc gm hh => s_cut hh ha hb) h.1
  refine ⟨r1, g1, r2, g2, e1, e2, hT, ?_⟩
  obtain ⟨q1, q2, q3, q4, q5, q6⟩ := h.1.2.1
  obtain ⟨j1, j2, j3, j4⟩ := AJ_n h.1.2.2.1
  have n1 : g1 5 0 0 = g 5 0 0 := f1 5 0 0 (by omega)
  have l1 : ∀ j, g1 35 0 j = g 35 0 j := fun j => f1 35 0 j (by omega)
  have c2 : g2 0 0 2 = g1 0 0 2 := f2 0 0 2 (by omega)
  have z := tc_cut (c := g 0 0 2) (a := a) (b := b) (g := g) rfl r1 g1 e1
  have y := t5_cut (n := g 5 0 0) (F := g 35 0) (g := g1) ha hb q5 ⟨n1, l1⟩ r2 g2 e2
  rcases z with ⟨z1, z2⟩ | ⟨z1, z1', z2⟩
  · rcases y with ⟨y1, ⟨y2, y3, y4⟩, y5, y6⟩ | ⟨y1, y1', y2⟩
    · have a24 : a < 24 := by omega
      have b24 : b < 24 := by omega
      have t := j3 a b a24 b24
      have hab : AJ g a b := ⟨a24, b24, by omega⟩
      have hne := (h.1.2.2.1.2.2 a b a24 b24 hab.2.2).2.1
      obtain ⟨g', p1, p2, p3⟩ := part_ok hT
      rw [y5] at p3
      exact FOR_del h.2 q5 j1 hab (j2 a b hab) hne p3 (by rw [c2]; exact z2) y5 y6
    · rw [z1] at hr
      exact absurd ((sv_eqN (by omega) y1').mp hr).symm y1
  · rcases y with ⟨y1, _⟩ | ⟨y1, y1', y2⟩
    · rw [y1] at hr
      exact absurd ((sv_eqN z1' (by omega)).mp hr) z1
    · exact FOR_same h.2 (by rw [c2]; exact z2) y2.1 y2.2
theorem jf_join {a b : Nat} (hN : N < 2147483648) (ha : a < 4294967296) (hb : b < 4294967296) (h : TF N g) : ∃ r1 g1 r2 g2, P_X4_join a b g = some (r1, g1) ∧ P_X5_join a b g1 = some (r2, g2) ∧ TF (N + 2) g2 := by
  obtain ⟨r1, g1, r2, g2, e1, e2, hT, f1, f2, hr⟩ := JXM (P4 := P_X4_join a b) (P5 := P_X5_join a b) (fun B gc gm hh => s_join hN hh ha hb) h.1
  refine ⟨r1, g1, r2, g2, e1, e2, hT, ?_⟩
  have hG := TT_re (gc' := g) (gm' := g1) h.1 (fun _ _ _ _ => rfl) f1
  obtain ⟨g', p1, p2, p3⟩ := part_ok hG
  obtain ⟨q1, q2, q3, q4, q5, q6⟩ := h.1.2.1
  obtain ⟨j1, j2, j3, j4⟩ := AJ_n h.1.2.2.1
  have n1 : g1 5 0 0 = g 5 0 0 := f1 5 0 0 (by omega)
  have l1 : ∀ j, g1 35 0 j = g 35 0 j := fun j => f1 35 0 j (by omega)
  have hAJ : AJ g1 = AJ g := by funext x y; unfold AJ; rw [l1]
  rw [n1, hAJ] at p3
  have c2 : g2 0 0 2 = g1 0 0 2 := f2 0 0 2 (by omega)
  have z := tc_join (c := g 0 0 2) (a := a) (b := b) (g := g) rfl r1 g1 e1
  have y := t5_join (n := g 5 0 0) (F := g 35 0) (g := g1) ha hb q5 p1 ⟨by rw [p2 5 0 0 (by omega)]; exact n1, fun j => by rw [p2 35 0 j (by omega)]; exact l1 j⟩ r2 g2 e2
  rcases z with ⟨z1, z2⟩ | ⟨z1, z1', z2⟩
  · rcases y with ⟨y1, ⟨y2, y3, y4⟩, y5, y6⟩ | ⟨y1, y1', y2⟩
    · exact FOR_add h.2 q5 j1 j2 y2 y3 (fun q => y4 ((LBL_iff p3 y2 y3).mpr q)) (by rw [c2]; exact z2) y5 y6
    · rw [z1] at hr
      exact absurd ((sv_eqN (by omega) y1').mp hr).symm y1
  · rcases y with ⟨y1, _⟩ | ⟨y1, y1', y2⟩
    · rw [y1] at hr
      exact absurd ((sv_eqN z1' (by omega)).mp hr) z1
    · exact FOR_same h.2 (by rw [c2]; exact z2) y2.1 y2.2
theorem TF_start : TF 0 qms6 := by
  refine ⟨TT_start, ?_⟩
  have k1 : qms6 0 0 2 = 1 := by decide +kernel
  obtain ⟨a1, a2, a3, a4, a5, a6, a7, a8, a9, a10, a11, a12, a13, a14, a15⟩ := st_g
  have lk : ∀ x y, AJ qms6 x y → (x = 0 ∧ y = 1) ∨ (x = 1 ∧ y = 0) := fun x y q => by
    have t := st_sy x q.1 y q.2.1 q.2.2
    omega
  have l10 : AJ qms6 1 0 := ⟨by omega, by omega, a15⟩
  refine ⟨fun _ => 0, fun x => if x = 1 then 0 else 4294967294, fun x => x, ⟨fun x hx => ⟨Nat.zero_le _, ?_⟩, fun _ _ _ => rfl⟩, ?_, fun x hx => ?_, fun x y q => ?_⟩
  · rw [a4] at hx
    by_cases c : x = 0
    · rw [c]; exact rch_refl
    · have : x = 1 := by omega
      rw [this]; exact rch_step l10
  · rw [a4, k1]; rfl
  · rw [a4] at hx ⊢
    dsimp only
    by_cases c : x = 1
    · rw [if_pos c, c]; right; exact ⟨by omega, l10, by omega⟩
    · rw [if_neg c]; left; rfl
  · dsimp only
    rcases lk x y q with ⟨rfl, rfl⟩ | ⟨rfl, rfl⟩
    · right; rw [if_pos rfl]
    · left; rw [if_pos rfl]
end JF2
