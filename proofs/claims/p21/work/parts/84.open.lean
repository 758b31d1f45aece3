/-! ===== open ===== -/
section OPEN
variable {B : mg_F × mg_F} {N : Nat} {gc gm : mg_F}
def clr (x : mg_F) (v : Nat) : mg_F := mg_up (mg_up (mg_up (mg_up (mg_up (mg_up (mg_up (mg_up (mg_up (mg_up (mg_up x 2 v 2 0) 3 v 2 4294967294) 3 v 3 0) 3 v 4 0) 3 v 5 0) 3 v 6 0) 3 v 7 0) 3 v 8 0) 3 v 9 0) 3 v 10 0) 3 v 11 0
theorem clr_k {x : mg_F} {v k i j : Nat} (h : (k ≠ 2 ∧ k ≠ 3) ∨ i ≠ v) : clr x v k i j = x k i j := by
  unfold clr
  rw [ue, if_neg (by omega), ue, if_neg (by omega), ue, if_neg (by omega), ue, if_neg (by omega), ue, if_neg (by omega), ue, if_neg (by omega), ue, if_neg (by omega), ue, if_neg (by omega), ue, if_neg (by omega), ue, if_neg (by omega), ue, if_neg (by omega)]
theorem q_o86 {a1 a2 a3 : Nat} {g : mg_F} (k : Nat → mg_F → mo) : ∃ x : mg_F, (∀ k i j, k ≠ 2 → k ≠ 3 → k ≠ 21 → k ≠ 22 → x k i j = g k i j) ∧ (∀ s, s < 24 → x 2 s 2 = 0 ∧ x 3 s 2 = 4294967294 ∧ x 3 s 3 = 0 ∧ x 3 s 4 = 0 ∧ x 3 s 5 = 0 ∧ x 3 s 6 = 0 ∧ x 3 s 7 = 0 ∧ x 3 s 8 = 0 ∧ x 3 s 11 = 0 ∧ ∀ j, j < 24 → x 21 s j = 0 ∧ x 22 s j = 0) ∧ L_X4_open_86 a1 a2 a3 k 4000 0 g = k 24 x := by
  obtain ⟨x, ⟨i1, i2⟩, e⟩ := lp_ex (L := fun n x v => L_X4_open_86 a1 a2 a3 k n v x) (K := fun x => k 24 x) (I := fun v x => (∀ k i j, k ≠ 2 → k ≠ 3 → k ≠ 21 → k ≠ 22 → x k i j = g k i j) ∧ (∀ s, s < v → x 2 s 2 = 0 ∧ x 3 s 2 = 4294967294 ∧ x 3 s 3 = 0 ∧ x 3 s 4 = 0 ∧ x 3 s 5 = 0 ∧ x 3 s 6 = 0 ∧ x 3 s 7 = 0 ∧ x 3 s 8 = 0 ∧ x 3 s 11 = 0 ∧ ∀ j, j < 24 → x 21 s j = 0 ∧ x 22 s j = 0)) (N := 24) (by
    intro n x v hv hI
    obtain ⟨i1, i2⟩ := hI
    refine ⟨mg_upr (mg_upr (clr x v) 21 v (mg_fl (clr x v 21 v) 24 0)) 22 v (mg_fl ((mg_upr (clr x v) 21 v (mg_fl (clr x v 21 v) 24 0)) 22 v) 24 0), ?_, fun k i j h1 h2 h3 h4 => ?_, fun s hs => ?_⟩
    · show L_X4_open_86 a1 a2 a3 k (n + 1) v x = _
      rw [L_X4_open_86, if_pos ((sv_ltN (by omega) (by omega)).mpr hv), ck_t hv]
      unfold P_X3_clear P_fill
      rw [wr_s, wr_s, wr_s, wr_s, wr_s, wr_s, wr_s, wr_s, wr_s, wr_s, wr_s, bd_s, bd_s, bd_s]
      rfl
    · rw [ure, if_neg (fun q => h4 q.1), ure, if_neg (fun q => h3 q.1), clr_k (Or.inl ⟨h1, h2⟩)]
      exact i1 k i j h1 h2 h3 h4
    · by_cases c : s = v
      · subst c
        refine ⟨?_, ?_, ?_, ?_, ?_, ?_, ?_, ?_, ?_, fun j hj => ⟨?_, ?_⟩⟩
        · simp [ure, clr, ue]
        · simp [ure, clr, ue]
        · simp [ure, clr, ue]
        · simp [ure, clr, ue]
        · simp [ure, clr, ue]
        · simp [ure, clr, ue]
        · simp [ure, clr, ue]
        · simp [ure, clr, ue]
        · simp [ure, clr, ue]
        · simp [ure, mg_fl, hj]
        · simp [ure, mg_fl, hj]
      · have e3 : ∀ k j, mg_upr (mg_upr (clr x v) 21 v (mg_fl (clr x v 21 v) 24 0)) 22 v (mg_fl ((mg_upr (clr x v) 21 v (mg_fl (clr x v 21 v) 24 0)) 22 v) 24 0) k s j = x k s j := fun k j => by
          rw [ure, if_neg (fun q => c q.2), ure, if_neg (fun q => c q.2), clr_k (Or.inr c)]
        simp only [e3]
        exact i2 s (by omega)) (by
    intro n x hI
    show L_X4_open_86 a1 a2 a3 k (n + 1) 24 x = _
    rw [L_X4_open_86, if_neg (by omega)]) 24 4000 g 0 (by omega) (by omega) ⟨fun _ _ _ _ _ _ _ => rfl, fun s hs => by omega⟩
  exact ⟨x, i1, i2, e⟩
theorem m_o77 {a1 a2 a3 : Nat} {g : mg_F} (k : Nat → mg_F → mo) : ∃ x : mg_F, (∀ k i j, k ≠ 49 → k ≠ 50 → x k i j = g k i j) ∧ (∀ w, w < 576 → x 49 0 w = 0 ∧ x 50 0 w = 0) ∧ L_X5_open_77 a1 a2 a3 k 4000 0 g = k 576 x := by
  obtain ⟨x, ⟨i1, i2⟩, e⟩ := lp_ex (L := fun n x v => L_X5_open_77 a1 a2 a3 k n v x) (K := fun x => k 576 x) (I := fun v x => (∀ k i j, k ≠ 49 → k ≠ 50 → x k i j = g k i j) ∧ (∀ w, w < v → x 49 0 w = 0 ∧ x 50 0 w = 0)) (N := 576) (by
    intro n x v hv hI
    obtain ⟨i1, i2⟩ := hI
    refine ⟨mg_up (mg_up x 49 0 v 0) 50 0 v 0, ?_, fun k i j h1 h2 => by rw [ue, if_neg (fun q => h2 q.1), ue, if_neg (fun q => h1 q.1)]; exact i1 k i j h1 h2, fun w hw => ?_⟩
    · show L_X5_open_77 a1 a2 a3 k (n + 1) v x = _
      rw [L_X5_open_77, if_pos ((sv_ltN (by omega) (by omega)).mpr hv), ck_t hv, wr_s, ck_t hv, wr_s]
    · by_cases c : w = v
      · subst c; simp [ue]
      · have := i2 w (by omega)
        simp [ue, c]; exact this) (by
    intro n x hI
    show L_X5_open_77 a1 a2 a3 k (n + 1) 576 x = _
    rw [L_X5_open_77, if_neg (by omega)]) 576 4000 g 0 (by omega) (by omega) ⟨fun _ _ _ _ _ => rfl, fun s hs => by omega⟩
  exact ⟨x, i1, i2, e⟩
theorem m_o110 {a1 a2 a3 n : Nat} {g : mg_F} (hn : g 5 0 0 = n) (hn2 : n < 25) (ha : a1 < n) (k : Nat → mg_F → mo) : ∃ x : mg_F, (∀ k i j, k < 36 ∨ 46 < k → x k i j = g k i j) ∧ (∀ s, s < n → x 36 0 s = (if s = a1 then a1 else 4294967294) ∧ x 37 0 s = 0 ∧ x 38 0 s = 0 ∧ x 39 0 s = 0 ∧ x 40 0 s = 0 ∧ x 41 0 s = 0 ∧ x 42 0 s = 0 ∧ x 44 0 s = 0 ∧ x 46 0 s = 0) ∧ L_X5_open_110 a1 a2 a3 k 4000 0 g = k n x := by
  obtain ⟨x, ⟨i1, i2⟩, e⟩ := lp_ex (L := fun m x v => L_X5_open_110 a1 a2 a3 k m v x) (K := fun x => k n x) (I := fun v x => (∀ k i j, k < 36 ∨ 46 < k → x k i j = g k i j) ∧ (∀ s, s < v → x 36 0 s = (if s = a1 then a1 else 4294967294) ∧ x 37 0 s = 0 ∧ x 38 0 s = 0 ∧ x 39 0 s = 0 ∧ x 40 0 s = 0 ∧ x 41 0 s = 0 ∧ x 42 0 s = 0 ∧ x 44 0 s = 0 ∧ x 46 0 s = 0)) (N := n) (by
    intro m x v hv hI
    obtain ⟨i1, i2⟩ := hI
    have e0 : x 5 0 0 = n := by rw [i1 5 0 0 (by omega)]; exact hn
    refine ⟨mg_up (mg_up (mg_up (mg_up (mg_up (mg_up (mg_up (mg_up (mg_up (mg_up x 36 0 v (if v = a1 then a1 else 4294967294)) 37 0 v 0) 38 0 v 0) 39 0 v 0) 40 0 v 0) 41 0 v 0) 42 0 v 0) 43 0 v 0) 44 0 v 0) 46 0 v 0, ?_, fun k i j hk => ?_, fun s hs => ?_⟩
    · show L_X5_open_110 a1 a2 a3 k (m + 1) v x = _
      rw [L_X5_open_110, e0, if_pos ((sv_ltN (by omega) (by omega)).mpr hv), jn_s]
      by_cases c : v = a1
      · rw [if_pos (by rw [c]), if_pos c]
        dsimp only
        rw [ck_t (by omega), wr_s, wr_s, wr_s, wr_s, wr_s, wr_s, wr_s, wr_s, wr_s, wr_s, c]
      · rw [if_neg (by rw [sv_eqN (by omega) (by omega)]; exact c), if_neg c]
        dsimp only
        rw [ck_t (by omega), wr_s, wr_s, wr_s, wr_s, wr_s, wr_s, wr_s, wr_s, wr_s, wr_s]
    · rw [ue, if_neg (by omega), ue, if_neg (by omega), ue, if_neg (by omega), ue, if_neg (by omega), ue, if_neg (by omega), ue, if_neg (by omega), ue, if_neg (by omega), ue, if_neg (by omega), ue, if_neg (by omega), ue, if_neg (by omega)]
      exact i1 k i j hk
    · by_cases c : s = v
      · subst c; simp [ue]
      · have := i2 s (by omega)
        simp [ue, c]; exact this) (by
    intro m x hI
    have e0 : x 5 0 0 = n := by rw [hI.1 5 0 0 (by omega)]; exact hn
    show L_X5_open_110 a1 a2 a3 k (m + 1) n x = _
    rw [L_X5_open_110, e0, if_neg (by omega)]) n 4000 g 0 (by omega) (by omega) ⟨fun _ _ _ _ => rfl, fun s hs => by omega⟩
  exact ⟨x, i1, i2, e⟩
theorem s_open {a b c : Nat} (h : TT B N gc gm) (ha : a < 4294967296) (hb : b < 4294967296) (hc : c < 4294967296) : SM B (N + 2) (P_X4_open a b c gc) (P_X5_open a b c gm) := by
  obtain ⟨g1, g2, g3, g4, g5, g6⟩ := h.2.1
  by_cases ho : gm 5 0 1 = 1
  · have no : ¬ sv (gm 5 0 1) = 0 := cl_o ho rfl
    have noc : ¬ sv (gc 4 0 6) = 0 := by rw [g1]; exact no
    exact SM_e h (by unfold P_X4_open; rw [if_neg noc]) (by unfold P_X5_open; rw [if_neg no])
  · obtain ⟨o1, o2⟩ := op0 h ho
    have oc : sv (gc 4 0 6) = 0 := by rw [o2, sv_0]
    have hz : gm 5 0 1 = 0 := by omega
    have qa : P_X0_has a gc = some (if a < gm 5 0 0 then 1 else 0, gc) := by rw [q_has ha (by omega), g3]
    by_cases hs : a < gm 5 0 0
    · obtain ⟨g', p1, p2, p3⟩ := part_ok h
      obtain ⟨b1, L, p, d, b2, b3, b4, b5⟩ := h.2.2.2.2 hz
      have hcnt : cnt (fun s => g' 61 0 s == s) (gm 5 0 0) = cnt (fun s => L s == s) (gm 5 0 0) := cnt_congr (fun i hi => by rw [LBL_uniq p3 b2 hi])
      have hcl := cnt_le (fun s => L s == s) (gm 5 0 0)
      have hpc : P_X0_parts gc = some (cnt (fun s => L s == s) (gm 5 0 0), gc) := by
        unfold P_X0_parts; rw [g3, b1, sb_le (by omega)]
        congr 2; omega
      rw [hcnt] at p1
      generalize hk : cnt (fun s => L s == s) (gm 5 0 0) = K at *
      have eK := sv_om (a := K) (by omega)
      have e1K : sv 1 < sv K ↔ 1 < K := sv_ltN (by omega) (by omega)
      by_cases c1 : sv b < 0
      · refine SM_e (r := 4294967295) h ?_ (by unfold P_X5_open; rw [if_pos o1, st_m h ha, bd_s, if_pos hs, if_neg sv10, if_pos c1])
        unfold P_X4_open
        rw [if_pos oc, qa, bd_s, if_pos hs, if_neg sv10, hpc, bd_s]
        by_cases cK : sv 1 < sv K
        · rw [if_pos cK]
        · rw [if_neg cK, if_pos c1]
      · by_cases c2 : sv 2 < sv b
        · refine SM_e (r := 4294967295) h ?_ (by unfold P_X5_open; rw [if_pos o1, st_m h ha, bd_s, if_pos hs, if_neg sv10, if_neg c1, if_pos c2])
          unfold P_X4_open
          rw [if_pos oc, qa, bd_s, if_pos hs, if_neg sv10, hpc, bd_s]
          by_cases cK : sv 1 < sv K
          · rw [if_pos cK]
          · rw [if_neg cK, if_neg c1, if_pos c2]
        · by_cases c3 : sv c < sv 1
          · refine SM_e (r := 4294967295) h ?_ (by unfold P_X5_open; rw [if_pos o1, st_m h ha, bd_s, if_pos hs, if_neg sv10, if_neg c1, if_neg c2, if_pos c3])
            unfold P_X4_open
            rw [if_pos oc, qa, bd_s, if_pos hs, if_neg sv10, hpc, bd_s]
            by_cases cK : sv 1 < sv K
            · rw [if_pos cK]
            · rw [if_neg cK, if_neg c1, if_neg c2, if_pos c3]
          · by_cases c4 : sv 4 < sv c
            · refine SM_e (r := 4294967295) h ?_ (by unfold P_X5_open; rw [if_pos o1, st_m h ha, bd_s, if_pos hs, if_neg sv10, if_neg c1, if_neg c2, if_neg c3, if_pos c4])
              unfold P_X4_open
              rw [if_pos oc, qa, bd_s, if_pos hs, if_neg sv10, hpc, bd_s]
              by_cases cK : sv 1 < sv K
              · rw [if_pos cK]
              · rw [if_neg cK, if_neg c1, if_neg c2, if_neg c3, if_pos c4]
            · by_cases cK : sv 1 < sv K
              · exact SM_61 (r := 4294967295) h p2 (by unfold P_X4_open; rw [if_pos oc, qa, bd_s, if_pos hs, if_neg sv10, hpc, bd_s, if_pos cK]) (by unfold P_X5_open; rw [if_pos o1, st_m h ha, bd_s, if_pos hs, if_neg sv10, if_neg c1, if_neg c2, if_neg c3, if_neg c4, p1, bd_s, if_pos cK])
              · have hb3 : b < 3 := by
                  have := sv_om hb
                  rw [sv_l2] at c2; omega
                have hc5 : c < 5 := by
                  have := sv_om hc
                  rw [sv_l1] at c3; rw [sv_l4] at c4; omega
                have a24 : a < 24 := by omega
                obtain ⟨j1, j2, j3, j4⟩ := AJ_n h.2.2.1
                have hcon : ∀ y, y < gm 5 0 0 → rch (AJ gm) a y := fun y hy => LBL_one b2 (by omega) (by rw [hk]; omega) hs hy
                -- the class
                obtain ⟨x, x1, x2, x3⟩ := q_o86 (a1 := a) (a2 := b) (a3 := c) (g := mg_up (mg_up (mg_up (mg_up (mg_up gc 4 0 7 b) 4 0 8 c) 4 0 9 0) 1 0 5 0) 1 1 5 0) (fun w17 g18 => bd (P_X4_pointAllTo a g18) fun _ g20 => wr (mg_up g20 4 0 6 1) fun g21 => some (0, g21))
                have xk : ∀ k i j, k ≠ 1 → k ≠ 2 → k ≠ 3 → k ≠ 4 → k ≠ 21 → k ≠ 22 → x k i j = gc k i j := fun k i j h1 h2 h3 h4 h5 h6 => by
                  rw [x1 k i j h2 h3 h5 h6, ue, if_neg (by omega), ue, if_neg (by omega), ue, if_neg (by omega), ue, if_neg (by omega), ue, if_neg (by omega)]
                have x10 : ∀ u, x 10 0 u = gc 10 0 u := fun u => xk 10 0 u (by omega) (by omega) (by omega) (by omega) (by omega) (by omega)
                obtain ⟨y, y1, y2, y3, y4⟩ := q_pall (g := x) (n := gm 5 0 0) (h := a) (A := AJ gm) (fun u v => by rw [x10]; exact j4 u v) (fun u hu => by rw [x10]; exact h.2.2.1.2.1 u hu) (by rw [xk 0 0 1 (by omega) (by omega) (by omega) (by omega) (by omega) (by omega)]; exact g3) g5 hs j1 j2 hcon (fun z hz => (x2 z (by omega)).2.1)
                have ec : P_X4_open a b c gc = some (0, mg_up y 4 0 6 1) := by
                  unfold P_X4_open
                  rw [if_pos oc, qa, bd_s, if_pos hs, if_neg sv10, hpc, bd_s, if_neg cK, if_neg c1, if_neg c2, if_neg c3, if_neg c4, wr_s, wr_s, wr_s, wr_s, wr_s, x3, y1, bd_s, wr_s]
                -- the reference
                obtain ⟨u, u1, u2, u3⟩ := m_o77 (a1 := a) (a2 := b) (a3 := c) (g := mg_up (mg_up (mg_up (mg_up (mg_up (mg_up g' 5 0 1 1) 5 0 2 b) 5 0 3 c) 5 0 15 0) 5 0 21 0) 5 0 26 0) (fun w18 g19 => L_X5_open_110 a b c (fun w20 g21 => L_X5_open_220 a b c (fun w22 g23 => some (0, g23)) 4000 0 g21) 4000 0 g19)
                have un : u 5 0 0 = gm 5 0 0 := by rw [u1 5 0 0 (by omega) (by omega), ← p2 5 0 0 (by omega)]; simp [ue]
                obtain ⟨v, v1, v2, v3⟩ := m_o110 (a1 := a) (a2 := b) (a3 := c) (g := u) un g5 hs (fun w20 g21 => L_X5_open_220 a b c (fun w22 g23 => some (0, g23)) 4000 0 g21)
                have v35 : ∀ j, v 35 0 j = gm 35 0 j := fun j => by
                  rw [v1 35 0 j (by omega), u1 35 0 j (by omega) (by omega), ue, if_neg (by omega), ue, if_neg (by omega), ue, if_neg (by omega), ue, if_neg (by omega), ue, if_neg (by omega), ue, if_neg (by omega), p2 35 0 j (by omega)]
                obtain ⟨z, z1, z2, z3, z4⟩ := m_pall (a1 := a) (a2 := b) (a3 := c) (g := v) (n := gm 5 0 0) (h := a) (A := AJ gm) (fun u' v' => by rw [v35]; exact Iff.rfl) (fun u' v' hu' hv' => by rw [v35]; exact j3 u' v' hu' hv') (by rw [v1 5 0 0 (by omega)]; exact un) g5 hs j1 j2 hcon (fun w hw => (v2 w hw).1)
                have em : P_X5_open a b c gm = some (0, z) := by
                  unfold P_X5_open
                  rw [if_pos o1, st_m h ha, bd_s, if_pos hs, if_neg sv10, if_neg c1, if_neg c2, if_neg c3, if_neg c4, p1, bd_s, if_neg cK, wr_s, wr_s, wr_s, wr_s, wr_s, wr_s, u3, v3, z1]
                -- the pointers
                obtain ⟨m, m0, m1, m2, m3⟩ := root_path g5 hs b2.2 b4
                obtain ⟨f, hf⟩ := PF_ex (p := p) (e := a) (m := m) (o := a) (by omega) m3
                have hedge := PF_edge (A := AJ gm) g5 hf m2 j1 b5
                have uy := JP_uniq hedge hf.1 y3 y4
                have uz := JP_uniq hedge hf.1 z3 z4
                have hptr : ∀ s, s < gm 5 0 0 → y 3 s 2 = z 36 0 s := fun s hs' => (uy s hs').trans (uz s hs').symm
                -- cells of the reference
                have zk : ∀ k i j, k ≠ 36 → z k i j = v k i j := z2
                have z5 : ∀ j, z 5 0 j = mg_up (mg_up (mg_up (mg_up (mg_up (mg_up g' 5 0 1 1) 5 0 2 b) 5 0 3 c) 5 0 15 0) 5 0 21 0) 5 0 26 0 5 0 j := fun j => by
                  rw [zk 5 0 j (by omega), v1 5 0 j (by omega), u1 5 0 j (by omega) (by omega)]
                have z00 : z 5 0 0 = gm 5 0 0 := by rw [z5, ← p2 5 0 0 (by omega)]; simp [ue]
                have z01 : z 5 0 1 = 1 := by rw [z5]; simp [ue]
                have z02 : z 5 0 2 = b := by rw [z5]; simp [ue]
                have z03 : z 5 0 3 = c := by rw [z5]; simp [ue]
                have z04 : z 5 0 4 = gm 5 0 4 := by rw [z5, ← p2 5 0 4 (by omega)]; simp [ue]
                have z15 : z 5 0 15 = 0 := by rw [z5]; simp [ue]
                have z21 : z 5 0 21 = 0 := by rw [z5]; simp [ue]
                have z26 : z 5 0 26 = 0 := by rw [z5]; simp [ue]
                have z35 : ∀ j, z 35 0 j = gm 35 0 j := fun j => by rw [zk 35 0 j (by omega)]; exact v35 j
                have z49 : ∀ w, w < 576 → z 49 0 w = 0 ∧ z 50 0 w = 0 := fun w hw => by
                  rw [zk 49 0 w (by omega), zk 50 0 w (by omega), v1 49 0 w (by omega), v1 50 0 w (by omega)]; exact u2 w hw
                have zst : ∀ s, s < gm 5 0 0 → z 37 0 s = 0 ∧ z 38 0 s = 0 ∧ z 39 0 s = 0 ∧ z 40 0 s = 0 ∧ z 41 0 s = 0 ∧ z 42 0 s = 0 ∧ z 44 0 s = 0 ∧ z 46 0 s = 0 := fun s hs' => by
                  rw [zk 37 0 s (by omega), zk 38 0 s (by omega), zk 39 0 s (by omega), zk 40 0 s (by omega), zk 41 0 s (by omega), zk 42 0 s (by omega), zk 44 0 s (by omega), zk 46 0 s (by omega)]
                  exact (v2 s hs').2
                have zp : ∀ s, s < gm 5 0 0 → z 36 0 s < gm 5 0 0 := fun s hs' => by
                  obtain ⟨q1, e, q2⟩ := z3
                  by_cases cs : s = a
                  · rw [cs, q1]; exact hs
                  · exact (q2 s hs' cs (z4 s hs')).1
                -- cells of the class
                have yk : ∀ k i j, ¬ (k = 3 ∧ j = 2) → mg_up y 4 0 6 1 k i j = if k = 4 ∧ i = 0 ∧ j = 6 then 1 else x k i j := fun k i j hk => by
                  rw [ue]; split
                  · rfl
                  · exact y2 k i j hk
                have yst : ∀ s j, ¬ j = 2 → mg_up y 4 0 6 1 3 s j = x 3 s j := fun s j hj => by rw [yk 3 s j (by omega), if_neg (by omega)]
                have yo : ∀ k i j, k ≠ 3 → k ≠ 4 → mg_up y 4 0 6 1 k i j = x k i j := fun k i j h3 h4 => by rw [yk k i j (by omega), if_neg (by omega)]
                have x1c : ∀ i j, x 4 i j = mg_up (mg_up (mg_up (mg_up (mg_up gc 4 0 7 b) 4 0 8 c) 4 0 9 0) 1 0 5 0) 1 1 5 0 4 i j := fun i j => x1 4 i j (by omega) (by omega) (by omega) (by omega)
                have x11 : ∀ i j, x 1 i j = mg_up (mg_up (mg_up (mg_up (mg_up gc 4 0 7 b) 4 0 8 c) 4 0 9 0) 1 0 5 0) 1 1 5 0 1 i j := fun i j => x1 1 i j (by omega) (by omega) (by omega) (by omega)
                have sAf : sA B (mg_up y 4 0 6 1) z := by
                  refine ⟨⟨fun k i j hk' => ?_, fun k i j hk' => ?_⟩, ⟨?_, ?_, ?_, ?_, ?_, ?_⟩, ⟨fun u' v' hu' hv' => ?_, fun u' hu' => ?_, fun u' v' hu' hv' q => ?_⟩, ⟨?_, ?_, ?_, ?_, ?_⟩, fun s hs' => ?_, fun s hs' => ?_, fun u' v' hu' hv' => ?_, ⟨?_, ?_, fun i hi => ?_⟩, ⟨?_, ?_, fun i hi => ?_⟩⟩
                  · rw [yo k i j (by omega) (by omega), xk k i j (by omega) (by omega) (by omega) (by omega) (by omega) (by omega)]; exact h.1.1 k i j hk'
                  · rw [zk k i j (by omega), v1 k i j (by omega), u1 k i j (by omega) (by omega), ue, if_neg (by omega), ue, if_neg (by omega), ue, if_neg (by omega), ue, if_neg (by omega), ue, if_neg (by omega), ue, if_neg (by omega), p2 k i j (by omega)]; exact h.1.2 k i j hk'
                  · rw [z01]; simp [ue]
                  · rw [z01]; omega
                  · rw [z00, yo 0 0 1 (by omega) (by omega), xk 0 0 1 (by omega) (by omega) (by omega) (by omega) (by omega) (by omega)]; exact g3
                  · rw [z00]; exact g4
                  · rw [z00]; exact g5
                  · rw [z04, yo 0 0 2 (by omega) (by omega), xk 0 0 2 (by omega) (by omega) (by omega) (by omega) (by omega) (by omega)]; exact g6
                  · rw [z35, yo 10 0 u' (by omega) (by omega), x10]; exact h.2.2.1.1 u' v' hu' hv'
                  · rw [yo 10 0 u' (by omega) (by omega), x10]; exact h.2.2.1.2.1 u' hu'
                  · rw [z35] at q ⊢; rw [z00]; exact h.2.2.1.2.2 u' v' hu' hv' q
                  · rw [z02, yk 4 0 7 (by omega), if_neg (by omega), x1c]; simp [ue]
                  · rw [z03, yk 4 0 8 (by omega), if_neg (by omega), x1c]; simp [ue]
                  · rw [z15, yk 4 0 9 (by omega), if_neg (by omega), x1c]; simp [ue]
                  · rw [z02]; exact hb3
                  · rw [z03]; exact hc5
                  · rw [z00] at hs' ⊢
                    obtain ⟨k1, k2, k3, k4, k5, k6, k7, k8⟩ := zst s hs'
                    obtain ⟨w1, w2, w3, w4, w5, w6, w7, w8, w9, w10⟩ := x2 s (by omega)
                    have hp2 : mg_up y 4 0 6 1 3 s 2 = z 36 0 s := by rw [ue, if_neg (by omega)]; exact hptr s hs'
                    rw [hp2, yst s 3 (by omega), yst s 4 (by omega), yst s 5 (by omega), yst s 6 (by omega), yst s 7 (by omega), yst s 8 (by omega), yst s 11 (by omega), k1, k2, k3, k4, k5, k6, k7, w3, w4, w5, w6, w7, w8, w9]
                    exact ⟨rfl, rfl, rfl, rfl, rfl, rfl, rfl, rfl, Or.inl (zp s hs'), by omega, by omega, by omega, by omega⟩
                  · rw [z00] at hs'
                    obtain ⟨k1, k2, k3, k4, k5, k6, k7, k8⟩ := zst s hs'
                    have w1 := (x2 s (by omega)).1
                    rw [k8, yo 2 s 2 (by omega) (by omega), w1]
                    exact ⟨rfl, by omega, fun i hi => by omega, fun i j hi => by omega⟩
                  · have w10 := (x2 u' hu').2.2.2.2.2.2.2.2.2 v' hv'
                    have t := z49 (24 * u' + v') (by omega)
                    rw [yo 21 u' v' (by omega) (by omega), yo 22 u' v' (by omega) (by omega), w10.1, w10.2, t.1, t.2]
                    exact ⟨rfl, rfl⟩
                  · rw [z21, yo 1 0 5 (by omega) (by omega), x11]; simp [ue]
                  · rw [z21]; omega
                  · rw [z21] at hi; omega
                  · rw [z26, yo 1 1 5 (by omega) (by omega), x11]; simp [ue]
                  · rw [z26]; omega
                  · rw [z26] at hi; omega
                have IVf : IV N (fun _ => 0) z := by
                  refine ⟨⟨by rw [z21]; omega, fun s hs' => ?_⟩, fun s i hs' hi => ?_, fun s hs' => ?_, fun s hs' hp' => ?_, fun k hk' => ?_, fun w hw => ?_, fun i j hij hj => ?_, fun k hk' => ?_, ?_⟩
                  · rw [z00] at hs'; rw [(zst s hs').2.2.2.1]; omega
                  · rw [z00] at hs'; rw [(zst s hs').2.2.2.2.2.2.2] at hi; omega
                  · rw [z00] at hs'
                    obtain ⟨q1, e, q2⟩ := z3
                    by_cases cs : s = a
                    · right; left; rw [cs]; exact q1
                    · have q3 := (q2 s hs' cs (z4 s hs')).2.1
                      right; right
                      rw [z35]
                      exact ⟨q3.2.1, q3.2.2⟩
                  · rw [z00] at hs'; rw [(zst s hs').2.1] at hp'; omega
                  · rw [z21] at hk'; omega
                  · rw [(z49 w hw).1, (z49 w hw).2, z21]
                    exact ⟨Nat.le_refl _, by omega, Nat.le_refl _, by omega, fun x' => ⟨fun q => by omega, fun ⟨k, k1, _⟩ => by omega⟩⟩
                  · rw [z21] at hj; omega
                  · rw [z26] at hk'; omega
                  · obtain ⟨q1, e, q2⟩ := z3
                    refine ⟨a, e, by rw [z00]; exact hs, fun x' hx' hx2 hx3 => ?_, Or.inl ⟨q1, fun k hk' => by rw [z21] at hk'; omega⟩⟩
                    rw [z00] at hx'
                    exact (q2 x' hx' hx3 hx2).2.2.2
                exact SM_x (M := N) (lo := fun _ => 0) ec em rfl sAf IVf (by omega) z01
    · exact SM_e h (by unfold P_X4_open; rw [if_pos oc, qa, bd_s, if_neg hs, if_pos sv_0]) (by unfold P_X5_open; rw [if_pos o1, st_m h ha, bd_s, if_neg hs, if_pos sv_0])
end OPEN
