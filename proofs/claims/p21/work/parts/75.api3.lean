/-! ===== begin and step ===== -/
section API3
variable {B : mg_F × mg_F} {N : Nat} {gc gm : mg_F}
theorem q_tell {a : Nat} {g : mg_F} (hn : g 0 0 1 < 25) : ∃ g', P_X4_tellOthersOfBegin a g = some (0, g') ∧ ∀ k i j, ¬ (k = 3 ∧ (j = 9 ∨ j = 10)) → g' k i j = g k i j := by
  unfold P_X4_tellOthersOfBegin
  obtain ⟨x, e1, e2⟩ := lp_ex (L := fun n x v => L_X4_tellOthersOfBegin_2 a (fun w10 g11 => some (0, g11)) n v x) (K := fun x => some (0, x)) (I := fun v x => ∀ k i j, ¬ (k = 3 ∧ (j = 9 ∨ j = 10)) → x k i j = g k i j) (N := g 0 0 1) (by
    intro n x v hv hI
    have e0 : x 0 0 1 = g 0 0 1 := hI 0 0 1 (by omega)
    by_cases c1 : sv v = sv a
    · refine ⟨x, ?_, hI⟩
      show L_X4_tellOthersOfBegin_2 a _ (n + 1) v x = _
      rw [L_X4_tellOthersOfBegin_2, e0, if_pos ((sv_ltN (by omega) (by omega)).mpr hv), jn_s, if_pos c1]
    · by_cases c2 : sv (x 3 v 9) = 0
      · refine ⟨x, ?_, hI⟩
        show L_X4_tellOthersOfBegin_2 a _ (n + 1) v x = _
        rw [L_X4_tellOthersOfBegin_2, e0, if_pos ((sv_ltN (by omega) (by omega)).mpr hv), jn_s, if_neg c1, ck_t (by omega), if_pos c2]
      · refine ⟨mg_up x 3 v 10 (x 3 v 10 + 1), ?_, fun k i j hk => ?_⟩
        · show L_X4_tellOthersOfBegin_2 a _ (n + 1) v x = _
          rw [L_X4_tellOthersOfBegin_2, e0, if_pos ((sv_ltN (by omega) (by omega)).mpr hv), jn_s, if_neg c1, ck_t (by omega), if_neg c2, wr_s]
        · rw [ue, if_neg (by omega)]; exact hI k i j hk) (by
    intro n x hI
    have e0 : x 0 0 1 = g 0 0 1 := hI 0 0 1 (by omega)
    show L_X4_tellOthersOfBegin_2 a _ (n + 1) _ x = _
    rw [L_X4_tellOthersOfBegin_2, e0, if_neg (by omega)]) (g 0 0 1) 4000 g 0 (by omega) (by omega) (fun _ _ _ _ => rfl)
  exact ⟨x, e2, e1⟩
theorem m_tell {a b : Nat} (h : sA B gc gm) : ∃ g', L_X5_begin_133 a b (fun w32 g33 => some (0, g33)) 4000 0 gm = some (0, g') ∧ ∀ k i j, k ≠ 43 → k ≠ 61 → k ≠ 62 → g' k i j = gm k i j := by
  have hn := h.2.1.2.2.2.2.1
  obtain ⟨x, e1, e2⟩ := lp_ex (L := fun n x v => L_X5_begin_133 a b (fun w10 g11 => some (0, g11)) n v x) (K := fun x => some (0, x)) (I := fun v x => ∀ k i j, k ≠ 43 → x k i j = gm k i j) (N := gm 5 0 0) (by
    intro n x v hv hI
    have e0 : x 5 0 0 = gm 5 0 0 := hI 5 0 0 (by omega)
    obtain ⟨q1, q2, q3, q4, q5⟩ := mq h hv
    have keep : ∀ w, ∀ k i j, k ≠ 43 → mg_up x 43 0 v w k i j = gm k i j := fun w k i j hk => by
      rw [ue, if_neg (fun q => hk q.1)]; exact hI k i j hk
    have e46 : x 46 0 v = gm 46 0 v := hI 46 0 v (by omega)
    have e47 : ∀ i, x 47 0 (24 * v + i) = gm 47 0 (24 * v + i) := fun i => hI 47 0 _ (by omega)
    by_cases c1 : sv v = sv a
    · refine ⟨mg_up x 43 0 v (x 43 0 v + 0), ?_, keep _⟩
      show L_X5_begin_133 a b _ (n + 1) v x = _
      rw [L_X5_begin_133, e0, if_pos ((sv_ltN (by omega) (by omega)).mpr hv), ck_t (by omega), jn_s, if_pos c1]
      rfl
    · have em : P_X5_placeOf v v x = some (fm (fs (fun i => x 47 0 (24 * v + i) == v) (x 46 0 v) 0), x) := by
        refine m_pl (by omega) (by rw [e46]; exact q1) (by omega) (fun i hi => ?_) (fun i j hi hj => ?_)
        · rw [e47]; rw [e46] at hi; exact q2 i hi
        · rw [e47, e47]; rw [e46] at hi hj; exact q3 i j hi hj
      by_cases c2 : sv (fm (fs (fun i => x 47 0 (24 * v + i) == v) (x 46 0 v) 0)) < 0
      · refine ⟨mg_up x 43 0 v (x 43 0 v + 0), ?_, keep _⟩
        show L_X5_begin_133 a b _ (n + 1) v x = _
        rw [L_X5_begin_133, e0, if_pos ((sv_ltN (by omega) (by omega)).mpr hv), ck_t (by omega), jn_s, if_neg c1, em, bd_s, if_pos c2]
        rfl
      · refine ⟨mg_up x 43 0 v (x 43 0 v + 1), ?_, keep _⟩
        show L_X5_begin_133 a b _ (n + 1) v x = _
        rw [L_X5_begin_133, e0, if_pos ((sv_ltN (by omega) (by omega)).mpr hv), ck_t (by omega), jn_s, if_neg c1, em, bd_s, if_neg c2]
        rfl) (by
    intro n x hI
    have e0 : x 5 0 0 = gm 5 0 0 := hI 5 0 0 (by omega)
    show L_X5_begin_133 a b _ (n + 1) _ x = _
    rw [L_X5_begin_133, e0, if_neg (by omega)]) (gm 5 0 0) 4000 gm 0 (by omega) (by omega) (fun _ _ _ _ => rfl)
  exact ⟨x, e2, fun k i j h1 _ _ => e1 k i j h1⟩
theorem b_t2 {M a b : Nat} {lo : Nat → Nat} (h : sA B gc gm) (hI : IV M lo gm) (hM : M ≤ N + 2) (ho : gm 5 0 1 = 1) (hp : gm 36 0 a = a) : SM B (N + 2) (wr (mg_up gc 3 a 5 1) fun g26 => wr (mg_up g26 4 0 9 ((g26 4 0 9) + 1)) fun g27 => bd (P_X4_tellOthersOfBegin a g27) fun _ g29 => some (0, g29)) (wr (mg_up gm 38 0 a 1) fun g30 => wr (mg_up g30 5 0 15 ((g30 5 0 15) + 1)) fun g31 => L_X5_begin_133 a b (fun w32 g33 => some (0, g33)) 4000 0 g31) := by
  have h1 := p_begun (v := gm 5 0 15 + 1) (p_f5 (s := a) h (show 1 < 2 by omega))
  have hH := h.2.2.2.1.2.2.1
  have e9 : (mg_up gc 3 a 5 1) 4 0 9 = gm 5 0 15 := by rw [← hH]; simp [ue]
  have e15 : (mg_up gm 38 0 a 1) 5 0 15 = gm 5 0 15 := by simp [ue]
  obtain ⟨x, x1, x2⟩ := q_tell (a := a) (g := mg_up (mg_up gc 3 a 5 1) 4 0 9 (gm 5 0 15 + 1)) (by rw [h1.2.1.2.2.1]; exact h.2.1.2.2.2.2.1)
  obtain ⟨y, y1, y2⟩ := m_tell (a := a) (b := b) h1
  rw [wr_s, wr_s, wr_s, wr_s, e9, e15, x1, y1, bd_s]
  refine ⟨0, x, 0, y, rfl, rfl, rfl, TT_mono (TT_o (p_irr h1 x2 y2) (lo := lo) (N := M) ?_ ?_) hM⟩
  · refine IV_irr ?_ y2
    exact show IV M lo (mg_up gm 38 0 a 1) from IV_38 (fun _ => hp) hI
  · rw [y2 5 0 1 (by omega) (by omega) (by omega)]; exact ho
theorem b_t1 {a pl : Nat} {lo : Nat → Nat} (h : sA B gc gm) (hI : IV N lo gm) (ho : gm 5 0 1 = 1) (hs : a < gm 5 0 0) (hp : gm 36 0 a = a) (hpl : pl < gm 46 0 a) : SM B (N + 2) (bd (P_X2_serve a pl gc) fun _ g20 => jn (α := Nat) (fun x24 g25 => wr (mg_up g25 3 a 5 1) fun g26 => wr (mg_up g26 4 0 9 ((g26 4 0 9) + 1)) fun g27 => bd (P_X4_tellOthersOfBegin a g27) fun _ g29 => some (0, g29)) fun kj22 => if 0 < sv (g20 2 a 2) then (wr (mg_up g20 3 a 7 ((g20 3 a 7) + 1)) fun g30 => kj22 0 g30) else (kj22 0 g20)) (bd (P_X5_leave a pl gm) fun _ g23 => jn (α := Nat) (fun x27 g28 => wr (mg_up g28 40 0 a ((g23 40 0 a) + x27)) fun g29 => wr (mg_up g29 38 0 a 1) fun g30 => wr (mg_up g30 5 0 15 ((g30 5 0 15) + 1)) fun g31 => L_X5_begin_133 a pl (fun w32 g33 => some (0, g33)) 4000 0 g31) fun kj25 => if 0 < sv (g23 46 0 a) then (kj25 1 g23) else (kj25 0 g23)) := by
  have hn := h.2.1.2.2.2.2.1
  obtain ⟨cq1, cq2, cq3, cq4⟩ := aq h hs
  obtain ⟨mq1, mq2, mq3, mq4, mq5⟩ := mq h hs
  have hq1 := (h.2.2.2.2.2.1 a hs).1
  have h2 := p_lv hs hpl h
  have hI2 := IV_lv (by omega) (fun t ht => (mq h ht).1) hs hpl hI
  have e2 : qsrv gc a pl 2 a 2 = gm 46 0 a - 1 := by rw [← hq1]; simp [qsrv]
  have e46 : mlv gm a pl 46 0 a = gm 46 0 a - 1 := by simp [mlv]
  have e7 : qsrv gc a pl 3 a 7 = mlv gm a pl 40 0 a := (h2.2.2.2.2.1 a hs).2.2.2.2.2.1
  rw [q_qsrv cq1 (by omega) cq4, bd_s, m_lv (by omega) mq1 hpl mq5, bd_s, jn_s, jn_s, e2, e46]
  by_cases c : 0 < gm 46 0 a - 1
  · have c' : 0 < sv (gm 46 0 a - 1) := by rw [sv_gt0N (by omega)]; exact c
    rw [if_pos c', if_pos c', wr_s, e7]
    dsimp only
    rw [wr_s]
    have hrow : mlv gm a pl 40 0 a ≤ N := hI2.1.2 a hs
    exact b_t2 (M := N + 1) (lo := lo) (p_f7 h2 trivial) (IV_40 (by omega) (by omega) hI2) (by omega) ho hp
  · have c' : ¬ 0 < sv (gm 46 0 a - 1) := by rw [sv_gt0N (by omega)]; exact c
    rw [if_neg c', if_neg c']
    dsimp only
    rw [show mlv gm a pl 40 0 a + 0 = mlv gm a pl 40 0 a from rfl, up_same, wr_s]
    exact b_t2 (M := N) (lo := lo) h2 hI2 (by omega) ho hp
theorem SM_cg {M : Nat} {oc om oc' om' : mo} (h : SM B M oc' om') (e1 : oc = oc') (e2 : om = om') : SM B M oc om := by rw [e1, e2]; exact h
theorem fpl_eq {s : Nat} (h : sA B gc gm) (hs : s < gm 5 0 0) : fpl s (gc 4 0 7) (gc 4 0 8) (gc 3 s 7) (gc 2 s 2) (gc 16 s) (gc 17 s) = fpl s (gm 5 0 2) (gm 5 0 3) (gm 40 0 s) (gm 46 0 s) (fun i => gm 47 0 (24 * s + i)) (fun i => gm 48 0 (24 * s + i)) := by
  obtain ⟨q1, q2, q3, q4⟩ := h.2.2.2.2.2.1 s hs
  rw [q1, h.2.2.2.1.1, h.2.2.2.1.2.1, (h.2.2.2.2.1 s hs).2.2.2.2.2.1]
  exact fpl_congr (fun i hi => (q3 i hi).1) (fun i hi => (q3 i hi).2.1)
theorem s_begin {a : Nat} (h : TT B N gc gm) (ha : a < 4294967296) (hN : N < 2147483648) : SM B (N + 2) (P_X4_begin a gc) (P_X5_begin a gm) := by
  by_cases hu : gm 5 0 1 = 1 ∧ a < gm 5 0 0 ∧ gm 39 0 a = 0
  · have hu' := hu
    obtain ⟨ho, hs, hd⟩ := hu'
    obtain ⟨hA, lo, hI⟩ := h.2.2.2.1 ho
    obtain ⟨g1, g2, g3, g4, g5, g6⟩ := h.2.1
    obtain ⟨k1, k2, k3, k4, k5⟩ := hA.2.2.2.1
    have hF := hA.2.2.2.2.1 a hs
    have h24 : a < 24 := by omega
    obtain ⟨cq1, cq2, cq3, cq4⟩ := aq hA hs
    obtain ⟨mq1, mq2, mq3, mq4, mq5⟩ := mq hA hs
    have hQ := hA.2.2.2.2.2.1 a hs
    have hrow : gm 40 0 a ≤ N := hI.1.2 a hs
    have ecp : ∀ k : Nat → mg_F → mo, bd (P_X3_firstPlace a (gc 4 0 7) (gc 4 0 8) gc) k = k (fpl a (gm 5 0 2) (gm 5 0 3) (gm 40 0 a) (gm 46 0 a) (fun i => gm 47 0 (24 * a + i)) (fun i => gm 48 0 (24 * a + i))) gc := fun k => by
      rw [q_first h24 cq1 cq2 cq3 (by omega) (by omega) (by omega), bd_s, fpl_eq hA hs]
    have ehd : ∀ k : Nat → mg_F → mo, bd (P_X3_holds a gc) k = k (if gm 36 0 a = a then 1 else 0) gc := fun k => by
      rw [q_holds h24 (by omega), bd_s, hF.1]
    by_cases hp : gm 36 0 a = a
    · have hp' : sv (gm 36 0 a) = sv a := by rw [hp]
      by_cases h4 : gm 38 0 a = 0
      · have e2 : sv (gm 38 0 a) = 0 := by rw [h4, sv_0]
        by_cases h5 : gm 46 0 a = 0
        · have ef : fpl a (gm 5 0 2) (gm 5 0 3) (gm 40 0 a) (gm 46 0 a) (fun i => gm 47 0 (24 * a + i)) (fun i => gm 48 0 (24 * a + i)) = 4294967294 := by unfold fpl; rw [if_pos h5]
          exact SM_e h (by unfold P_X4_begin; rw [up_c h ha, bd_s, if_pos hu, if_neg sv10, ck_t h24, ecp, ef, ehd, if_pos hp, if_neg sv10, hF.2.2.2.1, if_pos e2, if_pos rfl]) (by unfold P_X5_begin; rw [up_m h ha, bd_s, if_pos hu, if_neg sv10, ck_t h24, if_pos hp', if_pos e2, if_pos (by rw [h5, sv_0])])
        · have hf := fpl_lt (s := a) (rule := gm 5 0 2) (greed := gm 5 0 3) (row := gm 40 0 a) (who := fun i => gm 47 0 (24 * a + i)) (ranks := fun i => gm 48 0 (24 * a + i)) (show 0 < gm 46 0 a by omega)
          have hmf := m_first (s := a) h24 (by omega) mq1 mq2 mq3 mq4 k4 (by omega) (by omega)
          generalize fpl a (gm 5 0 2) (gm 5 0 3) (gm 40 0 a) (gm 46 0 a) (fun i => gm 47 0 (24 * a + i)) (fun i => gm 48 0 (24 * a + i)) = f at *
          obtain ⟨w1, w2, w3, w4⟩ := hQ.2.2.1 f hf
          have n5 : ¬ sv (gm 46 0 a) = 0 := by rw [sv_eq0N (by omega)]; exact h5
          have nf : ¬ sv f = sv 4294967294 := by rw [sv_eqN (by omega) (by omega)]; omega
          by_cases h6 : gm 47 0 (24 * a + f) = a
          · have e6 : sv (gm 47 0 (24 * a + f)) = sv a := by rw [h6]
            have hfs : fs (fun i => gm 47 0 (24 * a + i) == a) (gm 46 0 a) 0 = f := by
              refine fs_at hf (by simpa using h6) (fun i hi => ?_)
              have : gm 47 0 (24 * a + i) ≠ a := fun q => by
                have := mq3 i f (by omega) hf (q.trans h6.symm); omega
              simpa using this
            have hfm : fm f = f := by unfold fm; rw [if_neg (by omega)]
            by_cases c : 0 < f
            · have c' : 0 < sv f := by rw [sv_gt0N (by omega)]; exact c
              refine SM_cg (b_t1 (lo := lo) (a := a) (pl := f) (p_f11 (s := a) (v := gm 44 0 a + 1) hA trivial) (show IV N lo (mg_up gm 44 0 a (gm 44 0 a + 1)) from hI) ho hs hp hf) ?_ ?_
              · unfold P_X4_begin
                rw [up_c h ha, bd_s, if_pos hu, if_neg sv10, ck_t h24, ecp, ehd, if_pos hp, if_neg sv10, hF.2.2.2.1, if_pos e2, if_neg nf, ck_t (by omega), w1, if_pos e6, jn_s, if_pos c', wr_s, hF.2.2.2.2.2.2.2.1]
              · unfold P_X5_begin P_X5_entry
                rw [up_m h ha, bd_s, if_pos hu, if_neg sv10, ck_t h24, if_pos hp', if_pos e2, if_neg n5, hmf, bd_s, bd_s, ck_t (by omega), if_pos e6, m_pl h24 mq1 (by omega) mq2 mq3, bd_s, hfs, hfm, jn_s, if_pos c']
                rfl
            · have c' : ¬ 0 < sv f := by rw [sv_gt0N (by omega)]; exact c
              refine SM_cg (b_t1 (lo := lo) (a := a) (pl := f) hA hI ho hs hp hf) ?_ ?_
              · unfold P_X4_begin
                rw [up_c h ha, bd_s, if_pos hu, if_neg sv10, ck_t h24, ecp, ehd, if_pos hp, if_neg sv10, hF.2.2.2.1, if_pos e2, if_neg nf, ck_t (by omega), w1, if_pos e6, jn_s, if_neg c']
              · unfold P_X5_begin P_X5_entry
                rw [up_m h ha, bd_s, if_pos hu, if_neg sv10, ck_t h24, if_pos hp', if_pos e2, if_neg n5, hmf, bd_s, bd_s, ck_t (by omega), if_pos e6, m_pl h24 mq1 (by omega) mq2 mq3, bd_s, hfs, hfm, jn_s, if_neg c']
                dsimp only
                rw [show gm 44 0 a + 0 = gm 44 0 a from rfl, up_same, wr_s]
          · have e6 : ¬ sv (gm 47 0 (24 * a + f)) = sv a := by rw [sv_eqN (by omega) (by omega)]; exact h6
            exact SM_e h (by unfold P_X4_begin; rw [up_c h ha, bd_s, if_pos hu, if_neg sv10, ck_t h24, ecp, ehd, if_pos hp, if_neg sv10, hF.2.2.2.1, if_pos e2, if_neg nf, ck_t (by omega), w1, if_neg e6]) (by unfold P_X5_begin P_X5_entry; rw [up_m h ha, bd_s, if_pos hu, if_neg sv10, ck_t h24, if_pos hp', if_pos e2, if_neg n5, hmf, bd_s, bd_s, ck_t (by omega), if_neg e6])
      · have e2 : ¬ sv (gm 38 0 a) = 0 := by rw [sv_eq0N (by omega)]; exact h4
        exact SM_e h (by unfold P_X4_begin; rw [up_c h ha, bd_s, if_pos hu, if_neg sv10, ck_t h24, ecp, ehd, if_pos hp, if_neg sv10, hF.2.2.2.1, if_neg e2]) (by unfold P_X5_begin; rw [up_m h ha, bd_s, if_pos hu, if_neg sv10, ck_t h24, if_pos hp', if_neg e2])
    · have hp' : ¬ sv (gm 36 0 a) = sv a := by rw [sv_eqN (by omega) (by omega)]; exact hp
      exact SM_e h (by unfold P_X4_begin; rw [up_c h ha, bd_s, if_pos hu, if_neg sv10, ck_t h24, ecp, ehd, if_neg hp, if_pos sv_0]) (by unfold P_X5_begin; rw [up_m h ha, bd_s, if_pos hu, if_neg sv10, ck_t h24, if_neg hp'])
  · exact SM_e h (by unfold P_X4_begin; rw [up_c h ha, bd_s, if_neg hu, if_pos sv_0]) (by unfold P_X5_begin; rw [up_m h ha, bd_s, if_neg hu, if_pos sv_0])
theorem qsrv_up3 {g : mg_F} {i j v q a : Nat} : qsrv (mg_up g 3 i j v) q a = mg_up (qsrv g q a) 3 i j v := by
  funext x y z
  unfold qsrv
  simp only [ue]
  by_cases c : x = 3
  · subst c; simp
  · have e : ∀ k', k' ≠ 3 → mg_up g 3 i j v k' q = g k' q := fun k' hk => by unfold mg_up; exact upr_ne hk
    simp [c, e]
theorem mwrite_k {w b c k i j : Nat} (hk : k ≠ 5) (hk2 : k < 49) : mwrite gm w b c k i j = gm k i j := by
  have e1 : ∀ g : mg_F, ∀ x y z u, msend g x y z u k i j = g k i j := fun g x y z u => by
    unfold msend; split
    · rfl
    · simp only [ue]; rw [if_neg (by omega), if_neg (by omega), if_neg (by omega), if_neg (by omega), if_neg (by omega)]
  have e2 : ∀ g : mg_F, ∀ x, msf g x k i j = g k i j := fun g x => by
    unfold msf; split
    · rfl
    · rw [e1]
  have e3 : mlet gm w b c k i j = gm k i j := by
    unfold mlet
    simp only [ue]; rw [if_neg (by omega), if_neg (by omega), if_neg (by omega), if_neg (by omega), if_neg (by omega), if_neg (by omega)]
  unfold mwrite; split
  · rw [e2, e3]
  · rw [e3]
theorem mwrite_n {w b c : Nat} : mwrite gm w b c 5 0 0 = gm 5 0 0 := by
  have e1 : ∀ g : mg_F, ∀ x y z u, msend g x y z u 5 0 0 = g 5 0 0 := fun g x y z u => by unfold msend; split <;> rfl
  have e2 : ∀ g : mg_F, ∀ x, msf g x 5 0 0 = g 5 0 0 := fun g x => by
    unfold msf; split
    · rfl
    · rw [e1]
  unfold mwrite; split
  · rw [e2]; rfl
  · rfl
theorem s_step {a : Nat} (h : TT B N gc gm) (ha : a < 4294967296) (hN : N ≤ 1022) : SM B (N + 2) (P_X4_step a gc) (P_X5_step a gm) := by
  by_cases hu : gm 5 0 1 = 1 ∧ a < gm 5 0 0 ∧ gm 39 0 a = 0
  · have hu' := hu
    obtain ⟨ho, hs, hd⟩ := hu'
    obtain ⟨hA, lo, hI⟩ := h.2.2.2.1 ho
    obtain ⟨g1, g2, g3, g4, g5, g6⟩ := h.2.1
    obtain ⟨k1, k2, k3, k4, k5⟩ := hA.2.2.2.1
    have hF := hA.2.2.2.2.1 a hs
    have h24 : a < 24 := by omega
    obtain ⟨cq1, cq2, cq3, cq4⟩ := aq hA hs
    obtain ⟨mq1, mq2, mq3, mq4, mq5⟩ := mq hA hs
    obtain ⟨ml1, ml2, ml3, ml4⟩ := ml hA
    have hQ := hA.2.2.2.2.2.1 a hs
    have hrow : gm 40 0 a ≤ N := hI.1.2 a hs
    have hlet : gm 5 0 21 ≤ N := hI.1.1
    have ecan : ∀ k : Nat → mg_F → mo, bd (P_X4_canPassOn a gc) k = k (if gm 36 0 a = a ∧ gm 38 0 a = 0 ∧ 0 < gm 46 0 a ∧ gc 16 a (fpl a (gm 5 0 2) (gm 5 0 3) (gm 40 0 a) (gm 46 0 a) (fun i => gm 47 0 (24 * a + i)) (fun i => gm 48 0 (24 * a + i))) ≠ a then 1 else 0) gc := fun k => by
      rw [q_cpo h24 cq1 cq2 cq3 (by omega) (by omega) (by omega) (by omega) (by omega), bd_s, fpl_eq hA hs, hF.1, hF.2.2.2.1, hQ.1]
    have eaw : ∀ k : Nat → mg_F → mo, bd (P_X3_pointsAway a gc) k = k (if gm 36 0 a = a ∨ gm 36 0 a = 4294967294 then 0 else 1) gc := fun k => by
      rw [q_away h24 (by omega), bd_s, hF.1]
    by_cases h5 : gm 46 0 a = 0
    · refine SM_e (r := 0) h ?_ (by unfold P_X5_step; rw [up_m h ha, bd_s, if_pos hu, if_neg sv10, ck_t h24, if_pos (by rw [h5, sv_0])])
      unfold P_X4_step
      rw [up_c h ha, bd_s, if_pos hu, if_neg sv10, ck_t h24, ecan, if_neg (show ¬ (gm 36 0 a = a ∧ gm 38 0 a = 0 ∧ 0 < gm 46 0 a ∧ _) from fun q => by omega), if_pos sv_0, eaw]
      by_cases c : gm 36 0 a = a ∨ gm 36 0 a = 4294967294
      · rw [if_pos c, if_pos sv_0]
      · rw [if_neg c, if_neg sv10, hQ.1, if_pos (by rw [h5, sv_0])]
    · have h0 : 0 < gm 46 0 a := by omega
      have n5 : ¬ sv (gm 46 0 a) = 0 := by rw [sv_eq0N (by omega)]; exact h5
      have hf := fpl_lt (s := a) (rule := gm 5 0 2) (greed := gm 5 0 3) (row := gm 40 0 a) (who := fun i => gm 47 0 (24 * a + i)) (ranks := fun i => gm 48 0 (24 * a + i)) h0
      have hmf := m_first (s := a) h24 (by omega) mq1 mq2 mq3 mq4 k4 (by omega) (by omega)
      have ecp : P_X3_firstPlace a (gc 4 0 7) (gc 4 0 8) gc = some (fpl a (gm 5 0 2) (gm 5 0 3) (gm 40 0 a) (gm 46 0 a) (fun i => gm 47 0 (24 * a + i)) (fun i => gm 48 0 (24 * a + i)), gc) := by
        rw [q_first h24 cq1 cq2 cq3 (by omega) (by omega) (by omega), fpl_eq hA hs]
      generalize fpl a (gm 5 0 2) (gm 5 0 3) (gm 40 0 a) (gm 46 0 a) (fun i => gm 47 0 (24 * a + i)) (fun i => gm 48 0 (24 * a + i)) = f at *
      obtain ⟨w1, w2, w3, w4⟩ := hQ.2.2.1 f hf
      rw [w1] at ecan
      by_cases hp : gm 36 0 a = a
      · have hp' : sv (gm 36 0 a) = sv a := by rw [hp]
        by_cases h6 : gm 38 0 a = 0 ∧ gm 47 0 (24 * a + f) ≠ a
        · obtain ⟨h6a, h6b⟩ := h6
          have e2 : sv (gm 38 0 a) = 0 := by rw [h6a, sv_0]
          have e6 : ¬ sv (gm 47 0 (24 * a + f)) = sv a := by rw [sv_eqN (by omega) (by omega)]; exact h6b
          have hlk : gm 35 0 (24 * a + gm 47 0 (24 * a + f)) = 1 := by
            rcases hI.2.1 a f hs hf with q | q
            · exact absurd q h6b
            · exact q
          generalize hto : gm 47 0 (24 * a + f) = to at *
          have hto24 : to < 24 := by omega
          -- served
          have sA1 := p_lv hs hf hA
          have sA2 := p_f2 (s := a) (v := to) (p_f7 (s := a) (v := 0) sA1 trivial) (Or.inl w3)
          have est : mg_up (qsrv (mg_up gc 3 a 2 to) a f) 3 a 7 0 = mg_up (mg_up (qsrv gc a f) 3 a 7 0) 3 a 2 to := by
            rw [qsrv_up3, up_comm (j := 2) (j' := 7) (Or.inr (by omega))]
          have I1 := IV_lv (by omega) (fun t ht => (mq hA ht).1) hs hf hI
          have I2 := IV_40 (s := a) (v := 0) (N' := N) (by omega) (by omega) I1
          have I3 := IV_pass (gm := mg_up (mlv gm a f) 40 0 a 0) (t := to) (by exact g5) hs hto24 h6b hlk hp (by show gm 38 0 a ≠ 1; omega) I2
          have I4 : IV (N + 1) lo (mwrite (mg_up (mg_up (mlv gm a f) 40 0 a 0) 36 0 a to) (24 * a + to) 1 0) := by
            unfold mwrite; split
            · exact IV_sf (by omega) I3
            · exact I3
          have sA3 := p_write (gm := mg_up (mg_up (mlv gm a f) 40 0 a 0) 36 0 a to) (k := 1) (e := 0) h24 hto24 (by omega) (by omega) (show gm 5 0 21 < 1024 by omega) sA2
          have e46 : mwrite (mg_up (mg_up (mlv gm a f) 40 0 a 0) 36 0 a to) (24 * a + to) 1 0 46 0 a = gm 46 0 a - 1 := by
            rw [mwrite_k (by omega) (by omega)]; simp [ue, mlv]
          have e36 : mwrite (mg_up (mg_up (mlv gm a f) 40 0 a 0) 36 0 a to) (24 * a + to) 1 0 36 0 a = to := by
            rw [mwrite_k (by omega) (by omega)]; simp [ue]
          have en : mwrite (mg_up (mg_up (mlv gm a f) 40 0 a 0) 36 0 a to) (24 * a + to) 1 0 5 0 0 = gm 5 0 0 := by rw [mwrite_n]; rfl
          have eo : mwrite (mg_up (mg_up (mlv gm a f) 40 0 a 0) 36 0 a to) (24 * a + to) 1 0 5 0 1 = 1 := by rw [mwrite_o]; exact ho
          have e35 : mwrite (mg_up (mg_up (mlv gm a f) 40 0 a 0) 36 0 a to) (24 * a + to) 1 0 35 0 (24 * a + to) = 1 := by rw [mwrite_k (by omega) (by omega)]; exact hlk
          have hl4 := I4.1.1
          have qs := q_send (gm := mg_up (mg_up (mlv gm a f) 40 0 a 0) 36 0 a to) (k := 1) (e := 0) h24 hto24 (by omega) (by omega) (show gm 5 0 21 < 1024 by omega) sA2
          have qw : P_X5_write (24 * a + to) 1 0 (mg_up (mg_up (mlv gm a f) 40 0 a 0) 36 0 a to) = some (0, mwrite (mg_up (mg_up (mlv gm a f) 40 0 a 0) 36 0 a to) (24 * a + to) 1 0) :=
            m_write (show gm 5 0 21 < 1024 by omega) ml2 (by omega) ml3
          have c2 : (mg_up (mg_up (qsrv gc a f) 3 a 7 0) 3 a 2 to) 3 a 2 = to := by simp [ue]
          have hcl : csend (mg_up (mg_up (qsrv gc a f) 3 a 7 0) 3 a 2 to) 1 a to 0 2 a 2 = gm 46 0 a - 1 := by
            rw [(sA3.2.2.2.2.2.1 a (by rw [en]; exact hs)).1, e46]
          have ec0 : P_X4_step a gc = bd (P_X4_passOn a gc) fun _ g22 => some (1, g22) := by
            unfold P_X4_step
            rw [up_c h ha, bd_s, if_pos hu, if_neg sv10, ck_t h24, ecan, if_pos (show gm 36 0 a = a ∧ gm 38 0 a = 0 ∧ 0 < gm 46 0 a ∧ to ≠ a from ⟨hp, h6a, h0, h6b⟩), if_neg sv10]
          have ec1 : P_X4_passOn a gc = if 0 < sv (gm 46 0 a - 1) then (bd (P_X4_ask a (csend (mg_up (mg_up (qsrv gc a f) 3 a 7 0) 3 a 2 to) 1 a to 0)) fun _ g12 => some (0, g12)) else some (0, csend (mg_up (mg_up (qsrv gc a f) 3 a 7 0) 3 a 2 to) 1 a to 0) := by
            unfold P_X4_passOn
            rw [ecp, bd_s, ck_t (by omega), wr_s, w1, q_qsrv (g := mg_up gc 3 a 2 to) cq1 (by rw [← hQ.1] at hf; exact hf) cq4, bd_s, wr_s, est, c2, qs, bd_s, hcl]
          have em0 : P_X5_step a gm = if 0 < sv (gm 46 0 a - 1) then (bd (P_X5_writeAsk a (mwrite (mg_up (mg_up (mlv gm a f) 40 0 a 0) 36 0 a to) (24 * a + to) 1 0)) fun _ g40 => some (1, g40)) else some (1, mwrite (mg_up (mg_up (mlv gm a f) 40 0 a 0) 36 0 a to) (24 * a + to) 1 0) := by
            unfold P_X5_step P_X5_entry
            rw [up_m h ha, bd_s, if_pos hu, if_neg sv10, ck_t h24, if_neg n5, if_pos hp', hmf, bd_s, bd_s, ck_t (by omega), if_pos e2, hto, if_neg e6, m_lv h24 mq1 hf mq5, bd_s, wr_s, wr_s, qw, bd_s, e46]
          rw [ec0, ec1, em0]
          by_cases c : 0 < gm 46 0 a - 1
          · have c' : 0 < sv (gm 46 0 a - 1) := by rw [sv_gt0N (by omega)]; exact c
            have sA4 := p_ask (s := a) (by rw [en]; exact hs) (by rw [e46]; exact c) (by rw [e36]; exact hto24) (by omega) sA3
            have qa := q_ask (s := a) (by rw [en]; exact hs) (by rw [e46]; exact c) (by rw [e36]; exact hto24) (by omega) sA3
            obtain ⟨mr1, mr2, mr3, mr4, mr5⟩ := mq (s := a) sA3 (by rw [en]; exact hs)
            obtain ⟨ms1, ms2, ms3, ms4⟩ := ml sA3
            have qm := m_ask (s := a) h24 (by rw [e46]; exact c) mr1 mr4 (by rw [e36]; exact hto24) (by omega) ms2 ms3
            have I5 := IV_ask (s := a) h24 (by rw [e36]; exact hto24) (by rw [e36]; exact e35) I4
            rw [if_pos c', if_pos c', qa, qm, bd_s, bd_s, bd_s]
            exact SM_x (M := N + 2) (lo := lo) rfl rfl rfl sA4 I5 (by omega) (by rw [mask_o]; exact eo)
          · have c' : ¬ 0 < sv (gm 46 0 a - 1) := by rw [sv_gt0N (by omega)]; exact c
            rw [if_neg c', if_neg c', bd_s]
            exact SM_x (M := N + 1) (lo := lo) rfl rfl rfl sA3 I4 (by omega) eo
        · refine SM_e (r := 0) h ?_ ?_
          · unfold P_X4_step
            rw [up_c h ha, bd_s, if_pos hu, if_neg sv10, ck_t h24, ecan, if_neg (show ¬ (gm 36 0 a = a ∧ gm 38 0 a = 0 ∧ 0 < gm 46 0 a ∧ gm 47 0 (24 * a + f) ≠ a) from fun q => h6 ⟨q.2.1, q.2.2.2⟩), if_pos sv_0, eaw, if_pos (Or.inl hp), if_pos sv_0]
          · unfold P_X5_step P_X5_entry
            rw [up_m h ha, bd_s, if_pos hu, if_neg sv10, ck_t h24, if_neg n5, if_pos hp', hmf, bd_s, bd_s, ck_t (by omega)]
            by_cases c : gm 38 0 a = 0
            · have c3 : gm 47 0 (24 * a + f) = a := Classical.byContradiction (fun q => h6 ⟨c, q⟩)
              rw [if_pos (by rw [c, sv_0]), if_pos (by rw [c3])]
            · rw [if_neg (by rw [sv_eq0N (by omega)]; exact c)]
      · have hp' : ¬ sv (gm 36 0 a) = sv a := by rw [sv_eqN (by omega) (by omega)]; exact hp
        have ncan : ¬ (gm 36 0 a = a ∧ gm 38 0 a = 0 ∧ 0 < gm 46 0 a ∧ gm 47 0 (24 * a + f) ≠ a) := fun q => hp q.1
        by_cases hNo : gm 36 0 a = 4294967294
        · have hNo' : sv (gm 36 0 a) = sv 4294967294 := by rw [hNo]
          exact SM_e (r := 0) h (by unfold P_X4_step; rw [up_c h ha, bd_s, if_pos hu, if_neg sv10, ck_t h24, ecan, if_neg ncan, if_pos sv_0, eaw, if_pos (Or.inr hNo), if_pos sv_0]) (by unfold P_X5_step; rw [up_m h ha, bd_s, if_pos hu, if_neg sv10, ck_t h24, if_neg n5, if_neg hp', if_pos hNo', if_pos hNo'])
        · have hNo' : ¬ sv (gm 36 0 a) = sv 4294967294 := by rw [sv_eqN (by omega) (by omega)]; exact hNo
          have naw : ¬ (gm 36 0 a = a ∨ gm 36 0 a = 4294967294) := fun q => by omega
          have hp24 : gm 36 0 a < 24 := by omega
          have hlk : gm 35 0 (24 * a + gm 36 0 a) = 1 := by
            rcases hI.2.2.1 a hs with q | q | q
            · exact absurd q hNo
            · exact absurd q hp
            · exact q.2
          have n5c : ¬ sv (gc 2 a 2) = 0 := by rw [hQ.1]; exact n5
          have qa := q_ask hs h0 hp24 (by omega) hA
          have qm := m_ask h24 h0 mq1 mq4 hp24 (by omega) ml2 ml3
          have sA4 := p_ask hs h0 hp24 (by omega) hA
          have I4 := IV_ask h24 hp24 hlk hI
          by_cases hk : gm 37 0 a = 0
          · have hk' : sv (gm 37 0 a) = 0 := by rw [hk, sv_0]
            exact SM_x (M := N + 1) (lo := lo) (rc := 2) (rm := 2) (by unfold P_X4_step; rw [up_c h ha, bd_s, if_pos hu, if_neg sv10, ck_t h24, ecan, if_neg ncan, if_pos sv_0, eaw, if_neg naw, if_neg sv10, if_neg n5c, hF.2.1, if_pos hk', qa, bd_s]) (by unfold P_X5_step; rw [up_m h ha, bd_s, if_pos hu, if_neg sv10, ck_t h24, if_neg n5, if_neg hp', if_neg hNo', if_pos hk', qm, bd_s]) rfl sA4 I4 (by omega) (by rw [mask_o]; exact ho)
          · have hk' : ¬ sv (gm 37 0 a) = 0 := by rw [sv_eq0N (by omega)]; exact hk
            by_cases hr : gm 5 0 2 = 2
            · have hr' : sv (gm 5 0 2) = sv 2 := by rw [hr]
              obtain ⟨ge1, ge2⟩ := gr_eq hA hs h0
              have qgr : P_X2_greatestRank a gc = some (gm 48 0 (24 * a + gp (fun i => gm 48 0 (24 * a + i)) (gm 46 0 a - 1) 1 0), gc) := by
                rw [q_gr cq1 (by omega) cq3, ge1]
              have qmr := m_gr (s := a) h24 h0 mq1 mq4
              by_cases hv : sv (gm 41 0 a) < sv (gm 48 0 (24 * a + gp (fun i => gm 48 0 (24 * a + i)) (gm 46 0 a - 1) 1 0))
              · exact SM_x (M := N + 1) (lo := lo) (rc := 3) (rm := 3) (by unfold P_X4_step; rw [up_c h ha, bd_s, if_pos hu, if_neg sv10, ck_t h24, ecan, if_neg ncan, if_pos sv_0, eaw, if_neg naw, if_neg sv10, if_neg n5c, hF.2.1, if_neg hk', k1, if_pos hr', qgr, bd_s, hF.2.2.1, if_pos hv, qa, bd_s]) (by unfold P_X5_step; rw [up_m h ha, bd_s, if_pos hu, if_neg sv10, ck_t h24, if_neg n5, if_neg hp', if_neg hNo', if_neg hk', if_neg hNo', if_pos hr', qmr, bd_s, if_pos hv, qm, bd_s]) rfl sA4 I4 (by omega) (by rw [mask_o]; exact ho)
              · exact SM_e (r := 0) h (by unfold P_X4_step; rw [up_c h ha, bd_s, if_pos hu, if_neg sv10, ck_t h24, ecan, if_neg ncan, if_pos sv_0, eaw, if_neg naw, if_neg sv10, if_neg n5c, hF.2.1, if_neg hk', k1, if_pos hr', qgr, bd_s, hF.2.2.1, if_neg hv]) (by unfold P_X5_step; rw [up_m h ha, bd_s, if_pos hu, if_neg sv10, ck_t h24, if_neg n5, if_neg hp', if_neg hNo', if_neg hk', if_neg hNo', if_pos hr', qmr, bd_s, if_neg hv])
            · have hr' : ¬ sv (gm 5 0 2) = sv 2 := by rw [sv_eqN (by omega) (by omega)]; exact hr
              exact SM_e (r := 0) h (by unfold P_X4_step; rw [up_c h ha, bd_s, if_pos hu, if_neg sv10, ck_t h24, ecan, if_neg ncan, if_pos sv_0, eaw, if_neg naw, if_neg sv10, if_neg n5c, hF.2.1, if_neg hk', k1, if_neg hr']) (by unfold P_X5_step; rw [up_m h ha, bd_s, if_pos hu, if_neg sv10, ck_t h24, if_neg n5, if_neg hp', if_neg hNo', if_neg hk', if_neg hNo', if_neg hr'])
  · exact SM_e h (by unfold P_X4_step; rw [up_c h ha, bd_s, if_neg hu, if_pos sv_0]) (by unfold P_X5_step; rw [up_m h ha, bd_s, if_neg hu, if_pos sv_0])
end API3
