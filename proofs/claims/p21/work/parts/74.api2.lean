/-! ===== more calls ===== -/
theorem up_comm {g : mg_F} {k i j v k' i' j' v' : Nat} (h : k ≠ k' ∨ j ≠ j') : mg_up (mg_up g k i j v) k' i' j' v' = mg_up (mg_up g k' i' j' v') k i j v := by
  funext x y z
  simp only [ue]
  by_cases c1 : x = k' ∧ y = i' ∧ z = j'
  · rw [if_pos c1]
    by_cases c2 : x = k ∧ y = i ∧ z = j
    · omega
    · rw [if_neg c2, if_pos c1]
  · rw [if_neg c1]
    by_cases c2 : x = k ∧ y = i ∧ z = j
    · rw [if_pos c2, if_pos c2]
    · rw [if_neg c2, if_neg c2, if_neg c1]
theorem IV_irr {N : Nat} {lo : Nat → Nat} {gm gm' : mg_F} (h : IV N lo gm) (h2 : ∀ k i j, k ≠ 43 → k ≠ 61 → k ≠ 62 → gm' k i j = gm k i j) : IV N lo gm' := by
  simpa [IV, IQ, IP, IM, IL, INu, IO, IC, CP, IR, unt, h2] using h
theorem IV_38 {N s v : Nat} {lo : Nat → Nat} {gm : mg_F} (hv : v = 1 → gm 36 0 s = s) (h : IV N lo gm) : IV N lo (mg_up gm 38 0 s v) := by
  obtain ⟨h0, hQ, hP, hM, hL, hN, hO, hC, hR⟩ := h
  refine ⟨h0, hQ, hP, fun x hx hx2 => ?_, hL, hN, hO, hC, hR⟩
  rw [ue] at hx2
  show gm 36 0 x = x
  by_cases c : x = s
  · rw [if_pos ⟨rfl, rfl, c⟩] at hx2
    rw [c]; exact hv hx2
  · rw [if_neg (fun q => c q.2.2)] at hx2
    exact hM x hx hx2
theorem IV_40 {N N' s v : Nat} {lo : Nat → Nat} {gm : mg_F} (hv : v ≤ N') (hN' : N ≤ N') (h : IV N lo gm) : IV N' lo (mg_up gm 40 0 s v) := by
  obtain ⟨h0, hQ, hP, hM, hL, hN, hO, hC, hR⟩ := IV_mono h hN'
  refine ⟨⟨h0.1, fun x hx => ?_⟩, hQ, hP, hM, hL, hN, hO, hC, hR⟩
  rw [ue]
  split
  · exact hv
  · exact h0.2 x hx
def csend (g : mg_F) (k a b e : Nat) : mg_F := if fs (fun i => g 12 0 i == a && g 13 0 i == b) (g 1 0 5) 0 = 4294967294 then cpf (mg_up (ladd g 0 k a b (g 21 a b) e) 21 a b (g 21 a b + 1)) a b else mg_up (ladd g 0 k a b (g 21 a b) e) 21 a b (g 21 a b + 1)
section API2
variable {B : mg_F × mg_F} {N : Nat} {gc gm : mg_F}
theorem p_write {k a b e : Nat} (ha : a < 24) (hb : b < 24) (hk : k < 2) (he : e ≤ 1000) (hl : gm 5 0 21 < 1024) (h : sA B gc gm) : sA B (csend gc k a b e) (mwrite gm (24 * a + b) k e) := by
  have h1 := p_let (k := k) ha hb hk he hl h
  unfold csend mwrite
  rw [p_fs hb h]
  by_cases c : fs (fun i => gm 52 0 i == 24 * a + b) (gm 5 0 21) 0 = 4294967294
  · rw [if_pos c, if_pos c]; exact p_sf ha hb h1
  · rw [if_neg c, if_neg c]; exact h1
theorem q_send {k a b e : Nat} (ha : a < 24) (hb : b < 24) (hk : k < 2) (he : e ≤ 1000) (hl : gm 5 0 21 < 1024) (h : sA B gc gm) : P_X4_send k a b e gc = some (0, csend gc k a b e) := by
  obtain ⟨l1, l2, l3, l4⟩ := al h
  have hlc : gc 1 0 5 = gm 5 0 21 := h.2.2.2.2.2.2.2.1.1
  obtain ⟨m1, m2, m3, m4⟩ := al (p_let (k := k) ha hb hk he hl h)
  have e21 : ladd gc 0 k a b (gc 21 a b) e 21 a b = gc 21 a b := by
    unfold ladd; split <;> rfl
  unfold P_X4_send csend
  rw [q_fb l1 (by omega) (by omega) l3, bd_s, jn_s]
  have f1 := fs_spec (fun i => gc 12 0 i == a && gc 13 0 i == b) (gc 1 0 5) 0
  by_cases c : fs (fun i => gc 12 0 i == a && gc 13 0 i == b) (gc 1 0 5) 0 = 4294967294
  · rw [c, if_pos rfl, if_pos rfl]
    dsimp only
    rw [ck_t ha, ck_t hb, q_ladd l1, bd_s, e21, wr_s, if_neg sv10, q_cpf m1 m2 (by omega) (by omega) m3, bd_s]
  · rw [if_neg c, if_neg (by rw [sv_eqN (by omega) (by omega)]; exact c)]
    dsimp only
    rw [ck_t ha, ck_t hb, q_ladd l1, bd_s, e21, wr_s, if_pos sv_0]
def cask (g : mg_F) (s : Nat) : mg_F := csend (mg_up (mg_up g 3 s 4 (g 17 s (gp (g 17 s) (g 2 s 2 - 1) 1 0))) 3 s 3 1) 0 s (g 3 s 2) (g 17 s (gp (g 17 s) (g 2 s 2 - 1) 1 0))
theorem gr_eq {s : Nat} (h : sA B gc gm) (hs : s < gm 5 0 0) (h0 : 0 < gm 46 0 s) : gc 17 s (gp (gc 17 s) (gc 2 s 2 - 1) 1 0) = gm 48 0 (24 * s + gp (fun i => gm 48 0 (24 * s + i)) (gm 46 0 s - 1) 1 0) ∧ gc 17 s (gp (gc 17 s) (gc 2 s 2 - 1) 1 0) ≤ 1000 := by
  obtain ⟨q1, q2, q3, q4⟩ := h.2.2.2.2.2.1 s hs
  rw [q1, gp_congr (f' := fun i => gm 48 0 (24 * s + i)) (N := gm 46 0 s) (fun i hi => (q3 i hi).2.1) (gm 46 0 s - 1) 1 0 (by omega) (by omega)]
  have hlt := gp_lt (fun i => gm 48 0 (24 * s + i)) (gm 46 0 s) (gm 46 0 s - 1) 1 0 h0 (by omega)
  have := q3 _ hlt
  exact ⟨this.2.1, by omega⟩
theorem p_ask0 {s v : Nat} (hv : v ≤ 1000) (h : sA B gc gm) : sA B (mg_up (mg_up gc 3 s 4 v) 3 s 3 1) (mg_up (mg_up gm 37 0 s 1) 41 0 s v) := by
  rw [up_comm (k := 3) (j := 4) (j' := 3) (Or.inr (by omega))]
  exact p_f4 (p_f3 h (by omega)) hv
theorem p_ask {s : Nat} (hs : s < gm 5 0 0) (h0 : 0 < gm 46 0 s) (hp : gm 36 0 s < 24) (hl : gm 5 0 21 < 1024) (h : sA B gc gm) : sA B (cask gc s) (mask gm s) := by
  obtain ⟨g1, g2⟩ := gr_eq h hs h0
  have hn := h.2.1.2.2.2.2.1
  unfold cask mask
  rw [g1] at g2 ⊢
  rw [(h.2.2.2.2.1 s hs).1]
  exact p_write (by omega) hp (by omega) g2 hl (p_ask0 g2 h)
theorem q_ask {s : Nat} (hs : s < gm 5 0 0) (h0 : 0 < gm 46 0 s) (hp : gm 36 0 s < 24) (hl : gm 5 0 21 < 1024) (h : sA B gc gm) : P_X4_ask s gc = some (0, cask gc s) := by
  obtain ⟨g1, g2⟩ := gr_eq h hs h0
  have hn := h.2.1.2.2.2.2.1
  obtain ⟨cq1, cq2, cq3, cq4⟩ := aq h hs
  have hq1 := (h.2.2.2.2.2.1 s hs).1
  have hF := (h.2.2.2.2.1 s hs).1
  unfold P_X4_ask cask
  rw [q_gr cq1 (by omega) cq3, bd_s, wr_s, wr_s]
  generalize gc 17 s (gp (gc 17 s) (gc 2 s 2 - 1) 1 0) = v at *
  have e1 : (mg_up (mg_up gc 3 s 4 v) 3 s 3 1) 3 s 2 = gc 3 s 2 := by simp [ue]
  have e2 : (mg_up (mg_up gc 3 s 4 v) 3 s 3 1) 3 s 4 = v := by simp [ue]
  rw [e1, e2, q_send (gm := mg_up (mg_up gm 37 0 s 1) 41 0 s v) (by omega) (by omega) (by omega) g2 hl (p_ask0 g2 h), bd_s]
theorem IV_write0 {w c : Nat} {lo : Nat → Nat} (hw : w < 576) (hl : gm 35 0 w = 1) (h : IV N lo gm) : IV (N + 1) lo (mwrite gm w 0 c) := by
  unfold mwrite
  split
  · exact IV_sf hw (IV_let hw hl h)
  · exact IV_let hw hl h
theorem IV_ask {s : Nat} {lo : Nat → Nat} (hs : s < 24) (hp : gm 36 0 s < 24) (hl : gm 35 0 (24 * s + gm 36 0 s) = 1) (h : IV N lo gm) : IV (N + 1) lo (mask gm s) := by
  unfold mask
  exact IV_write0 (by omega) hl h
theorem mwrite_o {w b c : Nat} : mwrite gm w b c 5 0 1 = gm 5 0 1 := by
  have e1 : ∀ g : mg_F, ∀ x y z u, msend g x y z u 5 0 1 = g 5 0 1 := fun g x y z u => by unfold msend; split <;> rfl
  have e2 : ∀ g : mg_F, ∀ x, msf g x 5 0 1 = g 5 0 1 := fun g x => by
    unfold msf; split
    · rfl
    · rw [e1]
  unfold mwrite; split
  · rw [e2]; rfl
  · rfl
theorem msf_o {w : Nat} : msf gm w 5 0 1 = gm 5 0 1 := by
  unfold msf msend; split
  · rfl
  · split <;> rfl
theorem mask_o {s : Nat} : mask gm s 5 0 1 = gm 5 0 1 := by
  unfold mask; rw [mwrite_o]; rfl
theorem cl_o {x : Nat} (ho : gm 5 0 1 = x) (hx : x = 1) : ¬ sv (gm 5 0 1) = 0 := by
  rw [ho, hx]; exact sv10
theorem op0 (h : TT B N gc gm) (ho : ¬ gm 5 0 1 = 1) : sv (gm 5 0 1) = 0 ∧ gc 4 0 6 = 0 := by
  obtain ⟨g1, g2, _⟩ := h.2.1
  have e : gm 5 0 1 = 0 := by omega
  rw [g1, e]; exact ⟨sv_0, rfl⟩
theorem s_end {a : Nat} (h : TT B N gc gm) (ha : a < 4294967296) : SM B (N + 2) (P_X4_end a gc) (P_X5_end a gm) := by
  by_cases ho : gm 5 0 1 = 1
  · have n0 : ¬ sv (gm 5 0 1) = 0 := cl_o ho rfl
    by_cases hs : a < gm 5 0 0
    · obtain ⟨hA, lo, hI⟩ := h.2.2.2.1 ho
      obtain ⟨g1, g2, g3, g4, g5, g6⟩ := h.2.1
      have hF := hA.2.2.2.2.1 a hs
      have h24 : a < 24 := by omega
      by_cases h4 : gm 38 0 a = 0
      · have e2 : sv (gm 38 0 a) = 0 := by rw [h4, sv_0]
        exact SM_e h (by unfold P_X4_end; rw [st_c h ha, bd_s, if_pos (show gm 5 0 1 = 1 ∧ a < gm 5 0 0 from ⟨ho, hs⟩), if_neg sv10, ck_t h24, hF.2.2.2.1, if_pos e2]) (by unfold P_X5_end; rw [if_neg n0, st_m h ha, bd_s, if_pos hs, if_neg sv10, ck_t h24, if_pos e2])
      · have e2 : ¬ sv (gm 38 0 a) = 0 := by rw [sv_eq0N (by omega)]; exact h4
        refine SM_x (M := N) (lo := lo) (gc' := mg_up (mg_up gc 3 a 5 0) 3 a 8 (gm 42 0 a + 1)) (gm' := mg_up (mg_up gm 42 0 a (gm 42 0 a + 1)) 38 0 a 0) (rc := gm 42 0 a + 1) (rm := gm 42 0 a + 1) ?_ ?_ rfl ?_ ?_ (by omega) ho
        · unfold P_X4_end P_X3_stopPumping
          rw [st_c h ha, bd_s, if_pos (show gm 5 0 1 = 1 ∧ a < gm 5 0 0 from ⟨ho, hs⟩), if_neg sv10, ck_t h24, hF.2.2.2.1, if_neg e2, wr_s, wr_s, bd_s]
          have e8 : (mg_up gc 3 a 5 0) 3 a 8 = gm 42 0 a := by rw [← hF.2.2.2.2.2.2.1]; simp [ue]
          rw [e8, ue, if_pos ⟨rfl, rfl, rfl⟩]
        · unfold P_X5_end P_X5_stop
          rw [if_neg n0, st_m h ha, bd_s, if_pos hs, if_neg sv10, ck_t h24, if_neg e2, ck_t h24, jn_s, if_neg e2]
          dsimp only
          rw [wr_s, wr_s, bd_s, ue, if_neg (by omega), ue, if_pos ⟨rfl, rfl, rfl⟩]
        · rw [up_comm (k := 42) (k' := 38) (Or.inl (by omega))]
          exact p_f8 (p_f5 hA (by omega)) trivial
        · exact IV_38 (by omega) (show IV N lo (mg_up gm 42 0 a (gm 42 0 a + 1)) from hI)
    · exact SM_e h (by unfold P_X4_end; rw [st_c h ha, bd_s, if_neg (show ¬ (gm 5 0 1 = 1 ∧ a < gm 5 0 0) from fun q => hs q.2), if_pos sv_0]) (by unfold P_X5_end; rw [if_neg n0, st_m h ha, bd_s, if_neg hs, if_pos sv_0])
  · exact SM_e h (by unfold P_X4_end; rw [st_c h ha, bd_s, if_neg (show ¬ (gm 5 0 1 = 1 ∧ a < gm 5 0 0) from fun q => ho q.1), if_pos sv_0]) (by unfold P_X5_end; rw [if_pos (op0 h ho).1])
theorem s_crash {a : Nat} (h : TT B N gc gm) (ha : a < 4294967296) : SM B (N + 2) (P_X4_crash a gc) (P_X5_crash a gm) := by
  by_cases hu : gm 5 0 1 = 1 ∧ a < gm 5 0 0 ∧ gm 39 0 a = 0
  · have hu' := hu
    obtain ⟨ho, hs, hd⟩ := hu'
    obtain ⟨hA, lo, hI⟩ := h.2.2.2.1 ho
    obtain ⟨g1, g2, g3, g4, g5, g6⟩ := h.2.1
    have hF := hA.2.2.2.2.1 a hs
    have h24 : a < 24 := by omega
    by_cases h4 : gm 38 0 a = 0
    · have e2 : sv (gm 38 0 a) = 0 := by rw [h4, sv_0]
      refine SM_x (M := N) (lo := lo) (gc' := mg_up gc 3 a 6 1) (gm' := mg_up (mg_up (mg_up gm 42 0 a (gm 42 0 a)) 38 0 a 0) 39 0 a 1) (rc := 0) (rm := 0) ?_ ?_ rfl ?_ ?_ (by omega) ho
      · unfold P_X4_crash
        rw [up_c h ha, bd_s, if_pos hu, if_neg sv10, ck_t h24, jn_s, hF.2.2.2.1, if_pos e2]
        dsimp only
        rw [wr_s]
      · unfold P_X5_crash P_X5_stop
        rw [up_m h ha, bd_s, if_pos hu, if_neg sv10, ck_t h24, jn_s, if_pos e2]
        dsimp only
        rw [wr_s, wr_s, bd_s, ck_t h24, wr_s, Nat.add_zero]
      · rw [up_same]
        have e3 : mg_up gm 38 0 a 0 = gm := by
          have := up_same gm 38 0 a; rw [h4] at this; exact this
        rw [e3]
        exact p_f6 hA (by omega)
      · exact show IV N lo (mg_up (mg_up gm 42 0 a (gm 42 0 a)) 38 0 a 0) from IV_38 (by omega) (show IV N lo (mg_up gm 42 0 a (gm 42 0 a)) from hI)
    · have e2 : ¬ sv (gm 38 0 a) = 0 := by rw [sv_eq0N (by omega)]; exact h4
      refine SM_x (M := N) (lo := lo) (gc' := mg_up (mg_up (mg_up gc 3 a 5 0) 3 a 8 (gm 42 0 a + 1)) 3 a 6 1) (gm' := mg_up (mg_up (mg_up gm 42 0 a (gm 42 0 a + 1)) 38 0 a 0) 39 0 a 1) (rc := 0) (rm := 0) ?_ ?_ rfl ?_ ?_ (by omega) ho
      · unfold P_X4_crash P_X3_stopPumping
        rw [up_c h ha, bd_s, if_pos hu, if_neg sv10, ck_t h24, jn_s, hF.2.2.2.1, if_neg e2, wr_s, wr_s, bd_s]
        dsimp only
        rw [wr_s]
        have e8 : (mg_up gc 3 a 5 0) 3 a 8 = gm 42 0 a := by rw [← hF.2.2.2.2.2.2.1]; simp [ue]
        rw [e8]
      · unfold P_X5_crash P_X5_stop
        rw [up_m h ha, bd_s, if_pos hu, if_neg sv10, ck_t h24, jn_s, if_neg e2]
        dsimp only
        rw [wr_s, wr_s, bd_s, ck_t h24, wr_s]
      · rw [up_comm (k := 42) (k' := 38) (Or.inl (by omega))]
        exact p_f6 (p_f8 (p_f5 hA (by omega)) trivial) (by omega)
      · exact show IV N lo (mg_up (mg_up gm 42 0 a (gm 42 0 a + 1)) 38 0 a 0) from IV_38 (by omega) (show IV N lo (mg_up gm 42 0 a (gm 42 0 a + 1)) from hI)
  · exact SM_e h (by unfold P_X4_crash; rw [up_c h ha, bd_s, if_neg hu, if_pos sv_0]) (by unfold P_X5_crash; rw [up_m h ha, bd_s, if_neg hu, if_pos sv_0])
theorem s_restart {a : Nat} (h : TT B N gc gm) (ha : a < 4294967296) : SM B (N + 2) (P_X4_restart a gc) (P_X5_restart a gm) := by
  by_cases ho : gm 5 0 1 = 1
  · have n0 : ¬ sv (gm 5 0 1) = 0 := cl_o ho rfl
    by_cases hs : a < gm 5 0 0
    · obtain ⟨hA, lo, hI⟩ := h.2.2.2.1 ho
      obtain ⟨g1, g2, g3, g4, g5, g6⟩ := h.2.1
      have hF := hA.2.2.2.2.1 a hs
      have h24 : a < 24 := by omega
      by_cases h4 : gm 39 0 a = 0
      · have e2 : sv (gm 39 0 a) = 0 := by rw [h4, sv_0]
        exact SM_e h (by unfold P_X4_restart; rw [st_c h ha, bd_s, if_pos (show gm 5 0 1 = 1 ∧ a < gm 5 0 0 from ⟨ho, hs⟩), if_neg sv10, ck_t h24, hF.2.2.2.2.1, if_pos e2]) (by unfold P_X5_restart; rw [if_neg n0, st_m h ha, bd_s, if_pos hs, if_neg sv10, ck_t h24, if_pos e2])
      · have e2 : ¬ sv (gm 39 0 a) = 0 := by rw [sv_eq0N (by omega)]; exact h4
        exact SM_x (M := N) (lo := lo) (gc' := mg_up gc 3 a 6 0) (gm' := mg_up gm 39 0 a 0) (rc := 0) (rm := 0) (by unfold P_X4_restart; rw [st_c h ha, bd_s, if_pos (show gm 5 0 1 = 1 ∧ a < gm 5 0 0 from ⟨ho, hs⟩), if_neg sv10, ck_t h24, hF.2.2.2.2.1, if_neg e2, wr_s]) (by unfold P_X5_restart; rw [if_neg n0, st_m h ha, bd_s, if_pos hs, if_neg sv10, ck_t h24, if_neg e2, wr_s]) rfl (p_f6 hA (by omega)) hI (by omega) ho
    · exact SM_e h (by unfold P_X4_restart; rw [st_c h ha, bd_s, if_neg (show ¬ (gm 5 0 1 = 1 ∧ a < gm 5 0 0) from fun q => hs q.2), if_pos sv_0]) (by unfold P_X5_restart; rw [if_neg n0, st_m h ha, bd_s, if_neg hs, if_pos sv_0])
  · exact SM_e h (by unfold P_X4_restart; rw [st_c h ha, bd_s, if_neg (show ¬ (gm 5 0 1 = 1 ∧ a < gm 5 0 0) from fun q => ho q.1), if_pos sv_0]) (by unfold P_X5_restart; rw [if_pos (op0 h ho).1])
theorem s_lose {a : Nat} (h : TT B N gc gm) (ha : a < 4294967296) : SM B (N + 2) (P_X4_lose a gc) (P_X5_lose a gm) := by
  have e1 := sv_om ha
  by_cases ho : gm 5 0 1 = 1
  · have n0 : ¬ sv (gm 5 0 1) = 0 := cl_o ho rfl
    obtain ⟨hA, lo, hI⟩ := h.2.2.2.1 ho
    obtain ⟨l1, l2, l3, l4⟩ := al hA
    obtain ⟨m1, m2, m3, m4⟩ := ml hA
    have hc := hA.2.2.2.2.2.2.2.2.1
    have e3 := sv_om (a := gm 5 0 26) (by omega)
    by_cases hs : a < gm 5 0 26
    · refine SM_x (M := N) (lo := lo) (gc' := lrem gc 1 a) (gm' := mdc gm a) (by unfold P_X4_lose; rw [ic_c h ha, bd_s, if_pos (show gm 5 0 1 = 1 ∧ a < gm 5 0 26 from ⟨ho, hs⟩), if_neg sv10, q_lrem l2 (by omega), bd_s]) (by unfold P_X5_lose; rw [if_neg n0, if_neg (by omega), if_pos (by omega), m_dc m2 hs, bd_s]) ?_ (p_dc hs hA) (IV_dc hs hI) (by omega) ho
      rw [(p_dc hs hA).2.2.2.2.2.2.2.2.1]
    · refine SM_e h (by unfold P_X4_lose; rw [ic_c h ha, bd_s, if_neg (show ¬ (gm 5 0 1 = 1 ∧ a < gm 5 0 26) from fun q => hs q.2), if_pos sv_0]) ?_
      unfold P_X5_lose
      rw [if_neg n0]
      by_cases c : sv a < 0
      · rw [if_pos c]
      · rw [if_neg c, if_neg (by omega)]
  · exact SM_e h (by unfold P_X4_lose; rw [ic_c h ha, bd_s, if_neg (show ¬ (gm 5 0 1 = 1 ∧ a < gm 5 0 26) from fun q => ho q.1), if_pos sv_0]) (by unfold P_X5_lose; rw [if_pos (op0 h ho).1])
theorem s_twin {a : Nat} (h : TT B N gc gm) (ha : a < 4294967296) : SM B (N + 2) (P_X4_twin a gc) (P_X5_twin a gm) := by
  have e1 := sv_om ha
  by_cases ho : gm 5 0 1 = 1
  · have n0 : ¬ sv (gm 5 0 1) = 0 := cl_o ho rfl
    obtain ⟨hA, lo, hI⟩ := h.2.2.2.1 ho
    obtain ⟨l1, l2, l3, l4⟩ := al hA
    obtain ⟨m1, m2, m3, m4⟩ := ml hA
    obtain ⟨hc, hc2, hc3⟩ := hA.2.2.2.2.2.2.2.2
    have e3 := sv_om (a := gm 5 0 26) (by omega)
    by_cases hs : a < gm 5 0 26
    · by_cases hz : gm 5 0 26 = 60
      · exact SM_e h (by unfold P_X4_twin; rw [ic_c h ha, bd_s, if_pos (show gm 5 0 1 = 1 ∧ a < gm 5 0 26 from ⟨ho, hs⟩), if_neg sv10, hc, if_pos (by rw [hz])]) (by unfold P_X5_twin; rw [if_neg n0, if_neg (by omega), if_pos (by omega), if_pos (by rw [hz])])
      · have hz' : ¬ sv (gm 5 0 26) = sv 60 := by rw [sv_eqN (by omega) (by omega)]; exact hz
        obtain ⟨x1, x2, x3, x4, x5, x6, x7, x8⟩ := hc3 a hs
        have hcap : a < mg_cap 1 := by show a < 60; omega
        have h60 : a < 60 := by omega
        obtain ⟨i1, i2⟩ := hI.2.2.2.2.2.2.2.1 a hs
        have hp := p_send (d := gc 14 1 a) x3 x4 (show gc 11 1 a < 3 by omega) (show gc 15 1 a ≤ 1000 by omega) hA
        rw [← x2, x5, x6, x1] at hp
        refine SM_x (M := N) (lo := lo) (gc' := ladd gc 1 (gm 58 0 a) (gc 12 1 a) (gc 13 1 a) (gm 60 0 a) (gm 59 0 a)) (gm' := msend gm (gm 57 0 a) (gm 58 0 a) (gm 59 0 a) (gm 60 0 a)) (by unfold P_X4_twin P_X1_addCopy; rw [ic_c h ha, bd_s, if_pos (show gm 5 0 1 = 1 ∧ a < gm 5 0 26 from ⟨ho, hs⟩), if_neg sv10, hc, if_neg hz', ck_t hcap, ck_t hcap, ck_t hcap, ck_t hcap, ck_t hcap, q_ladd l2, bd_s, bd_s, x1, x5, x6]) (by unfold P_X5_twin; rw [if_neg n0, if_neg (by omega), if_pos (by omega), if_neg hz', ck_t h60, ck_t h60, ck_t h60, ck_t h60, m_send m2, bd_s]) ?_ hp (IV_send i1 i2 hI) (by omega) (by unfold msend; rw [if_neg hz]; exact ho)
        rw [hp.2.2.2.2.2.2.2.2.1]
    · refine SM_e h (by unfold P_X4_twin; rw [ic_c h ha, bd_s, if_neg (show ¬ (gm 5 0 1 = 1 ∧ a < gm 5 0 26) from fun q => hs q.2), if_pos sv_0]) ?_
      unfold P_X5_twin
      rw [if_neg n0]
      by_cases c : sv a < 0
      · rw [if_pos c]
      · rw [if_neg c, if_neg (by omega)]
  · exact SM_e h (by unfold P_X4_twin; rw [ic_c h ha, bd_s, if_neg (show ¬ (gm 5 0 1 = 1 ∧ a < gm 5 0 26) from fun q => ho q.1), if_pos sv_0]) (by unfold P_X5_twin; rw [if_pos (op0 h ho).1])
def rsC (g : mg_F) (s : Nat) : Nat → mg_F
  | 0 => g
  | t + 1 => cpf (rsC g s t) s t
def rsM (g : mg_F) (s : Nat) : Nat → mg_F
  | 0 => g
  | t + 1 => msf (rsM g s t) (24 * s + t)
theorem rs_o {s : Nat} : ∀ t, rsM gm s t 5 0 1 = gm 5 0 1 ∧ rsM gm s t 5 0 0 = gm 5 0 0 := by
  intro t
  induction t with
  | zero => exact ⟨rfl, rfl⟩
  | succ t ih =>
    rw [rsM]
    refine ⟨by rw [msf_o]; exact ih.1, ?_⟩
    unfold msf msend
    split
    · exact ih.2
    · split
      · exact ih.2
      · exact ih.2
theorem rs_p {s : Nat} {lo : Nat → Nat} (hs : s < 24) (h : sA B gc gm) (hI : IV N lo gm) : ∀ t, t ≤ 24 → sA B (rsC gc s t) (rsM gm s t) ∧ IV N lo (rsM gm s t) := by
  intro t
  induction t with
  | zero => intro _; exact ⟨h, hI⟩
  | succ t ih =>
    intro ht
    obtain ⟨i1, i2⟩ := ih (by omega)
    exact ⟨p_sf hs (by omega) i1, IV_sf (by omega) i2⟩
theorem s_resend {a : Nat} (h : TT B N gc gm) (ha : a < 4294967296) : SM B (N + 2) (P_X4_resend a gc) (P_X5_resend a gm) := by
  by_cases hu : gm 5 0 1 = 1 ∧ a < gm 5 0 0 ∧ gm 39 0 a = 0
  · have hu' := hu
    obtain ⟨ho, hs, hd⟩ := hu'
    obtain ⟨hA, lo, hI⟩ := h.2.2.2.1 ho
    obtain ⟨g1, g2, g3, g4, g5, g6⟩ := h.2.1
    have h24 : a < 24 := by omega
    have hrs := rs_p (s := a) h24 hA hI
    obtain ⟨r1, r2⟩ := hrs (gm 5 0 0) (by omega)
    have ec : L_X4_resend_12 a (fun w4 g5 => some (g5 1 1 5, g5)) 4000 0 gc = some (rsC gc a (gm 5 0 0) 1 1 5, rsC gc a (gm 5 0 0)) := by
      obtain ⟨x, e1, e2⟩ := lp_ex (L := fun n x v => L_X4_resend_12 a (fun w4 g5 => some (g5 1 1 5, g5)) n v x) (K := fun x => some (x 1 1 5, x)) (I := fun v x => x = rsC gc a v) (N := gm 5 0 0) (by
        intro n x v hv hx
        subst hx
        obtain ⟨i1, i2⟩ := hrs v (by omega)
        obtain ⟨l1, l2, l3, l4⟩ := al i1
        have hn : rsC gc a v 0 0 1 = gm 5 0 0 := by rw [i1.2.1.2.2.1, (rs_o v).2]
        refine ⟨rsC gc a (v + 1), ?_, rfl⟩
        show L_X4_resend_12 a _ (n + 1) v _ = _
        rw [L_X4_resend_12, hn, if_pos ((sv_ltN (by omega) (by omega)).mpr hv), q_cpf l1 l2 (by omega) (by omega) l3, bd_s]
        rfl) (by
        intro n x hx
        subst hx
        have hn : rsC gc a (gm 5 0 0) 0 0 1 = gm 5 0 0 := by rw [r1.2.1.2.2.1, (rs_o _).2]
        show L_X4_resend_12 a _ (n + 1) _ _ = _
        rw [L_X4_resend_12, hn, if_neg (by omega)]) (gm 5 0 0) 4000 gc 0 (by omega) (by omega) rfl
      rw [e1] at e2
      exact e2
    have em : L_X5_resend_12 a (fun w4 g5 => some (g5 5 0 26, g5)) 4000 0 gm = some (rsM gm a (gm 5 0 0) 5 0 26, rsM gm a (gm 5 0 0)) := by
      obtain ⟨x, e1, e2⟩ := lp_ex (L := fun n x v => L_X5_resend_12 a (fun w4 g5 => some (g5 5 0 26, g5)) n v x) (K := fun x => some (x 5 0 26, x)) (I := fun v x => x = rsM gm a v) (N := gm 5 0 0) (by
        intro n x v hv hx
        subst hx
        obtain ⟨i1, i2⟩ := hrs v (by omega)
        obtain ⟨l1, l2, l3, l4⟩ := ml i1
        refine ⟨rsM gm a (v + 1), ?_, rfl⟩
        show L_X5_resend_12 a _ (n + 1) v _ = _
        rw [L_X5_resend_12, (rs_o v).2, if_pos ((sv_ltN (by omega) (by omega)).mpr hv), m_sf l1 l2 (by omega) l3, bd_s]
        rfl) (by
        intro n x hx
        subst hx
        show L_X5_resend_12 a _ (n + 1) _ _ = _
        rw [L_X5_resend_12, (rs_o _).2, if_neg (by omega)]) (gm 5 0 0) 4000 gm 0 (by omega) (by omega) rfl
      rw [e1] at e2
      exact e2
    refine SM_x (M := N) (lo := lo) (by unfold P_X4_resend; rw [up_c h ha, bd_s, if_pos hu, if_neg sv10, ec]) (by unfold P_X5_resend; rw [up_m h ha, bd_s, if_pos hu, if_neg sv10, em]) ?_ r1 r2 (by omega) (by rw [(rs_o _).1]; exact ho)
    rw [r1.2.2.2.2.2.2.2.2.1]
  · exact SM_e h (by unfold P_X4_resend; rw [up_c h ha, bd_s, if_neg hu, if_pos sv_0]) (by unfold P_X5_resend; rw [up_m h ha, bd_s, if_neg hu, if_pos sv_0])
end API2
