/-! ===== calls, class and reference side by side ===== -/
def AJ (gm : mg_F) (a b : Nat) : Prop := a < 24 ∧ b < 24 ∧ gm 35 0 (24 * a + b) = 1
def BLD (gc gm : mg_F) : Prop := gc 0 0 2 = gm 5 0 4 ∧ ∃ L p d : Nat → Nat, LBL (gm 5 0 0) (AJ gm) L ∧ cnt (fun s => L s == s) (gm 5 0 0) + gm 5 0 4 = gm 5 0 0 ∧ (∀ x, x < gm 5 0 0 → p x = 4294967294 ∨ (p x < gm 5 0 0 ∧ AJ gm x (p x) ∧ d (p x) < d x)) ∧ (∀ x y, AJ gm x y → p x = y ∨ p y = x)
def TT (B : mg_F × mg_F) (N : Nat) (gc gm : mg_F) : Prop := sFR B gc gm ∧ sG gc gm ∧ sK gc gm ∧ (gm 5 0 1 = 1 → sA B gc gm ∧ ∃ lo, IV N lo gm) ∧ (gm 5 0 1 = 0 → BLD gc gm)
def SM (B : mg_F × mg_F) (N : Nat) (oc om : mo) : Prop := ∃ rc gc' rm gm', oc = some (rc, gc') ∧ om = some (rm, gm') ∧ sv rc = sv rm ∧ TT B N gc' gm'
theorem TT_mono {B : mg_F × mg_F} {N N' : Nat} {gc gm : mg_F} (h : TT B N gc gm) (hN : N ≤ N') : TT B N' gc gm := by
  obtain ⟨h1, h2, h3, h4, h5⟩ := h
  refine ⟨h1, h2, h3, fun q => ⟨(h4 q).1, ?_⟩, h5⟩
  obtain ⟨lo, hl⟩ := (h4 q).2
  exact ⟨lo, IV_mono hl hN⟩
theorem TT_o {B : mg_F × mg_F} {N : Nat} {lo : Nat → Nat} {gc gm : mg_F} (h : sA B gc gm) (hI : IV N lo gm) (ho : gm 5 0 1 = 1) : TT B N gc gm :=
  ⟨h.1, h.2.1, h.2.2.1, fun _ => ⟨h, lo, hI⟩, fun q => absurd (ho.symm.trans q) (by omega)⟩
theorem SM_same {B : mg_F × mg_F} {N r : Nat} {gc gm : mg_F} (h : TT B N gc gm) : SM B (N + 2) (some (r, gc)) (some (r, gm)) := ⟨r, gc, r, gm, rfl, rfl, rfl, TT_mono h (by omega)⟩
theorem SM_o {B : mg_F × mg_F} {N M rc rm : Nat} {lo : Nat → Nat} {gc gm : mg_F} (hr : sv rc = sv rm) (h : sA B gc gm) (hI : IV M lo gm) (hM : M ≤ N + 2) (ho : gm 5 0 1 = 1) : SM B (N + 2) (some (rc, gc)) (some (rm, gm)) := ⟨rc, gc, rm, gm, rfl, rfl, hr, TT_mono (TT_o h hI ho) hM⟩
section API
variable {B : mg_F × mg_F} {N : Nat} {gc gm : mg_F}
theorem aq {s : Nat} (h : sA B gc gm) (hs : s < gm 5 0 0) : gc 2 s 2 ≤ 24 ∧ (∀ i, i < gc 2 s 2 → gc 16 s i < 4294967296) ∧ (∀ i, i < gc 2 s 2 → gc 17 s i < 2147483648) ∧ (∀ i, i < gc 2 s 2 → gc 17 s i ≤ 1000) := by
  have hn := h.2.1.2.2.2.2.1
  obtain ⟨q1, q2, q3, q4⟩ := h.2.2.2.2.2.1 s hs
  rw [q1]
  refine ⟨q2, fun i hi => ?_, fun i hi => ?_, fun i hi => ?_⟩ <;> (have := q3 i hi; omega)
theorem mq {s : Nat} (h : sA B gc gm) (hs : s < gm 5 0 0) : gm 46 0 s ≤ 24 ∧ (∀ i, i < gm 46 0 s → gm 47 0 (24 * s + i) < 4294967296) ∧ (∀ i j, i < gm 46 0 s → j < gm 46 0 s → gm 47 0 (24 * s + i) = gm 47 0 (24 * s + j) → i = j) ∧ (∀ i, i < gm 46 0 s → gm 48 0 (24 * s + i) < 2147483648) ∧ (∀ i, i < gm 46 0 s → gm 48 0 (24 * s + i) ≤ 1000) := by
  have hn := h.2.1.2.2.2.2.1
  obtain ⟨q1, q2, q3, q4⟩ := h.2.2.2.2.2.1 s hs
  refine ⟨q2, fun i hi => ?_, q4, fun i hi => ?_, fun i hi => ?_⟩ <;> (have := q3 i hi; omega)
theorem al (h : sA B gc gm) : gc 1 0 5 ≤ 1024 ∧ gc 1 1 5 ≤ 60 ∧ (∀ i, i < gc 1 0 5 → gc 12 0 i < 4294967296 ∧ gc 13 0 i < 4294967296) ∧ (∀ i, i < gc 1 1 5 → gc 12 1 i < 4294967296 ∧ gc 13 1 i < 4294967296) := by
  obtain ⟨l1, l2, l3⟩ := h.2.2.2.2.2.2.2.1
  obtain ⟨c1, c2, c3⟩ := h.2.2.2.2.2.2.2.2
  rw [l1, c1]
  refine ⟨l2, c2, fun i hi => ?_, fun i hi => ?_⟩
  · have := l3 i hi; omega
  · have := c3 i hi; omega
theorem ml (h : sA B gc gm) : gm 5 0 21 ≤ 1024 ∧ gm 5 0 26 ≤ 60 ∧ (∀ i, i < gm 5 0 21 → gm 52 0 i < 4294967296) ∧ (∀ i, i < gm 5 0 26 → gm 57 0 i < 576) := by
  obtain ⟨l1, l2, l3⟩ := h.2.2.2.2.2.2.2.1
  obtain ⟨c1, c2, c3⟩ := h.2.2.2.2.2.2.2.2
  refine ⟨l2, c2, fun i hi => ?_, fun i hi => ?_⟩
  · have := l3 i hi; omega
  · have := c3 i hi; omega
/-- is a station and up, in both -/
theorem up_c {a : Nat} (h : TT B N gc gm) (ha : a < 4294967296) : P_X4_isUp a gc = some (if gm 5 0 1 = 1 ∧ a < gm 5 0 0 ∧ gm 39 0 a = 0 then 1 else 0, gc) := by
  obtain ⟨g1, g2, g3, g4, g5, g6⟩ := h.2.1
  by_cases ho : gm 5 0 1 = 1
  · obtain ⟨hA, _⟩ := h.2.2.2.1 ho
    have hF := hA.2.2.2.2.1
    rw [q_up ha (by omega) (by omega) (fun _ q => by have := hF a (by omega); omega), g1, g3]
    by_cases c : a < gm 5 0 0
    · rw [(hF a c).2.2.2.2.1]
    · rw [if_neg (fun q => c q.2.1), if_neg (fun q => c q.2.1)]
  · rw [q_up ha (by omega) (by omega) (fun q => absurd (g1.symm.trans q) ho), if_neg (fun q => ho (g1.symm.trans q.1)), if_neg (fun q => ho q.1)]
theorem up_m {a : Nat} (h : TT B N gc gm) (ha : a < 4294967296) : P_X5_isUp a gm = some (if gm 5 0 1 = 1 ∧ a < gm 5 0 0 ∧ gm 39 0 a = 0 then 1 else 0, gm) := by
  obtain ⟨g1, g2, g3, g4, g5, g6⟩ := h.2.1
  refine m_up ha (by omega) (by omega) (fun ho q => ?_)
  have := (h.2.2.2.1 ho).1.2.2.2.2.1 a q; omega
theorem st_c {a : Nat} (h : TT B N gc gm) (ha : a < 4294967296) : P_X4_isStation a gc = some (if gm 5 0 1 = 1 ∧ a < gm 5 0 0 then 1 else 0, gc) := by
  obtain ⟨g1, g2, g3, g4, g5, g6⟩ := h.2.1
  rw [q_stn ha (by omega) (by omega), g1, g3]
theorem st_m {a : Nat} (h : TT B N gc gm) (ha : a < 4294967296) : P_X5_isStation a gm = some (if a < gm 5 0 0 then 1 else 0, gm) := by
  obtain ⟨g1, g2, g3, g4, g5, g6⟩ := h.2.1
  exact m_stn ha (by omega)
theorem ic_c {a : Nat} (h : TT B N gc gm) (ha : a < 4294967296) : P_X4_isCopy a gc = some (if gm 5 0 1 = 1 ∧ a < gm 5 0 26 then 1 else 0, gc) := by
  obtain ⟨g1, g2, g3, g4, g5, g6⟩ := h.2.1
  by_cases ho : gm 5 0 1 = 1
  · obtain ⟨c1, c2, c3⟩ := (h.2.2.2.1 ho).1.2.2.2.2.2.2.2.2
    rw [q_isc ha (by omega) (by omega), g1, c1]
  · unfold P_X4_isCopy
    rw [if_pos (by rw [g1, show gm 5 0 1 = 0 by omega, sv_0]), if_neg (fun q => ho q.1)]
theorem sv10 : ¬ sv 1 = 0 := by rw [sv_l1]; omega
theorem SM_e {oc om : mo} {r : Nat} (h : TT B N gc gm) (ec : oc = some (r, gc)) (em : om = some (r, gm)) : SM B (N + 2) oc om := ⟨r, gc, r, gm, ec, em, rfl, TT_mono h (by omega)⟩
theorem SM_x {oc om : mo} {M rc rm : Nat} {lo : Nat → Nat} {gc' gm' : mg_F} (ec : oc = some (rc, gc')) (em : om = some (rm, gm')) (hr : sv rc = sv rm) (h : sA B gc' gm') (hI : IV M lo gm') (hM : M ≤ N + 2) (ho : gm' 5 0 1 = 1) : SM B (N + 2) oc om := ⟨rc, gc', rm, gm', ec, em, hr, TT_mono (TT_o h hI ho) hM⟩
theorem s_want {a b : Nat} (h : TT B N gc gm) (ha : a < 4294967296) (hb : b < 4294967296) : SM B (N + 2) (P_X4_want a b gc) (P_X5_want a b gm) := by
  have e1 := sv_om hb
  by_cases hu : gm 5 0 1 = 1 ∧ a < gm 5 0 0 ∧ gm 39 0 a = 0
  · have hu' := hu
    obtain ⟨ho, hs, hd⟩ := hu'
    by_cases h2 : sv b < 0
    · exact SM_e h (by unfold P_X4_want; rw [up_c h ha, bd_s, if_pos hu, if_neg sv10, if_pos h2]) (by unfold P_X5_want; rw [up_m h ha, bd_s, if_pos hu, if_neg sv10, if_pos h2])
    · by_cases h3 : sv 100 < sv b
      · exact SM_e h (by unfold P_X4_want; rw [up_c h ha, bd_s, if_pos hu, if_neg sv10, if_neg h2, if_pos h3]) (by unfold P_X5_want; rw [up_m h ha, bd_s, if_pos hu, if_neg sv10, if_neg h2, if_pos h3])
      · have hb3 : b ≤ 100 := by rw [sv_l100] at h3; omega
        obtain ⟨hA, lo, hI⟩ := h.2.2.2.1 ho
        obtain ⟨g1, g2, g3, g4, g5, g6⟩ := h.2.1
        have hF := hA.2.2.2.2.1 a hs
        obtain ⟨cq1, cq2, cq3, cq4⟩ := aq hA hs
        obtain ⟨mq1, mq2, mq3, mq4, mq5⟩ := mq hA hs
        have h24 : a < 24 := by omega
        by_cases h4 : gm 38 0 a = 0
        · have e2 : sv (gm 38 0 a) = 0 := by rw [h4, sv_0]
          have hroom := q_room hs hs hA
          by_cases h5 : fs (fun i => gm 47 0 (24 * a + i) == a) (gm 46 0 a) 0 = 4294967294
          · have hr := hroom h5
            have hq1 := (hA.2.2.2.2.2.1 a hs).1
            have hp := p_come hs hs (show b ≤ 1000 by omega) hA
            have hq : qadm gc a a b = qadd gc a a b := by
              unfold qadm; rw [p_qfs hs hA, if_pos h5]
            rw [hq] at hp
            have hIc := IV_come (b := b) (by omega) (fun t ht => (mq hA ht).1) hs (Or.inl rfl) hroom hI
            refine SM_x (M := N) (lo := lo) (gc' := mg_up (mg_up (qadd gc a a b) 3 a 9 1) 3 a 10 0) (gm' := mg_up (mcome gm a a b) 43 0 a 0) (by unfold P_X4_want; rw [up_c h ha, bd_s, if_pos hu, if_neg sv10, if_neg h2, if_neg h3, ck_t h24, hF.2.2.2.1, if_pos e2, q_wants (by omega) cq1 cq2, bd_s, p_qfs hs hA, if_pos h5, if_pos sv_0, q_qadd (by omega), bd_s, wr_s, wr_s]) (by unfold P_X5_want; rw [up_m h ha, bd_s, if_pos hu, if_neg sv10, if_neg h2, if_neg h3, ck_t h24, if_pos e2, m_pl h24 mq1 (by omega) mq2 mq3, bd_s, h5, if_pos (by decide +kernel), m_come h24 mq1 (by omega) (by omega) mq2 mq3 mq4 hroom, bd_s, wr_s]) ?_ (p_irr hp (fun k i j hk => ?_) (fun k i j hk _ _ => ?_)) hIc (by omega) ?_
            · have e4 : (mg_up (mg_up (qadd gc a a b) 3 a 9 1) 3 a 10 0) 2 a 2 = gm 46 0 a + 1 := by
                rw [← hq1]; simp [ue, qadd]
              have e5 : (mg_up (mcome gm a a b) 43 0 a 0) 46 0 a = gm 46 0 a + 1 := by
                unfold mcome; rw [if_pos h5]; simp [ue]
              rw [e4, e5]
            · rw [ue, if_neg (by omega), ue, if_neg (by omega)]
            · rw [ue, if_neg (by omega)]
            · show mcome gm a a b 5 0 1 = 1
              unfold mcome; rw [if_pos h5]; exact ho
          · have f1 := fs_spec (fun i => gm 47 0 (24 * a + i) == a) (gm 46 0 a) 0
            have e : fm (fs (fun i => gm 47 0 (24 * a + i) == a) (gm 46 0 a) 0) = fs (fun i => gm 47 0 (24 * a + i) == a) (gm 46 0 a) 0 := by unfold fm; rw [if_neg h5]
            exact SM_e h (by unfold P_X4_want; rw [up_c h ha, bd_s, if_pos hu, if_neg sv10, if_neg h2, if_neg h3, ck_t h24, hF.2.2.2.1, if_pos e2, q_wants (by omega) cq1 cq2, bd_s, p_qfs hs hA, if_neg h5, if_neg sv10]) (by unfold P_X5_want; rw [up_m h ha, bd_s, if_pos hu, if_neg sv10, if_neg h2, if_neg h3, ck_t h24, if_pos e2, m_pl h24 mq1 (by omega) mq2 mq3, bd_s, e, if_neg (by rw [sv_lt0N (by omega)]; omega)])
        · have e2 : ¬ sv (gm 38 0 a) = 0 := by rw [sv_eq0N (by omega)]; exact h4
          exact SM_e h (by unfold P_X4_want; rw [up_c h ha, bd_s, if_pos hu, if_neg sv10, if_neg h2, if_neg h3, ck_t h24, hF.2.2.2.1, if_neg e2]) (by unfold P_X5_want; rw [up_m h ha, bd_s, if_pos hu, if_neg sv10, if_neg h2, if_neg h3, ck_t h24, if_neg e2])
  · exact SM_e h (by unfold P_X4_want; rw [up_c h ha, bd_s, if_neg hu, if_pos sv_0]) (by unfold P_X5_want; rw [up_m h ha, bd_s, if_neg hu, if_pos sv_0])
end API
