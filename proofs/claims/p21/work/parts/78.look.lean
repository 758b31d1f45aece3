/-! ===== told and count: they return ===== -/
def SN (B : mg_F × mg_F) (N : Nat) (oc om : mo) : Prop := ∃ rc gc' rm gm', oc = some (rc, gc') ∧ om = some (rm, gm') ∧ TT B N gc' gm'
theorem SM_SN {B : mg_F × mg_F} {N : Nat} {oc om : mo} (h : SM B N oc om) : SN B N oc om := by
  obtain ⟨a, b, c, d, e1, e2, _, e4⟩ := h
  exact ⟨a, b, c, d, e1, e2, e4⟩
section LOOK
variable {B : mg_F × mg_F} {N : Nat} {gc gm : mg_F}
theorem SN_e {oc om : mo} {rc rm : Nat} (h : TT B N gc gm) (ec : oc = some (rc, gc)) (em : om = some (rm, gm)) : SN B (N + 2) oc om := ⟨rc, gc, rm, gm, ec, em, TT_mono h (by omega)⟩
theorem q_sent {q a : Nat} {g : mg_F} (hl : g 1 q 5 ≤ mg_cap q) : ∃ r, P_X1_sentBy q a g = some (r, g) := by
  have hc : mg_cap q ≤ 1024 := by unfold mg_cap; split <;> omega
  unfold P_X1_sentBy
  obtain ⟨x, _, e2⟩ := lp_ex (L := fun n x v => L_X1_sentBy_4 q a (fun w8 w9 g10 => some (w8, g10)) n x v g) (K := fun x => some (x, g)) (I := fun _ _ => True) (N := g 1 q 5) (by
    intro n x v hv _
    refine ⟨if sv (g 12 q v) = sv a then x + 1 else x, ?_, trivial⟩
    show L_X1_sentBy_4 q a _ (n + 1) x v g = L_X1_sentBy_4 q a _ n _ (v + 1) g
    rw [L_X1_sentBy_4, if_pos ((sv_ltN (by omega) (by omega)).mpr hv), ck_t (by omega), jn_s]
    split <;> rfl) (by
    intro n x _
    show L_X1_sentBy_4 q a _ (n + 1) x (g 1 q 5) g = _
    rw [L_X1_sentBy_4, if_neg (by omega)]) (g 1 q 5) 4000 0 0 (by omega) (by omega) trivial
  exact ⟨x, e2⟩
theorem s_told {a b : Nat} (h : TT B N gc gm) (ha : a < 4294967296) : SN B (N + 2) (P_X4_told a b gc) (P_X5_told a b gm) := by
  obtain ⟨g1, g2, g3, g4, g5, g6⟩ := h.2.1
  by_cases ho : gm 5 0 1 = 1
  · have n0 : ¬ sv (gm 5 0 1) = 0 := cl_o ho rfl
    by_cases hs : a < gm 5 0 0
    · have hos : gm 5 0 1 = 1 ∧ a < gm 5 0 0 := ⟨ho, hs⟩
      obtain ⟨hA, lo, hI⟩ := h.2.2.2.1 ho
      have h24 : a < 24 := by omega
      obtain ⟨l1, l2, l3, l4⟩ := al hA
      obtain ⟨m1, m2, m3, m4⟩ := ml hA
      obtain ⟨r8, e8⟩ := q_sent (q := 0) (a := a) (g := gc) l1
      have hc : ∃ r, P_X4_told a b gc = some (r, gc) := by
        unfold P_X4_told P_X0_neighboursOf P_J6_bitCount_0f7a4
        rw [st_c h ha, bd_s, if_pos hos, if_neg sv10, ck_t h24, e8, bd_s, ck_t h24, bd_s, bd_s]
        (repeat' split) <;> exact ⟨_, rfl⟩
      have hm8 : ∃ r, L_X5_told_159 a b (fun w25 w26 g27 => some (w25, g27)) 4000 0 0 gm = some (r, gm) := by
        obtain ⟨x, _, e2⟩ := lp_ex (L := fun n x v => L_X5_told_159 a b (fun w25 w26 g27 => some (w25, g27)) n x v gm) (K := fun x => some (x, gm)) (I := fun _ _ => True) (N := gm 5 0 21) (by
          intro n x v hv _
          have := (hA.2.2.2.2.2.2.2.1.2.2 v hv)
          refine ⟨if sv (gm 52 0 v / 24) = sv a then x + 1 else x + 0, ?_, trivial⟩
          show L_X5_told_159 a b _ (n + 1) x v gm = L_X5_told_159 a b _ n _ (v + 1) gm
          rw [L_X5_told_159, if_pos ((sv_ltN (by omega) (by omega)).mpr hv), ck_t (by omega), ck_t (by omega), jn_s]
          split <;> rfl) (by
          intro n x _
          show L_X5_told_159 a b _ (n + 1) x (gm 5 0 21) gm = _
          rw [L_X5_told_159, if_neg (by omega)]) (gm 5 0 21) 4000 0 0 (by omega) (by omega) trivial
        exact ⟨x, e2⟩
      have hm9 : ∃ r, L_X5_told_201 a b (fun w29 w30 g31 => some (w29, g31)) 4000 0 0 gm = some (r, gm) := by
        obtain ⟨x, _, e2⟩ := lp_ex (L := fun n x v => L_X5_told_201 a b (fun w25 w26 g27 => some (w25, g27)) n x v gm) (K := fun x => some (x, gm)) (I := fun _ _ => True) (N := gm 5 0 0) (by
          intro n x v hv _
          refine ⟨if sv (gm 35 0 (24 * a + v)) = 0 then x + 0 else x + 1, ?_, trivial⟩
          show L_X5_told_201 a b _ (n + 1) x v gm = L_X5_told_201 a b _ n _ (v + 1) gm
          rw [L_X5_told_201, if_pos ((sv_ltN (by omega) (by omega)).mpr hv), ck_t (by omega), jn_s]
          split <;> rfl) (by
          intro n x _
          show L_X5_told_201 a b _ (n + 1) x (gm 5 0 0) gm = _
          rw [L_X5_told_201, if_neg (by omega)]) (gm 5 0 0) 4000 0 0 (by omega) (by omega) trivial
        exact ⟨x, e2⟩
      obtain ⟨r1, e1⟩ := hc
      obtain ⟨x8, y8⟩ := hm8
      obtain ⟨x9, y9⟩ := hm9
      have hm : ∃ r, P_X5_told a b gm = some (r, gm) := by
        unfold P_X5_told
        rw [if_neg n0, st_m h ha, bd_s, if_pos hs, if_neg sv10, y8, y9]
        repeat rw [ck_t h24]
        (repeat' split) <;> exact ⟨_, rfl⟩
      obtain ⟨r2, e2⟩ := hm
      exact SN_e h e1 e2
    · exact SN_e h (by unfold P_X4_told; rw [st_c h ha, bd_s, if_neg (show ¬ (gm 5 0 1 = 1 ∧ a < gm 5 0 0) from fun q => hs q.2), if_pos sv_0]) (by unfold P_X5_told; rw [if_neg n0, st_m h ha, bd_s, if_neg hs, if_pos sv_0])
  · obtain ⟨o1, o2⟩ := op0 h ho
    exact SN_e h (by unfold P_X4_told; rw [st_c h ha, bd_s, if_neg (show ¬ (gm 5 0 1 = 1 ∧ a < gm 5 0 0) from fun q => ho q.1), if_pos sv_0]) (by unfold P_X5_told; rw [if_pos o1])
theorem q_whop (h : sA B gc gm) : P_X4_whoPumps gc = some (fs (fun i => gm 38 0 i == 1) (gm 5 0 0) 0, gc) := by
  obtain ⟨g1, g2, g3, g4, g5, g6⟩ := h.2.1
  have hF := h.2.2.2.2.1
  unfold P_X4_whoPumps
  rw [lp_fs (L := fun n v => L_X4_whoPumps_2 (fun w4 g5 => some (4294967294, g5)) n v gc) (K := some (4294967294, gc)) (p := fun i => gm 38 0 i == 1) (N := gm 5 0 0) (g := gc) (by omega) ?_ ?_ ?_ (gm 5 0 0) 4000 0 (by omega) (by omega)]
  · split
    · rename_i h; rw [h]
    · rfl
  · intro n v hv hp
    have hFv := hF v hv
    have hp' : gm 38 0 v = 1 := by simpa using hp
    show L_X4_whoPumps_2 (fun w4 g5 => some (4294967294, g5)) (n + 1) v gc = _
    rw [L_X4_whoPumps_2, g3, if_pos ((sv_ltN (by omega) (by omega)).mpr hv), ck_t (by omega), hFv.2.2.2.1, hp', if_neg sv10]
  · intro n v hv hp
    have hFv := hF v hv
    have hp' : ¬ gm 38 0 v = 1 := by simpa using hp
    show L_X4_whoPumps_2 (fun w4 g5 => some (4294967294, g5)) (n + 1) v gc = _
    rw [L_X4_whoPumps_2, g3, if_pos ((sv_ltN (by omega) (by omega)).mpr hv), ck_t (by omega), hFv.2.2.2.1, show gm 38 0 v = 0 by omega, if_pos sv_0]
  · intro n
    show L_X4_whoPumps_2 (fun w4 g5 => some (4294967294, g5)) (n + 1) (gm 5 0 0) gc = _
    rw [L_X4_whoPumps_2, g3, if_neg (by omega)]
theorem m_whop (h : sA B gc gm) (hI : ∃ lo, IV N lo gm) (K : Nat → mo) (a : Nat) (k : Nat → Nat → mg_F → mo) (hk : ∀ x y, k x y gm = K x) : L_X5_count_43 a k 4000 4294967294 0 gm = K (fs (fun i => gm 38 0 i == 1) (gm 5 0 0) 0) := by
  obtain ⟨g1, g2, g3, g4, g5, g6⟩ := h.2.1
  obtain ⟨lo, hI⟩ := hI
  have hF := h.2.2.2.2.1
  have hM := hI.2.2.2.1
  obtain ⟨s, hr⟩ := hI.2.2.2.2.2.2.2.2
  have uq : ∀ x, x < gm 5 0 0 → gm 38 0 x = 1 → x = s := fun x hx hp => RP_self g5 hr hx (hM x hx hp)
  have hs : s < gm 5 0 0 := by obtain ⟨_, q, _⟩ := hr; exact q
  obtain ⟨x, e1, e2⟩ := lp_ex (L := fun n x v => L_X5_count_43 a k n x v gm) (K := K) (I := fun v x => x = if gm 38 0 s = 1 ∧ s < v then s else 4294967294) (N := gm 5 0 0) (by
    intro n x v hv hx
    have hFv := hF v hv
    refine ⟨_, ?_, rfl⟩
    show L_X5_count_43 a k (n + 1) x v gm = L_X5_count_43 a k n (if gm 38 0 s = 1 ∧ s < v + 1 then s else 4294967294) (v + 1) gm
    rw [L_X5_count_43, if_pos ((sv_ltN (by omega) (by omega)).mpr hv), ck_t (by omega), jn_s]
    by_cases c : gm 38 0 v = 1
    · have : v = s := uq v hv c
      subst this
      rw [if_neg (by rw [c]; exact sv10), if_pos (by omega)]
    · rw [if_pos (by rw [show gm 38 0 v = 0 by omega, sv_0]), hx]
      have hvs : ¬ (gm 38 0 s = 1 ∧ s = v) := fun q => c (by rw [← q.2]; exact q.1)
      by_cases c2 : gm 38 0 s = 1 ∧ s < v
      · rw [if_pos c2, if_pos (by omega)]
      · rw [if_neg c2, if_neg (by omega)]) (by
    intro n x hx
    show L_X5_count_43 a k (n + 1) x (gm 5 0 0) gm = _
    rw [L_X5_count_43, if_neg (by omega), hk]) (gm 5 0 0) 4000 4294967294 0 (by omega) (by omega) (by rw [if_neg (by omega)])
  have e2' : L_X5_count_43 a k 4000 4294967294 0 gm = K x := e2
  rw [e2', e1]
  congr 1
  by_cases c : gm 38 0 s = 1
  · rw [if_pos ⟨c, hs⟩]
    refine (fs_at hs (by simpa using c) (fun i hi => ?_)).symm
    have : gm 38 0 i ≠ 1 := fun q => by have := uq i (by omega) q; omega
    simpa using this
  · rw [if_neg (fun q => c q.1)]
    refine (fs_none (fun i hi => ?_)).symm
    have : gm 38 0 i ≠ 1 := fun q => by have := uq i hi q; subst this; exact c q
    simpa using this
/-- the graph as both have it -/
theorem AJ_n (hK : sK gc gm) : (∀ a b, AJ gm a b → a < gm 5 0 0 ∧ b < gm 5 0 0) ∧ (∀ a b, AJ gm a b → AJ gm b a) ∧ (∀ a b, a < 24 → b < 24 → gm 35 0 (24 * a + b) < 2) ∧ (∀ a b, AJ gm a b ↔ (a < 24 ∧ b < 24 ∧ (gc 10 0 a).testBit b = true)) := by
  obtain ⟨k1, k2, k3⟩ := hK
  refine ⟨fun a b h => ?_, fun a b h => ?_, fun a b ha hb => ?_, fun a b => ?_⟩
  · have := k3 a b h.1 h.2.1 h.2.2; omega
  · have := k3 a b h.1 h.2.1 h.2.2; exact ⟨h.2.1, h.1, this.1⟩
  · rw [k1 a b ha hb]; split <;> omega
  · constructor
    · intro h
      have := h.2.2
      rw [k1 a b h.1 h.2.1] at this
      refine ⟨h.1, h.2.1, ?_⟩
      apply Classical.byContradiction
      intro q; rw [if_neg q] at this; omega
    · intro h
      refine ⟨h.1, h.2.1, ?_⟩
      rw [k1 a b h.1 h.2.1, if_pos h.2.2]
theorem TT_61 {g' : mg_F} (h : TT B N gc gm) (hx : ex61 gm g') : TT B N gc g' := by
  obtain ⟨h1, h2, h3, h4, h5⟩ := h
  have e : ∀ k i j, k ≠ 61 → g' k i j = gm k i j := hx
  have hAJ : AJ g' = AJ gm := by funext a b; unfold AJ; rw [e 35 0 _ (by omega)]
  refine ⟨⟨h1.1, fun k i j hk => ?_⟩, ?_, ?_, fun q => ?_, fun q => ?_⟩
  · rw [e k i j (by omega)]; exact h1.2 k i j hk
  · simpa [sG, e] using h2
  · simpa [sK, e] using h3
  · rw [e 5 0 1 (by omega)] at q
    obtain ⟨hA, lo, hI⟩ := h4 q
    exact ⟨p_irr hA (fun _ _ _ _ => rfl) (fun k i j _ hk _ => e k i j hk), lo, IV_irr hI (fun k i j _ hk _ => e k i j hk)⟩
  · rw [e 5 0 1 (by omega)] at q
    have := h5 q
    unfold BLD at this ⊢
    rw [hAJ, e 5 0 0 (by omega), e 5 0 4 (by omega)]
    exact this
theorem part_ok (h : TT B N gc gm) : ∃ g', P_X5_part gm = some (cnt (fun s => g' 61 0 s == s) (gm 5 0 0), g') ∧ ex61 gm g' ∧ LBL (gm 5 0 0) (AJ gm) (g' 61 0) := by
  obtain ⟨a1, a2, a3, a4⟩ := AJ_n h.2.2.1
  obtain ⟨g1, g2, g3, g4, g5, g6⟩ := h.2.1
  exact m_part (fun a b => Iff.rfl) a3 rfl g5 (by omega) a1 a2
/-- count, but for its parts -/
theorem s_count {a : Nat} (h : TT B N gc gm) (ha : a < 4294967296) (hN : N < 2147483648) : SN B (N + 2) (P_X4_count a gc) (P_X5_count a gm) ∧ (a ≠ 5 → SM B (N + 2) (P_X4_count a gc) (P_X5_count a gm)) := by
  obtain ⟨g1, g2, g3, g4, g5, g6⟩ := h.2.1
  have yy : ∀ i, i < 7 → a = i → sv a = sv i := fun i _ q => by rw [q]
  have nn : ∀ i, i < 7 → ¬ a = i → ¬ sv a = sv i := fun i hi q => by rw [sv_eqN ha (by omega)]; exact q
  have y0 : a = 0 → sv a = 0 := fun q => by rw [q, sv_0]
  have n0' : ¬ a = 0 → ¬ sv a = 0 := fun q => by rw [sv_eq0N ha]; exact q
  by_cases d5 : a = 5
  · refine ⟨?_, fun q => absurd d5 q⟩
    have m : ∀ i, i ≠ 5 → ¬ a = i := fun i hi q => hi (q.symm.trans d5)
    obtain ⟨g', e1, e2, e3⟩ := part_ok h
    refine ⟨sb (gc 0 0 1) (gc 0 0 2), gc, cnt (fun s => g' 61 0 s == s) (gm 5 0 0), g', ?_, ?_, TT_mono (TT_61 h e2) (by omega)⟩
    · unfold P_X4_count P_X0_parts
      rw [if_neg (nn 0 (by decide) (m 0 (by decide))), if_neg (nn 1 (by decide) (m 1 (by decide))), if_neg (nn 2 (by decide) (m 2 (by decide))), if_neg (nn 3 (by decide) (m 3 (by decide))), if_neg (nn 4 (by decide) (m 4 (by decide))), if_pos (yy 5 (by decide) d5), bd_s]
    · unfold P_X5_count
      rw [if_neg (n0' (m 0 (by decide))), if_neg (nn 1 (by decide) (m 1 (by decide))), if_pos (yy 5 (by decide) d5), e1, bd_s]
  · have x5 := nn 5 (by decide) d5
    have key : SM B (N + 2) (P_X4_count a gc) (P_X5_count a gm) := by
      by_cases d0 : a = 0
      · exact SM_e h (by unfold P_X4_count; rw [if_pos (yy 0 (by decide) d0), g3]) (by unfold P_X5_count; rw [if_pos (y0 d0)])
      · have x0 := nn 0 (by decide) d0
        have x0' := n0' d0
        by_cases d1 : a = 1
        · exact ⟨gc 0 0 2, gc, gm 5 0 4, gm, by unfold P_X4_count; rw [if_neg x0, if_pos (yy 1 (by decide) d1)], by unfold P_X5_count; rw [if_neg x0', if_pos (yy 1 (by decide) d1)], g6, TT_mono h (by omega)⟩
        · have x1 := nn 1 (by decide) d1
          by_cases ho : gm 5 0 1 = 1
          · have n0 : ¬ sv (gm 5 0 1) = 0 := cl_o ho rfl
            have n0c : ¬ sv (gc 4 0 6) = 0 := by rw [g1]; exact n0
            obtain ⟨hA, lo, hI⟩ := h.2.2.2.1 ho
            obtain ⟨s, hr⟩ := hI.2.2.2.2.2.2.2.2
            have em : ∀ k : Nat → Nat → mg_F → mo, ∀ K : Nat → mo, (∀ x y, k x y gm = K x) → L_X5_count_43 a k 4000 4294967294 0 gm = K (fs (fun i => gm 38 0 i == 1) (gm 5 0 0) 0) := fun k K hk => m_whop (N := N) hA ⟨lo, hI⟩ K a k hk
            have hp := m_por hN hA hI hr
            have hq := q_por hN hA hI hr
            have hw := q_whop hA
            have e0 : P_X5_count a gm = L_X5_count_43 a (fun w8 w9 g10 => if sv a = sv 2 then (some (g10 5 0 26, g10)) else (if sv a = sv 3 then (some (w8, g10)) else (if sv a = sv 4 then (bd (P_X5_rightAt g10) fun r15 g16 => some (r15, g16)) else (if sv a = sv 6 then (some (g10 5 0 15, g10)) else (some (4294967295, g10)))))) 4000 4294967294 0 gm := by
              unfold P_X5_count; rw [if_neg x0', if_neg x1, if_neg x5, if_neg n0]
            by_cases d2 : a = 2
            · have y2 := yy 2 (by decide) d2
              exact SM_e h (by unfold P_X4_count; rw [if_neg x0, if_neg x1, if_pos y2, if_neg n0c, hA.2.2.2.2.2.2.2.2.1]) (by rw [e0, em _ (fun x => some (gm 5 0 26, gm)) (fun x y => by rw [if_pos y2])])
            · have x2 := nn 2 (by decide) d2
              by_cases d3 : a = 3
              · have y3 := yy 3 (by decide) d3
                exact SM_e h (by unfold P_X4_count; rw [if_neg x0, if_neg x1, if_neg x2, if_pos y3, if_neg n0c, hw, bd_s]) (by rw [e0, em _ (fun x => some (x, gm)) (fun x y => by rw [if_neg x2, if_pos y3])])
              · have x3 := nn 3 (by decide) d3
                by_cases d4 : a = 4
                · have y4 := yy 4 (by decide) d4
                  exact SM_e h (by unfold P_X4_count; rw [if_neg x0, if_neg x1, if_neg x2, if_neg x3, if_pos y4, if_neg n0c, hq, bd_s]) (by rw [e0, em _ (fun x => some (s, gm)) (fun x y => by rw [if_neg x2, if_neg x3, if_pos y4, hp, bd_s])])
                · have x4 := nn 4 (by decide) d4
                  by_cases d6 : a = 6
                  · have y6 := yy 6 (by decide) d6
                    exact SM_e h (by unfold P_X4_count; rw [if_neg x0, if_neg x1, if_neg x2, if_neg x3, if_neg x4, if_neg x5, if_pos y6, if_neg n0c, hA.2.2.2.1.2.2.1]) (by rw [e0, em _ (fun x => some (gm 5 0 15, gm)) (fun x y => by rw [if_neg x2, if_neg x3, if_neg x4, if_pos y6])])
                  · have x6 := nn 6 (by decide) d6
                    exact SM_e h (by unfold P_X4_count; rw [if_neg x0, if_neg x1, if_neg x2, if_neg x3, if_neg x4, if_neg x5, if_neg x6]) (by rw [e0, em _ (fun x => some (4294967295, gm)) (fun x y => by rw [if_neg x2, if_neg x3, if_neg x4, if_neg x6])])
          · obtain ⟨o1, o2⟩ := op0 h ho
            have o3 : sv (gc 4 0 6) = 0 := by rw [o2, sv_0]
            refine SM_e (r := 4294967295) h ?_ (by unfold P_X5_count; rw [if_neg x0', if_neg x1, if_neg x5, if_pos o1])
            unfold P_X4_count
            rw [if_neg x0, if_neg x1]
            by_cases d2 : sv a = sv 2
            · rw [if_pos d2, if_pos o3]
            · rw [if_neg d2]
              by_cases d3 : sv a = sv 3
              · rw [if_pos d3, if_pos o3]
              · rw [if_neg d3]
                by_cases d4 : sv a = sv 4
                · rw [if_pos d4, if_pos o3]
                · rw [if_neg d4, if_neg x5]
                  by_cases d6 : sv a = sv 6
                  · rw [if_pos d6, if_pos o3]
                  · rw [if_neg d6]
    exact ⟨SM_SN key, fun _ => key⟩
end LOOK
