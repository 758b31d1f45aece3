/-! ===== deliver ===== -/
section API4
variable {B : mg_F × mg_F} {N : Nat} {gc gm : mg_F}
theorem msend_o {a b c d : Nat} : msend gm a b c d 5 0 1 = gm 5 0 1 := by unfold msend; split <;> rfl
theorem mcome_k {s a b k i j : Nat} (hk : k ≠ 46 ∧ k ≠ 47 ∧ k ≠ 48) : mcome gm s a b k i j = gm k i j := by
  unfold mcome; split
  · simp only [ue]; rw [if_neg (by omega), if_neg (by omega), if_neg (by omega)]
  · simp only [ue]; rw [if_neg (by omega)]
/-- the receipt goes out -/
theorem d_rec {M f t num rc : Nat} {lo : Nat → Nat} (h : sA B gc gm) (hI : IV M lo gm) (hM : M ≤ N + 2) (ho : gm 5 0 1 = 1) (hf : f < 24) (ht : t < 24) (hl : gm 35 0 (24 * t + f) = 1) (hn : num < gm 50 0 (24 * f + t)) : SM B (N + 2) (bd (P_X1_add 1 2 t f num 0 gc) fun _ g26 => some (rc, g26)) (bd (P_X5_send (24 * t + f) 2 0 num gm) fun _ g32 => some (rc, g32)) := by
  obtain ⟨l1, l2, l3, l4⟩ := al h
  obtain ⟨m1, m2, m3, m4⟩ := ml h
  rw [q_ladd l2, m_send m2, bd_s, bd_s]
  refine SM_x (M := M) (lo := lo) rfl rfl rfl (p_send ht hf (by omega) (by omega) h) (IV_send (by omega) ⟨hl, fun _ => ?_, fun q => absurd rfl q⟩ hI) hM (by rw [msend_o]; exact ho)
  have : bk (24 * t + f) = 24 * f + t := by unfold bk; omega
  rw [this]; exact hn
theorem s_deliver {a : Nat} (h : TT B N gc gm) (ha : a < 4294967296) (hN : N < 2147483648) : SM B (N + 2) (P_X4_deliver a gc) (P_X5_deliver a gm) := by
  have e1 := sv_om ha
  by_cases ho : gm 5 0 1 = 1
  · have n0 : ¬ sv (gm 5 0 1) = 0 := cl_o ho rfl
    obtain ⟨hA, lo, hI⟩ := h.2.2.2.1 ho
    obtain ⟨g1, g2, g3, g4, g5, g6⟩ := h.2.1
    obtain ⟨l1, l2, l3, l4⟩ := al hA
    obtain ⟨m1, m2, m3, m4⟩ := ml hA
    obtain ⟨hc, hc2, hc3⟩ := hA.2.2.2.2.2.2.2.2
    have e3 := sv_om (a := gm 5 0 26) (by omega)
    by_cases hs : a < gm 5 0 26
    · have s1 : ¬ sv a < 0 := by omega
      have s2 : sv a < sv (gm 5 0 26) := by omega
      obtain ⟨x1, x2, x3, x4, x5, x6, x7, x8⟩ := hc3 a hs
      have k01 : gm 58 0 a ≠ 2 → gm 58 0 a ≠ 0 → gm 58 0 a = 1 := fun _ _ => by omega
      obtain ⟨i1, i2, i3, i4⟩ := hI.2.2.2.2.2.2.2.1 a hs
      have hcap : a < mg_cap 1 := by show a < 60; omega
      have h60 : a < 60 := by omega
      have sA1 := p_dc hs hA
      have I1 := IV_dc hs hI
      have hNu : ∀ w, w < 576 → gm 49 0 w ≤ N ∧ gm 50 0 w ≤ gm 49 0 w ∧ lo w ≤ gm 50 0 w := fun w hw => by
        have := hI.2.2.2.2.2.1 w hw; omega
      generalize hfr : gc 12 1 a = fr at *
      generalize hto : gc 13 1 a = to at *
      have wm : gm 57 0 a % 24 = to := by omega
      have wd : gm 57 0 a / 24 = fr := by omega
      have hlk : gm 35 0 (24 * fr + to) = 1 := by rw [← x2]; exact i2
      obtain ⟨y1, y2, y3, y4⟩ := hA.2.2.1.2.2 fr to x3 x4 hlk
      have hF := hA.2.2.2.2.1 to y4
      have hbk : bk (gm 57 0 a) = 24 * to + fr := by unfold bk; omega
      rw [hbk] at i3
      have c6 : lrem gc 1 a 3 to 6 = gm 39 0 to := by rw [← hF.2.2.2.2.1]; rfl
      have ec0 : P_X4_deliver a gc = if sv (gm 39 0 to) = 0 then (if sv (gm 58 0 a) = sv 2 then (bd (P_X4_takeOut to fr (gm 60 0 a) (lrem gc 1 a)) fun r31 g32 => if sv r31 = 0 then (some (4, g32)) else (some (3, g32))) else (ck (fr < 24) <| jn (α := Nat) (fun x18 g19 => jn (α := Nat) (fun x23 g24 => bd (P_X1_add 1 2 to fr (gm 60 0 a) 0 g24) fun _ g26 => if sv x18 = 0 then (some (2, g26)) else (some (1, g26))) fun kj21 => if sv x18 = 0 then (kj21 0 g19) else (wr (mg_up g19 22 fr to ((g19 22 fr to) + 1)) fun g28 => bd (P_X4_read (gm 58 0 a) fr to (gm 59 0 a) g28) fun _ g30 => kj21 0 g30)) fun kj16 => if sv (gm 60 0 a) = sv (lrem gc 1 a 22 fr to) then (kj16 1 (lrem gc 1 a)) else (kj16 0 (lrem gc 1 a)))) else (some (0, lrem gc 1 a)) := by
        unfold P_X4_deliver
        rw [ic_c h ha, bd_s, if_pos (show gm 5 0 1 = 1 ∧ a < gm 5 0 26 from ⟨ho, hs⟩), if_neg sv10, ck_t hcap, ck_t hcap, ck_t hcap, ck_t hcap, ck_t hcap, q_lrem l2 (by omega), bd_s, hfr, hto, x1, x5, x6, ck_t x4, c6]
      have em0 : P_X5_deliver a gm = if sv (gm 39 0 to) = 0 then (if sv (gm 58 0 a) = sv 2 then (bd (P_X5_firstLetter (24 * to + fr) (mdc gm a)) fun r33 g34 => if sv r33 < 0 then (some (4, g34)) else (ck (r33 < 3000) <| if sv (g34 55 0 r33) = sv (gm 60 0 a) then (bd (P_X5_dropLetter r33 g34) fun _ g39 => bd (P_X5_sendFirst (24 * to + fr) g39) fun _ g41 => some (3, g41)) else (some (4, g34)))) else (if sv (gm 60 0 a) < sv (gm 50 0 (gm 57 0 a)) then (bd (P_X5_send (24 * to + fr) 2 0 (gm 60 0 a) (mdc gm a)) fun _ g32 => some (2, g32)) else (wr (mg_up (mdc gm a) 50 0 (gm 57 0 a) ((gm 50 0 (gm 57 0 a)) + 1)) fun g19 => jn (α := Nat) (fun x23 g24 => bd (P_X5_send (24 * to + fr) 2 0 (gm 60 0 a) g24) fun _ g26 => some (1, g26)) fun kj21 => if sv (gm 58 0 a) = 0 then (bd (P_X5_come to fr (gm 59 0 a) g19) fun _ g30 => kj21 0 g30) else (wr (mg_up g19 36 0 to to) fun g27 => wr (mg_up g27 37 0 to 0) fun g28 => kj21 0 g28)))) else (some (0, mdc gm a)) := by
        unfold P_X5_deliver
        rw [if_neg n0, if_neg s1, if_pos s2, ck_t h60, ck_t h60, ck_t h60, ck_t h60, m_dc m2 hs, bd_s, wm, wd, ck_t (by omega), ck_t (by omega), ck_t x4, ck_t i1, ck_t i1, ck_t i1]
        rfl
      rw [ec0, em0]
      by_cases hd : gm 39 0 to = 0
      · have hd' : sv (gm 39 0 to) = 0 := by rw [hd, sv_0]
        rw [if_pos hd', if_pos hd']
        by_cases hk : gm 58 0 a = 2
        · have hk' : sv (gm 58 0 a) = sv 2 := by rw [hk]
          have hnum := i3 hk
          rw [if_pos hk', if_pos hk']
          obtain ⟨p1, p2, p3, p4⟩ := al sA1
          obtain ⟨r1, r2, r3, r4⟩ := ml sA1
          have hfs := p_fs (a := to) x3 sA1
          have f1 := fs_spec (fun i => mdc gm a 52 0 i == 24 * to + fr) (mdc gm a 5 0 21) 0
          have hqf := q_fb (q := 0) (a := to) (b := fr) p1 (by omega) (by omega) p3
          have hmf := m_fl (w := 24 * to + fr) r1 (by omega) r3
          rw [hfs] at hqf
          generalize fs (fun i => mdc gm a 52 0 i == 24 * to + fr) (mdc gm a 5 0 21) 0 = x at *
          have i26 := (hNu (24 * to + fr) (by omega))
          by_cases cx : x = 4294967294
          · refine SM_x (M := N) (lo := lo) (rc := 4) (rm := 4) ?_ ?_ rfl sA1 I1 (by omega) ho
            · unfold P_X4_takeOut
              rw [hqf, bd_s, cx, if_pos rfl, bd_s, if_pos sv_0]
            · rw [hmf, bd_s, cx, if_pos (by decide +kernel)]
          · have hfm : fm x = x := by unfold fm; rw [if_neg cx]
            rcases f1 with ⟨f, _⟩ | ⟨_, f2, f3, f4⟩
            · exact absurd f cx
            · have hx : x < gm 5 0 21 := by rw [Nat.zero_add] at f2; exact f2
              obtain ⟨z1, z2, z3, z4, z5, z6, z7, z8⟩ := sA1.2.2.2.2.2.2.2.1.2.2 x hx
              have f3' : (gm 52 0 x == 24 * to + fr) = true := f3
              have hxw : gm 52 0 x = 24 * to + fr := by simpa using f3'
              have hlx := hI.2.2.2.2.2.1 _ (show 24 * to + fr < 576 by omega)
              have hxn := (hlx.2.2.2.2 (gm 55 0 x)).mpr ⟨x, hx, hxw, rfl⟩
              have hcx : x < mg_cap 0 := by show x < 1024; omega
              have nx : ¬ sv x = sv 4294967294 := by rw [sv_eqN (by omega) (by omega)]; exact cx
              have nx0 : ¬ sv x < 0 := by rw [sv_lt0N (by omega)]; omega
              have z5' : lrem gc 1 a 14 0 x = gm 55 0 x := z5
              by_cases cn : gm 55 0 x = gm 60 0 a
              · have cn' : sv (gm 55 0 x) = sv (gm 60 0 a) := by rw [cn]
                have sA2 := p_dl (gm := mdc gm a) (a := x) hx sA1
                obtain ⟨lo', I2⟩ := IV_dl (gm := mdc gm a) (w := 24 * to + fr) (k0 := x) (by omega) hx hxw (fun i hi => by
                  have t : (gm 52 0 i == 24 * to + fr) = false := f4 i (by omega) hi
                  show gm 52 0 i ≠ 24 * to + fr
                  simpa using t) (show gm 55 0 x < gm 50 0 (24 * to + fr) by omega) I1
                obtain ⟨u1, u2, u3, u4⟩ := al sA2
                obtain ⟨v1, v2, v3, v4⟩ := ml sA2
                refine SM_x (M := N) (lo := lo') (rc := 3) (rm := 3) ?_ ?_ rfl (p_sf x4 x3 sA2) (IV_sf (by omega) I2) (by omega) (by rw [msf_o]; exact ho)
                · unfold P_X4_takeOut
                  rw [hqf, bd_s, if_neg nx, ck_t hcx, z5', if_pos cn', q_lrem p1 (by rw [sA1.2.2.2.2.2.2.2.1.1]; exact hx), bd_s, q_cpf u1 u2 (by omega) (by omega) u3, bd_s, bd_s, if_neg sv10]
                · rw [hmf, bd_s, hfm, if_neg nx0, ck_t (by omega)]
                  rw [show sv (mdc gm a 55 0 x) = sv (gm 55 0 x) from rfl]
                  rw [if_pos cn', m_dl r1 hx, bd_s, m_sf v1 v2 (by omega) v3, bd_s]
              · have cn' : ¬ sv (gm 55 0 x) = sv (gm 60 0 a) := by rw [sv_eqN (by omega) (by omega)]; exact cn
                refine SM_x (M := N) (lo := lo) (rc := 4) (rm := 4) ?_ ?_ rfl sA1 I1 (by omega) ho
                · unfold P_X4_takeOut
                  rw [hqf, bd_s, if_neg nx, ck_t hcx, z5', if_neg cn', bd_s, if_pos sv_0]
                · rw [hmf, bd_s, hfm, if_neg nx0, ck_t (by omega)]
                  rw [show sv (mdc gm a 55 0 x) = sv (gm 55 0 x) from rfl]
                  rw [if_neg cn']
        · have hk' : ¬ sv (gm 58 0 a) = sv 2 := by rw [sv_eqN (by omega) (by omega)]; exact hk
          obtain ⟨j1, j2⟩ := i4 hk
          have hw := hNu (24 * fr + to) (by omega)
          rw [x2] at j1 j2
          have c22 : lrem gc 1 a 22 fr to = gm 50 0 (24 * fr + to) := by rw [← (hA.2.2.2.2.2.2.1 fr to x3 x4).2]; rfl
          rw [if_neg hk', if_neg hk', ck_t x3, jn_s, c22, x2]
          by_cases cn : gm 60 0 a = gm 50 0 (24 * fr + to)
          · have cn' : sv (gm 60 0 a) = sv (gm 50 0 (24 * fr + to)) := by rw [cn]
            have cn2 : ¬ sv (gm 60 0 a) < sv (gm 50 0 (24 * fr + to)) := by omega
            obtain ⟨l, q1, q2, q3, q4⟩ := j2 cn
            have sA2 := p_tk (a := fr) (v := gm 50 0 (24 * fr + to) + 1) x4 sA1
            have e22 : (lrem gc 1 a) 22 fr to + 1 = gm 50 0 (24 * fr + to) + 1 := by rw [c22]
            have e50 : ∀ g : mg_F, mg_up g 50 0 (24 * fr + to) (gm 50 0 (24 * fr + to) + 1) 50 0 (24 * fr + to) = gm 50 0 (24 * fr + to) + 1 := fun g => by rw [ue, if_pos ⟨rfl, rfl, rfl⟩]
            rw [if_pos cn', if_neg cn2]
            dsimp only
            rw [jn_s, if_neg sv10, wr_s, wr_s, e22, jn_s]
            by_cases hk0 : gm 58 0 a = 0
            · have hk0' : sv (gm 58 0 a) = 0 := by rw [hk0, sv_0]
              have I2 := IV_tk0 (gm := mdc gm a) (w := 24 * fr + to) (l := l) (by omega) q1 q2 (q3.trans cn) (q4.trans hk0) (show gm 50 0 (24 * fr + to) ≤ lo (24 * fr + to) by omega) I1
              have hroom := q_room (gm := mg_up (mdc gm a) 50 0 (24 * fr + to) (gm 50 0 (24 * fr + to) + 1)) (s := to) (a := fr) y4 y3 sA2
              have sA3 := p_come (gm := mg_up (mdc gm a) 50 0 (24 * fr + to) (gm 50 0 (24 * fr + to) + 1)) (s := to) (a := fr) (b := gm 59 0 a) y4 y3 x7 sA2
              have I3 := IV_come (gm := mg_up (mdc gm a) 50 0 (24 * fr + to) (gm 50 0 (24 * fr + to) + 1)) (s := to) (a := fr) (b := gm 59 0 a) g5 (fun t ht => (mq (gm := mg_up (mdc gm a) 50 0 (24 * fr + to) (gm 50 0 (24 * fr + to) + 1)) sA2 ht).1) y4 (Or.inr y1) hroom I2
              obtain ⟨cq1, cq2, cq3, cq4⟩ := aq (gm := mg_up (mdc gm a) 50 0 (24 * fr + to) (gm 50 0 (24 * fr + to) + 1)) sA2 y4
              obtain ⟨mq1, mq2, mq3, mq4, mq5⟩ := mq (gm := mg_up (mdc gm a) 50 0 (24 * fr + to) (gm 50 0 (24 * fr + to) + 1)) sA2 y4
              have hroom2 : fs (fun i => (mg_up (lrem gc 1 a) 22 fr to (gm 50 0 (24 * fr + to) + 1)) 16 to i == fr) ((mg_up (lrem gc 1 a) 22 fr to (gm 50 0 (24 * fr + to) + 1)) 2 to 2) 0 = 4294967294 → (mg_up (lrem gc 1 a) 22 fr to (gm 50 0 (24 * fr + to) + 1)) 2 to 2 < 24 := by
                rw [p_qfs (gm := mg_up (mdc gm a) 50 0 (24 * fr + to) (gm 50 0 (24 * fr + to) + 1)) y4 sA2, (sA2.2.2.2.2.2.1 to y4).1]; exact hroom
              unfold P_X4_read
              rw [if_pos hk0', if_pos hk0', ck_t x4, q_qadm cq1 (by omega) (by omega) cq2 cq3 hroom2, m_come x4 mq1 (by omega) (by omega) mq2 mq3 mq4 hroom, bd_s, bd_s, bd_s]
              dsimp only
              have := d_rec (N := N) (M := N) (lo := lo) (rc := 1) (num := gm 60 0 a) sA3 I3 (by omega) (by rw [mcome_k (by omega)]; exact ho) x3 x4 (by rw [mcome_k (by omega)]; exact y1) (by rw [mcome_k (by omega), e50]; omega)
              simpa only [if_neg sv10] using this
            · have hk0' : ¬ sv (gm 58 0 a) = 0 := by rw [sv_eq0N (by omega)]; exact hk0
              have I2 := IV_right (gm := mdc gm a) (a := fr) (t := to) (l := l) g5 y4 x3 q1 q2 (q3.trans cn) (q4.trans (k01 hk hk0)) (show gm 50 0 (24 * fr + to) ≤ lo (24 * fr + to) by omega) I1
              have sA3 := p_f3 (s := to) (v := 0) (p_f2 (s := to) (v := to) sA2 (Or.inl y4)) (by omega)
              unfold P_X4_read
              rw [if_neg hk0', if_neg hk0', ck_t x4, wr_s, wr_s, wr_s, wr_s, bd_s]
              dsimp only
              have := d_rec (N := N) (M := N) (lo := lo) (rc := 1) (num := gm 60 0 a) sA3 I2 (by omega) ho x3 x4 y1 (by
                show gm 60 0 a < mg_up (mdc gm a) 50 0 (24 * fr + to) (gm 50 0 (24 * fr + to) + 1) 50 0 (24 * fr + to)
                rw [e50]; omega)
              simpa only [if_neg sv10] using this
          · have cn' : ¬ sv (gm 60 0 a) = sv (gm 50 0 (24 * fr + to)) := by rw [sv_eqN (by omega) (by omega)]; exact cn
            have cn2 : sv (gm 60 0 a) < sv (gm 50 0 (24 * fr + to)) := by rw [sv_ltN (by omega) (by omega)]; omega
            rw [if_neg cn', if_pos cn2]
            dsimp only
            rw [jn_s, if_pos sv_0]
            dsimp only
            have := d_rec (N := N) (M := N) (lo := lo) (rc := 2) (num := gm 60 0 a) sA1 I1 (by omega) ho x3 x4 y1 (show gm 60 0 a < gm 50 0 (24 * fr + to) by omega)
            simpa only [if_pos sv_0] using this
      · have hd' : ¬ sv (gm 39 0 to) = 0 := by rw [sv_eq0N (by omega)]; exact hd
        rw [if_neg hd', if_neg hd']
        exact SM_x (M := N) (lo := lo) rfl rfl rfl sA1 I1 (by omega) ho
    · refine SM_e h (by unfold P_X4_deliver; rw [ic_c h ha, bd_s, if_neg (show ¬ (gm 5 0 1 = 1 ∧ a < gm 5 0 26) from fun q => hs q.2), if_pos sv_0]) ?_
      unfold P_X5_deliver
      rw [if_neg n0]
      by_cases c : sv a < 0
      · rw [if_pos c]
      · rw [if_neg c, if_neg (by omega)]
  · exact SM_e h (by unfold P_X4_deliver; rw [ic_c h ha, bd_s, if_neg (show ¬ (gm 5 0 1 = 1 ∧ a < gm 5 0 26) from fun q => ho q.1), if_pos sv_0]) (by unfold P_X5_deliver; rw [if_pos (op0 h ho).1])
end API4
