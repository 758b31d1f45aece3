/-! ===== where the right is; calls that only look ===== -/
section OBS
variable {B : mg_F × mg_F} {N : Nat} {gc gm : mg_F}
/-- the station where the right is -/
def RP (gm : mg_F) (s : Nat) : Prop := ∃ d : Nat → Nat, s < gm 5 0 0 ∧ (∀ x, x < gm 5 0 0 → gm 36 0 x ≠ 4294967294 → x ≠ s → d (gm 36 0 x) < d x) ∧ ((gm 36 0 s = s ∧ ∀ k, k < gm 5 0 21 → ¬ unt gm k) ∨ (gm 36 0 s ≠ s ∧ gm 36 0 s < 24 ∧ ∃ k, k < gm 5 0 21 ∧ unt gm k ∧ gm 52 0 k = 24 * s + gm 36 0 s ∧ ∀ k', k' < gm 5 0 21 → unt gm k' → k' = k))
theorem RP_self {s x : Nat} (hn : gm 5 0 0 < 25) (h : RP gm s) (hx : x < gm 5 0 0) (e : gm 36 0 x = x) : x = s := by
  obtain ⟨d, h1, h2, h3⟩ := h
  apply Classical.byContradiction
  intro hne
  have := h2 x hx (by omega) hne
  rw [e] at this; omega
theorem RP_fs {s : Nat} (hn : gm 5 0 0 < 25) (h : RP gm s) : fs (fun i => gm 36 0 i == i) (gm 5 0 0) 0 = if gm 36 0 s = s then s else 4294967294 := by
  have h' := h
  obtain ⟨d, h1, h2, h3⟩ := h
  by_cases c : gm 36 0 s = s
  · rw [if_pos c]
    refine fs_at h1 (by simpa using c) (fun i hi => ?_)
    have : gm 36 0 i ≠ i := fun q => by have := RP_self hn h' (by omega) q; omega
    simpa using this
  · rw [if_neg c]
    refine fs_none (fun i hi => ?_)
    have : gm 36 0 i ≠ i := fun q => by have := RP_self hn h' hi q; subst this; exact c q
    simpa using this
theorem q_who (h : sA B gc gm) : P_X4_whoHolds gc = some (fs (fun i => gm 36 0 i == i) (gm 5 0 0) 0, gc) := by
  obtain ⟨g1, g2, g3, g4, g5, g6⟩ := h.2.1
  have hF := h.2.2.2.2.1
  unfold P_X4_whoHolds
  rw [lp_fs (L := fun n v => L_X4_whoHolds_2 (fun w4 g5 => some (4294967294, g5)) n v gc) (K := some (4294967294, gc)) (p := fun i => gm 36 0 i == i) (N := gm 5 0 0) (g := gc) (by omega) ?_ ?_ ?_ (gm 5 0 0) 4000 0 (by omega) (by omega)]
  · split
    · rename_i h; rw [h]
    · rfl
  · intro n v hv hp
    have hFv := hF v hv
    have hp' : gm 36 0 v = v := by simpa using hp
    show L_X4_whoHolds_2 (fun w4 g5 => some (4294967294, g5)) (n + 1) v gc = _
    rw [L_X4_whoHolds_2, g3, if_pos ((sv_ltN (by omega) (by omega)).mpr hv), ck_t (by omega), q_holds (by omega) (by omega), bd_s, hFv.1, if_pos hp', if_neg sv10]
  · intro n v hv hp
    have hFv := hF v hv
    have hp' : ¬ gm 36 0 v = v := by simpa using hp
    show L_X4_whoHolds_2 (fun w4 g5 => some (4294967294, g5)) (n + 1) v gc = _
    rw [L_X4_whoHolds_2, g3, if_pos ((sv_ltN (by omega) (by omega)).mpr hv), ck_t (by omega), q_holds (by omega) (by omega), bd_s, hFv.1, if_neg hp', if_pos sv_0]
  · intro n
    show L_X4_whoHolds_2 (fun w4 g5 => some (4294967294, g5)) (n + 1) (gm 5 0 0) gc = _
    rw [L_X4_whoHolds_2, g3, if_neg (by omega)]
theorem q_por {s : Nat} {lo : Nat → Nat} (hN : N < 2147483648) (h : sA B gc gm) (hI : IV N lo gm) (hr : RP gm s) : P_X4_placeOfRight gc = some (s, gc) := by
  obtain ⟨g1, g2, g3, g4, g5, g6⟩ := h.2.1
  have hfs := RP_fs g5 hr
  obtain ⟨d, r1, r2, r3⟩ := hr
  obtain ⟨l1, l2, l3⟩ := h.2.2.2.2.2.2.2.1
  unfold P_X4_placeOfRight
  rw [q_who h, bd_s, hfs]
  have stop : ∀ n v, s ≠ 4294967294 → L_X4_placeOfRight_7 (fun w15 w16 g17 => some (w15, g17)) (n + 1) s v gc = some (s, gc) := by
    intro n v hs
    rw [L_X4_placeOfRight_7]
    split
    · rw [if_neg (by rw [sv_eqN (by omega) (by omega)]; exact hs)]
    · rfl
  rcases r3 with ⟨q1, q2⟩ | ⟨q1, q2, k, q3, q4, q5, q6⟩
  · rw [if_pos q1]
    exact stop 3999 0 (by omega)
  · rw [if_neg q1]
    have key : ∀ m n v, v + m = k → m + 1 < n → L_X4_placeOfRight_7 (fun w15 w16 g17 => some (w15, g17)) n 4294967294 v gc = some (s, gc) := by
      intro m
      induction m with
      | zero =>
        intro n v e hn
        obtain ⟨n, rfl⟩ : ∃ n', n = n' + 1 + 1 := ⟨n - 2, by omega⟩
        have : v = k := by omega
        subst this
        obtain ⟨z1, z2, z3, z4, z5, z6, z7, z8⟩ := l3 v q3
        have hcap : v < mg_cap 0 := by show v < 1024; omega
        have hw : gc 12 0 v = s ∧ gc 13 0 v = gm 36 0 s := way_inj z4 q2 (by omega)
        have hn2 := (h.2.2.2.2.2.2.1 (gc 12 0 v) (gc 13 0 v) z3 z4).2
        have hu := q4.2
        rw [z2] at hu
        have hnu := hI.2.2.2.2.2.1 (gm 52 0 v) (by omega)
        have hx := (hnu.2.2.2.2 (gm 55 0 v)).mpr ⟨v, q3, rfl, rfl⟩
        rw [z2] at hnu hx
        rw [L_X4_placeOfRight_7, l1, if_pos ((sv_ltN (by omega) (by omega)).mpr q3), if_pos rfl, ck_t hcap, ck_t hcap, jn_s, z1, if_pos (by rw [q4.1]), ck_t hcap, ck_t z3, ck_t hcap, ck_t z4, z5, hn2, if_neg (by rw [sv_ltN (by omega) (by omega)]; omega), hw.1]
        exact stop n _ (by omega)
      | succ m ih =>
        intro n v e hn
        obtain ⟨n, rfl⟩ : ∃ n', n = n' + 1 := ⟨n - 1, by omega⟩
        have hv : v < gm 5 0 21 := by omega
        obtain ⟨z1, z2, z3, z4, z5, z6, z7, z8⟩ := l3 v hv
        have hcap : v < mg_cap 0 := by show v < 1024; omega
        have hn2 := (h.2.2.2.2.2.2.1 (gc 12 0 v) (gc 13 0 v) z3 z4).2
        have hnu := hI.2.2.2.2.2.1 (gm 52 0 v) (by omega)
        have hx := (hnu.2.2.2.2 (gm 55 0 v)).mpr ⟨v, hv, rfl, rfl⟩
        have nu : ¬ unt gm v := fun q => by have := q6 v hv q; omega
        rw [L_X4_placeOfRight_7, l1, if_pos ((sv_ltN (by omega) (by omega)).mpr hv), if_pos rfl, ck_t hcap, ck_t hcap, jn_s, z1]
        by_cases c : gm 53 0 v = 1
        · have nn : ¬ gm 50 0 (gm 52 0 v) ≤ gm 55 0 v := fun q => nu ⟨c, q⟩
          rw [z2] at hnu hx nn
          rw [if_pos (by rw [c]), ck_t hcap, ck_t z3, ck_t hcap, ck_t z4, z5, hn2, if_pos (by rw [sv_ltN (by omega) (by omega)]; omega)]
          exact ih n (v + 1) (by omega) (by omega)
        · rw [if_neg (by rw [sv_eqN (by omega) (by omega)]; exact c)]
          exact ih n (v + 1) (by omega) (by omega)
    exact key k 4000 0 (by omega) (by omega)
theorem m_por {s : Nat} {lo : Nat → Nat} (hN : N < 2147483648) (h : sA B gc gm) (hI : IV N lo gm) (hr : RP gm s) : P_X5_rightAt gm = some (s, gm) := by
  obtain ⟨g1, g2, g3, g4, g5, g6⟩ := h.2.1
  have hfs := RP_fs g5 hr
  obtain ⟨d, r1, r2, r3⟩ := hr
  obtain ⟨l1, l2, l3⟩ := h.2.2.2.2.2.2.2.1
  have hF := h.2.2.2.2.1
  unfold P_X5_rightAt
  rw [lp_fs (L := fun n v => L_X5_rightAt_2 (fun w4 g5 => L_X5_rightAt_33 (fun w14 w15 g16 => some (w14, g16)) 4000 4294967294 0 g5) n v gm) (K := L_X5_rightAt_33 (fun w14 w15 g16 => some (w14, g16)) 4000 4294967294 0 gm) (p := fun i => gm 36 0 i == i) (N := gm 5 0 0) (g := gm) (by omega) ?_ ?_ ?_ (gm 5 0 0) 4000 0 (by omega) (by omega), hfs]
  · rcases r3 with ⟨q1, q2⟩ | ⟨q1, q2, k, q3, q4, q5, q6⟩
    · rw [if_pos q1, if_neg (by omega)]
    · rw [if_neg q1, if_pos rfl]
      obtain ⟨x, e1, e2⟩ := lp_ex (L := fun n x v => L_X5_rightAt_33 (fun w14 w15 g16 => some (w14, g16)) n x v gm) (K := fun x => some (x, gm)) (I := fun v x => x = if k < v then s else 4294967294) (N := gm 5 0 21) (by
        intro n x v hv hx
        obtain ⟨z1, z2, z3, z4, z5, z6, z7, z8⟩ := l3 v hv
        have hnu := hI.2.2.2.2.2.1 (gm 52 0 v) (by omega)
        have hy := (hnu.2.2.2.2 (gm 55 0 v)).mpr ⟨v, hv, rfl, rfl⟩
        refine ⟨_, ?_, rfl⟩
        show L_X5_rightAt_33 _ (n + 1) x v gm = L_X5_rightAt_33 _ n (if k < v + 1 then s else 4294967294) (v + 1) gm
        rw [L_X5_rightAt_33, if_pos ((sv_ltN (by omega) (by omega)).mpr hv), ck_t (by omega), jn_s]
        by_cases cu : unt gm v
        · have hk : v = k := q6 v hv cu
          subst hk
          have hd : gm 52 0 v / 24 = s := by rw [q5]; omega
          rw [if_pos (by rw [cu.1]), ck_t (by omega), ck_t (by omega), ck_t (by omega), if_neg (by rw [sv_ltN (by omega) (by omega)]; have := cu.2; omega), ck_t (by omega), ck_t (by omega), hd, if_pos (by omega)]
        · have hk : v ≠ k := fun q => cu (q ▸ q4)
          have hxx : x = if k < v + 1 then s else 4294967294 := by
            rw [hx]
            by_cases c : k < v
            · rw [if_pos c, if_pos (by omega)]
            · rw [if_neg c, if_neg (by omega)]
          rw [← hxx]
          by_cases c : gm 53 0 v = 1
          · have nn : ¬ gm 50 0 (gm 52 0 v) ≤ gm 55 0 v := fun q => cu ⟨c, q⟩
            rw [if_pos (by rw [c]), ck_t (by omega), ck_t (by omega), ck_t (by omega), if_pos (by rw [sv_ltN (by omega) (by omega)]; omega)]
          · rw [if_neg (by rw [sv_eqN (by omega) (by omega)]; exact c)]) (by
        intro n x hx
        show L_X5_rightAt_33 _ (n + 1) x (gm 5 0 21) gm = _
        rw [L_X5_rightAt_33, if_neg (by omega)]) (gm 5 0 21) 4000 4294967294 0 (by omega) (by omega) (by rw [if_neg (by omega)])
      rw [e1, if_pos q3] at e2
      exact e2
  · intro n v hv hp
    have hp' : gm 36 0 v = v := by simpa using hp
    show L_X5_rightAt_2 _ (n + 1) v gm = _
    rw [L_X5_rightAt_2, if_pos ((sv_ltN (by omega) (by omega)).mpr hv), ck_t (by omega), if_pos (by rw [hp'])]
  · intro n v hv hp
    have hFv := hF v hv
    have hp' : ¬ gm 36 0 v = v := by simpa using hp
    show L_X5_rightAt_2 _ (n + 1) v gm = _
    rw [L_X5_rightAt_2, if_pos ((sv_ltN (by omega) (by omega)).mpr hv), ck_t (by omega), if_neg (by rw [sv_eqN (by omega) (by omega)]; exact hp')]
  · intro n
    show L_X5_rightAt_2 _ (n + 1) (gm 5 0 0) gm = _
    rw [L_X5_rightAt_2, if_neg (by omega)]
theorem s_holder (h : TT B N gc gm) : SM B (N + 2) (P_X4_holder gc) (P_X5_holder gm) := by
  obtain ⟨g1, g2, g3, g4, g5, g6⟩ := h.2.1
  by_cases ho : gm 5 0 1 = 1
  · have n0 : ¬ sv (gm 5 0 1) = 0 := cl_o ho rfl
    obtain ⟨hA, lo, hI⟩ := h.2.2.2.1 ho
    obtain ⟨s, hr⟩ := hI.2.2.2.2.2.2.2.2
    have hfs := RP_fs g5 hr
    have hF := hA.2.2.2.2.1
    have em : L_X5_holder_14 (fun w8 w9 g10 => some (w8, g10)) 4000 4294967294 0 gm = some (fs (fun i => gm 36 0 i == i) (gm 5 0 0) 0, gm) := by
      obtain ⟨x, e1, e2⟩ := lp_ex (L := fun n x v => L_X5_holder_14 (fun w8 w9 g10 => some (w8, g10)) n x v gm) (K := fun x => some (x, gm)) (I := fun v x => x = if gm 36 0 s = s ∧ s < v then s else 4294967294) (N := gm 5 0 0) (by
        intro n x v hv hx
        have hFv := hF v hv
        refine ⟨_, ?_, rfl⟩
        show L_X5_holder_14 _ (n + 1) x v gm = L_X5_holder_14 _ n (if gm 36 0 s = s ∧ s < v + 1 then s else 4294967294) (v + 1) gm
        rw [L_X5_holder_14, if_pos ((sv_ltN (by omega) (by omega)).mpr hv), ck_t (by omega), jn_s]
        by_cases c : gm 36 0 v = v
        · have : v = s := RP_self g5 hr hv c
          subst this
          rw [if_pos (by rw [c]), if_pos (by omega)]
        · rw [if_neg (by rw [sv_eqN (by omega) (by omega)]; exact c), hx]
          have hvs : ¬ (gm 36 0 s = s ∧ s = v) := fun q => c (by rw [← q.2]; exact q.1)
          by_cases c2 : gm 36 0 s = s ∧ s < v
          · rw [if_pos c2, if_pos (by omega)]
          · rw [if_neg c2, if_neg (by omega)]) (by
        intro n x hx
        show L_X5_holder_14 _ (n + 1) x (gm 5 0 0) gm = _
        rw [L_X5_holder_14, if_neg (by omega)]) (gm 5 0 0) 4000 4294967294 0 (by omega) (by omega) (by rw [if_neg (by omega)])
      have e2' : L_X5_holder_14 (fun w8 w9 g10 => some (w8, g10)) 4000 4294967294 0 gm = some (x, gm) := e2
      have hs : s < gm 5 0 0 := by obtain ⟨_, q, _⟩ := hr; exact q
      rw [e2', e1, hfs]
      by_cases c : gm 36 0 s = s
      · rw [if_pos ⟨c, hs⟩, if_pos c]
      · rw [if_neg (fun q => c q.1), if_neg c]
    exact SM_e h (by unfold P_X4_holder; rw [g1, if_neg n0, q_who hA, bd_s]) (by unfold P_X5_holder; rw [if_neg n0, em])
  · obtain ⟨o1, o2⟩ := op0 h ho
    exact SM_e h (by unfold P_X4_holder; rw [if_pos (by rw [o2, sv_0])]) (by unfold P_X5_holder; rw [if_pos o1])
theorem s_pointer {a : Nat} (h : TT B N gc gm) (ha : a < 4294967296) : SM B (N + 2) (P_X4_pointer a gc) (P_X5_pointer a gm) := by
  obtain ⟨g1, g2, g3, g4, g5, g6⟩ := h.2.1
  by_cases ho : gm 5 0 1 = 1
  · have n0 : ¬ sv (gm 5 0 1) = 0 := cl_o ho rfl
    by_cases hs : a < gm 5 0 0
    · obtain ⟨hA, lo, hI⟩ := h.2.2.2.1 ho
      have hF := hA.2.2.2.2.1 a hs
      exact SM_e h (by unfold P_X4_pointer; rw [st_c h ha, bd_s, if_pos (show gm 5 0 1 = 1 ∧ a < gm 5 0 0 from ⟨ho, hs⟩), if_neg sv10, ck_t (by omega), hF.1]) (by unfold P_X5_pointer; rw [if_neg n0, st_m h ha, bd_s, if_pos hs, if_neg sv10, ck_t (by omega)])
    · exact SM_e h (by unfold P_X4_pointer; rw [st_c h ha, bd_s, if_neg (show ¬ (gm 5 0 1 = 1 ∧ a < gm 5 0 0) from fun q => hs q.2), if_pos sv_0]) (by unfold P_X5_pointer; rw [if_neg n0, st_m h ha, bd_s, if_neg hs, if_pos sv_0])
  · obtain ⟨o1, o2⟩ := op0 h ho
    exact SM_e h (by unfold P_X4_pointer; rw [st_c h ha, bd_s, if_neg (show ¬ (gm 5 0 1 = 1 ∧ a < gm 5 0 0) from fun q => ho q.1), if_pos sv_0]) (by unfold P_X5_pointer; rw [if_pos o1])
theorem s_queue {a b c : Nat} (h : TT B N gc gm) (ha : a < 4294967296) (hb : b < 4294967296) : SM B (N + 2) (P_X4_queue a b c gc) (P_X5_queue a b c gm) := by
  obtain ⟨g1, g2, g3, g4, g5, g6⟩ := h.2.1
  have e1 := sv_om hb
  by_cases ho : gm 5 0 1 = 1
  · have n0 : ¬ sv (gm 5 0 1) = 0 := cl_o ho rfl
    by_cases hs : a < gm 5 0 0
    · have hos : gm 5 0 1 = 1 ∧ a < gm 5 0 0 := ⟨ho, hs⟩
      obtain ⟨hA, lo, hI⟩ := h.2.2.2.1 ho
      have h24 : a < 24 := by omega
      obtain ⟨q1, q2, q3, q4⟩ := hA.2.2.2.2.2.1 a hs
      have e2 := sv_om (a := gm 46 0 a) (by omega)
      by_cases c1 : sv b < 0
      · exact SM_e h (by unfold P_X4_queue; rw [st_c h ha, bd_s, if_pos hos, if_neg sv10, if_pos c1]) (by unfold P_X5_queue; rw [if_neg n0, st_m h ha, bd_s, if_pos hs, if_neg sv10, if_pos c1])
      · by_cases c2 : sv b < sv (gm 46 0 a)
        · have hb2 : b < gm 46 0 a := by omega
          obtain ⟨w1, w2, w3, w4⟩ := q3 b hb2
          by_cases c3 : sv c = 0
          · exact SM_e h (by unfold P_X4_queue; rw [st_c h ha, bd_s, if_pos hos, if_neg sv10, if_neg c1, ck_t h24, q1, if_pos c2, if_pos c3, ck_t (by omega), w1]) (by unfold P_X5_queue P_X5_entry; rw [if_neg n0, st_m h ha, bd_s, if_pos hs, if_neg sv10, if_neg c1, ck_t h24, if_pos c2, if_pos c3, bd_s, ck_t (by omega)])
          · exact SM_e h (by unfold P_X4_queue; rw [st_c h ha, bd_s, if_pos hos, if_neg sv10, if_neg c1, ck_t h24, q1, if_pos c2, if_neg c3, ck_t (by omega), w2]) (by unfold P_X5_queue P_X5_entry; rw [if_neg n0, st_m h ha, bd_s, if_pos hs, if_neg sv10, if_neg c1, ck_t h24, if_pos c2, if_neg c3, bd_s, ck_t (by omega)])
        · exact SM_e h (by unfold P_X4_queue; rw [st_c h ha, bd_s, if_pos hos, if_neg sv10, if_neg c1, ck_t h24, q1, if_neg c2]) (by unfold P_X5_queue; rw [if_neg n0, st_m h ha, bd_s, if_pos hs, if_neg sv10, if_neg c1, ck_t h24, if_neg c2])
    · exact SM_e h (by unfold P_X4_queue; rw [st_c h ha, bd_s, if_neg (show ¬ (gm 5 0 1 = 1 ∧ a < gm 5 0 0) from fun q => hs q.2), if_pos sv_0]) (by unfold P_X5_queue; rw [if_neg n0, st_m h ha, bd_s, if_neg hs, if_pos sv_0])
  · obtain ⟨o1, o2⟩ := op0 h ho
    exact SM_e h (by unfold P_X4_queue; rw [st_c h ha, bd_s, if_neg (show ¬ (gm 5 0 1 = 1 ∧ a < gm 5 0 0) from fun q => ho q.1), if_pos sv_0]) (by unfold P_X5_queue; rw [if_pos o1])
theorem s_letter {a b : Nat} (h : TT B N gc gm) (ha : a < 4294967296) (hb : b < 4294967296) : SM B (N + 2) (P_X4_letter a b gc) (P_X5_letter a b gm) := by
  obtain ⟨g1, g2, g3, g4, g5, g6⟩ := h.2.1
  have e1 := sv_om ha
  by_cases ho : gm 5 0 1 = 1
  · have n0 : ¬ sv (gm 5 0 1) = 0 := cl_o ho rfl
    obtain ⟨hA, lo, hI⟩ := h.2.2.2.1 ho
    obtain ⟨hc, hc2, hc3⟩ := hA.2.2.2.2.2.2.2.2
    have e3 := sv_om (a := gm 5 0 26) (by omega)
    by_cases hs : a < gm 5 0 26
    · have hos : gm 5 0 1 = 1 ∧ a < gm 5 0 26 := ⟨ho, hs⟩
      have s1 : ¬ sv a < 0 := by omega
      have s2 : sv a < sv (gm 5 0 26) := by omega
      obtain ⟨x1, x2, x3, x4, x5, x6, x7, x8⟩ := hc3 a hs
      have hcap : a < mg_cap 1 := by show a < 60; omega
      have h60 : a < 60 := by omega
      have wm : gm 57 0 a % 24 = gc 13 1 a := by omega
      have wd : gm 57 0 a / 24 = gc 12 1 a := by omega
      have w31 : gm 57 0 a < 2147483648 := by omega
      have ec : P_X4_letter a b gc = if sv b = sv 0 then some (gm 58 0 a, gc) else if sv b = sv 1 then some (gc 12 1 a, gc) else if sv b = sv 2 then some (gc 13 1 a, gc) else if sv b = sv 3 then some (gm 60 0 a, gc) else if sv b = sv 4 then some (gm 59 0 a, gc) else some (4294967295, gc) := by
        unfold P_X4_letter
        rw [ic_c h ha, bd_s, if_pos hos, if_neg sv10, ck_t hcap, ck_t hcap, ck_t hcap, ck_t hcap, ck_t hcap, x1, x5, x6]
      have em : P_X5_letter a b gm = if sv b = sv 0 then some (gm 58 0 a, gm) else if sv b = sv 1 then some (gc 12 1 a, gm) else if sv b = sv 2 then some (gc 13 1 a, gm) else if sv b = sv 3 then some (gm 60 0 a, gm) else if sv b = sv 4 then some (gm 59 0 a, gm) else some (4294967295, gm) := by
        unfold P_X5_letter
        rw [if_neg n0, if_neg s1, if_pos s2, ck_t h60, ck_t h60, ck_t w31, ck_t h60, ck_t w31, ck_t h60, ck_t h60, wm, wd]
      rw [ec, em]
      by_cases c0 : sv b = sv 0
      · rw [if_pos c0, if_pos c0]; exact SM_same h
      · rw [if_neg c0, if_neg c0]
        by_cases c1 : sv b = sv 1
        · rw [if_pos c1, if_pos c1]; exact SM_same h
        · rw [if_neg c1, if_neg c1]
          by_cases c2 : sv b = sv 2
          · rw [if_pos c2, if_pos c2]; exact SM_same h
          · rw [if_neg c2, if_neg c2]
            by_cases c3 : sv b = sv 3
            · rw [if_pos c3, if_pos c3]; exact SM_same h
            · rw [if_neg c3, if_neg c3]
              by_cases c4 : sv b = sv 4
              · rw [if_pos c4, if_pos c4]; exact SM_same h
              · rw [if_neg c4, if_neg c4]; exact SM_same h
    · refine SM_e h (by unfold P_X4_letter; rw [ic_c h ha, bd_s, if_neg (show ¬ (gm 5 0 1 = 1 ∧ a < gm 5 0 26) from fun q => hs q.2), if_pos sv_0]) ?_
      unfold P_X5_letter
      rw [if_neg n0]
      by_cases c : sv a < 0
      · rw [if_pos c]
      · rw [if_neg c, if_neg (by omega)]
  · obtain ⟨o1, o2⟩ := op0 h ho
    exact SM_e h (by unfold P_X4_letter; rw [ic_c h ha, bd_s, if_neg (show ¬ (gm 5 0 1 = 1 ∧ a < gm 5 0 26) from fun q => ho q.1), if_pos sv_0]) (by unfold P_X5_letter; rw [if_pos o1])
end OBS
