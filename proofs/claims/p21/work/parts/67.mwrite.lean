/-! ===== pure: what the reference's writing methods make ===== -/
def mcome (g : mg_F) (s a b : Nat) : mg_F := if fs (fun i => g 47 0 (24 * s + i) == a) (g 46 0 s) 0 = 4294967294 then mg_up (mg_up (mg_up g 47 0 (24 * s + g 46 0 s) a) 48 0 (24 * s + g 46 0 s) b) 46 0 s (g 46 0 s + 1) else mg_up g 48 0 (24 * s + fs (fun i => g 47 0 (24 * s + i) == a) (g 46 0 s) 0) (max (g 48 0 (24 * s + fs (fun i => g 47 0 (24 * s + i) == a) (g 46 0 s) 0)) b)
theorem up_same (g : mg_F) (k i j : Nat) : mg_up g k i j (g k i j) = g := by
  funext k' i' j'
  rw [ue]
  split
  · rename_i h; rw [h.1, h.2.1, h.2.2]
  · rfl
theorem m_come {s a b : Nat} {g : mg_F} (hs : s < 24) (hl : g 46 0 s ≤ 24) (ha : a < 4294967296) (hb : b < 2147483648) (hw : ∀ i, i < g 46 0 s → g 47 0 (24 * s + i) < 4294967296) (hd : ∀ i j, i < g 46 0 s → j < g 46 0 s → g 47 0 (24 * s + i) = g 47 0 (24 * s + j) → i = j) (hw2 : ∀ i, i < g 46 0 s → g 48 0 (24 * s + i) < 2147483648) (hr : fs (fun i => g 47 0 (24 * s + i) == a) (g 46 0 s) 0 = 4294967294 → g 46 0 s < 24) : P_X5_come s a b g = some (0, mcome g s a b) := by
  unfold P_X5_come mcome P_X5_entry
  rw [m_pl hs hl ha hw hd, bd_s]
  have f1 := fs_spec (fun i => g 47 0 (24 * s + i) == a) (g 46 0 s) 0
  generalize fs (fun i => g 47 0 (24 * s + i) == a) (g 46 0 s) 0 = x at *
  by_cases c : x = 4294967294
  · have e : fm x = 4294967295 := by unfold fm; rw [if_pos c]
    have := hr c
    have h5 : 24 * s + g 46 0 s < 576 := by omega
    rw [e, if_pos (by decide +kernel), if_pos c, ck_t hs]
    simp [bd, ck, wr, ue, h5]
  · have e : fm x = x := by unfold fm; rw [if_neg c]
    have hx : x < g 46 0 s := by omega
    have h5 : 24 * s + x < 576 := by omega
    rw [e, if_neg (by rw [sv_lt0N (by omega)]; omega), if_neg c, bd_s, ck_t h5, bd_s, ck_t h5, wr_s]
    simp only [sv_ltN (hw2 x hx) hb]
    by_cases c2 : g 48 0 (24 * s + x) < b
    · rw [if_pos c2, Nat.max_eq_right (by omega)]
    · rw [if_neg c2, Nat.max_eq_left (by omega), up_same]
def mlv (g : mg_F) (s a : Nat) : mg_F := fun k i j => if k = 46 ∧ i = 0 ∧ j = s then g 46 0 s - 1 else if k = 47 ∧ i = 0 ∧ 24 * s + a ≤ j ∧ j < 24 * s + (g 46 0 s - 1) then g 47 0 (j + 1) else if k = 48 ∧ i = 0 ∧ 24 * s ≤ j ∧ j < 24 * s + (g 46 0 s - 1) then min ((if 24 * s + a ≤ j then g 48 0 (j + 1) else g 48 0 j) + 1) 1000 else g k i j
theorem m_lv {s a : Nat} {g : mg_F} (hs : s < 24) (hl : g 46 0 s ≤ 24) (ha : a < g 46 0 s) (hw : ∀ i, i < g 46 0 s → g 48 0 (24 * s + i) ≤ 1000) : P_X5_leave s a g = some (0, mlv g s a) := by
  unfold P_X5_leave
  have k1 : ∀ K : mg_F → mo, L_X5_leave_2 s a (fun _ g => K g) 4000 a g = K (fun k i j => if (k = 47 ∨ k = 48) ∧ i = 0 ∧ 24 * s + a ≤ j ∧ j < 24 * s + (g 46 0 s - 1) then g k i (j + 1) else g k i j) := by
    intro K
    obtain ⟨x, e1, e2⟩ := lp_ex (L := fun n x v => L_X5_leave_2 s a (fun _ g => K g) n v x) (K := K) (I := fun v x => a ≤ v ∧ x = fun k i j => if (k = 47 ∨ k = 48) ∧ i = 0 ∧ 24 * s + a ≤ j ∧ j < 24 * s + v then g k i (j + 1) else g k i j) (N := g 46 0 s - 1) (by
      intro n x v hv hx
      obtain ⟨hv1, hx⟩ := hx
      refine ⟨mg_up (mg_up x 47 0 (24 * s + v) (g 47 0 (24 * s + (v + 1)))) 48 0 (24 * s + v) (g 48 0 (24 * s + (v + 1))), ?_, by omega, ?_⟩
      · show L_X5_leave_2 s a _ (n + 1) v x = _
        have hl : x 46 0 s = g 46 0 s := by rw [hx]; simp
        have hl2 : x 47 0 (24 * s + (v + 1)) = g 47 0 (24 * s + (v + 1)) := by
          rw [hx]; show (if _ then _ else _) = _; rw [if_neg (by omega)]
        have hl3 : x 48 0 (24 * s + (v + 1)) = g 48 0 (24 * s + (v + 1)) := by
          rw [hx]; show (if _ then _ else _) = _; rw [if_neg (by omega)]
        rw [L_X5_leave_2, hl]
        unfold P_X5_entry
        rw [ck_t hs, if_pos ((sv_ltN (by omega) (by omega)).mpr (by omega)), bd_s, bd_s, ck_t (by omega), ck_t (by omega), wr_s, bd_s, bd_s, ck_t (by omega), ck_t (by omega), wr_s, ue, if_neg (by omega), hl2, hl3]
      · subst hx
        funext k i j
        simp only [ue]
        by_cases c1 : k = 48
        · subst c1
          by_cases c2 : i = 0 ∧ j = 24 * s + v
          · rw [if_pos ⟨rfl, c2⟩, if_pos (by omega), c2.1, c2.2]; congr 1
          · rw [if_neg (by omega), if_neg (by omega)]
            by_cases c3 : i = 0 ∧ 24 * s + a ≤ j ∧ j < 24 * s + v
            · rw [if_pos (by omega), if_pos (by omega)]
            · rw [if_neg (by omega), if_neg (by omega)]
        · rw [if_neg (by omega)]
          by_cases c2 : k = 47 ∧ i = 0 ∧ j = 24 * s + v
          · rw [if_pos c2, if_pos (by omega), c2.1, c2.2.1, c2.2.2]; congr 1
          · rw [if_neg c2]
            by_cases c3 : k = 47 ∧ i = 0 ∧ 24 * s + a ≤ j ∧ j < 24 * s + v
            · rw [if_pos (by omega), if_pos (by omega)]
            · rw [if_neg (by omega), if_neg (by omega)]) (by
      intro n x hx
      obtain ⟨_, hx⟩ := hx
      show L_X5_leave_2 s a _ (n + 1) _ x = _
      have hl : x 46 0 s = g 46 0 s := by rw [hx]; simp
      rw [L_X5_leave_2, hl, ck_t hs, if_neg (by rw [sv_ltN (by omega) (by omega)]; omega)]) (g 46 0 s - 1 - a) 4000 g a (by omega) (by omega) ⟨by omega, by
        funext k i j; rw [if_neg (by omega)]⟩
    rw [e1.2] at e2
    exact e2
  rw [k1 (fun g18 => ck (s < 24) <| wr (mg_up g18 46 0 s (sb (g18 46 0 s) 1)) fun g20 => L_X5_leave_80 s a (fun w28 g29 => some (0, g29)) 4000 0 g20)]
  rw [ck_t hs, wr_s]
  have k2 : ∀ B : mg_F, B 46 0 s = g 46 0 s - 1 → (∀ j, j < g 46 0 s - 1 → B 48 0 (24 * s + j) ≤ 1000) → L_X5_leave_80 s a (fun w28 g29 => some (0, g29)) 4000 0 B = some (0, aw B 48 0 (24 * s) (fun j => min (B 48 0 j + 1) 1000) (24 * s + (g 46 0 s - 1))) := by
    intro B hB hB2
    obtain ⟨x, e1, e2⟩ := lp_ex (L := fun n x v => L_X5_leave_80 s a (fun w6 g7 => some (0, g7)) n v x) (K := fun x => some (0, x)) (I := fun v x => x = aw B 48 0 (24 * s) (fun j => min (B 48 0 j + 1) 1000) (24 * s + v)) (N := g 46 0 s - 1) (by
      intro n x v hv hx
      subst hx
      refine ⟨_, ?_, (aw_s B 48 0 (24 * s) (fun j => min (B 48 0 j + 1) 1000) (24 * s + v) (by omega))⟩
      show L_X5_leave_80 s a _ (n + 1) v _ = _
      have hl : aw B 48 0 (24 * s) (fun j => min (B 48 0 j + 1) 1000) (24 * s + v) 46 0 s = g 46 0 s - 1 := by
        unfold aw; rw [if_neg (by omega)]; exact hB
      have hl2 : aw B 48 0 (24 * s) (fun j => min (B 48 0 j + 1) 1000) (24 * s + v) 48 0 (24 * s + v) = B 48 0 (24 * s + v) := by
        unfold aw; rw [if_neg (by omega)]
      have := hB2 v hv
      rw [L_X5_leave_80, hl]
      unfold P_X5_entry
      rw [if_pos ((sv_ltN (by omega) (by omega)).mpr hv)]
      simp only [bd_s, jn_s, wr_s, hl2]
      rw [ck_t (by omega)]
      by_cases c : B 48 0 (24 * s + v) < 1000
      · rw [if_pos ((sv_ltN (by omega) (by omega)).mpr c), Nat.min_eq_left (by omega)]
        repeat rw [ck_t (by omega)]
      · rw [if_neg (by rw [sv_ltN (by omega) (by omega)]; exact c), Nat.min_eq_right (by omega)]
        repeat rw [ck_t (by omega)]) (by
      intro n x hx
      subst hx
      show L_X5_leave_80 s a _ (n + 1) _ _ = _
      have hl : aw B 48 0 (24 * s) (fun j => min (B 48 0 j + 1) 1000) (24 * s + (g 46 0 s - 1)) 46 0 s = g 46 0 s - 1 := by
        unfold aw; rw [if_neg (by omega)]; exact hB
      rw [L_X5_leave_80, hl, if_neg (by omega)]) (g 46 0 s - 1) 4000 B 0 (by omega) (by omega) (aw_0 _ _ _ _ _).symm
    rw [e1] at e2
    exact e2
  rw [k2]
  · congr 2
    funext k i j
    unfold aw mlv
    simp only [ue]
    by_cases c1 : k = 48
    · subst c1
      by_cases c2 : i = 0 ∧ 24 * s ≤ j ∧ j < 24 * s + (g 46 0 s - 1)
      · obtain ⟨rfl, c2⟩ := c2
        by_cases c3 : 24 * s + a ≤ j
        · simp [c2, c3]
        · simp [c2, c3]
      · rw [if_neg (by omega), if_neg (by omega), if_neg (by omega), if_neg (by omega), if_neg (by omega), if_neg (by omega)]
    · rw [if_neg (by omega)]
      by_cases c4 : k = 46 ∧ i = 0 ∧ j = s
      · rw [if_pos c4, if_pos c4]
        rw [if_neg (by omega), sb_le (by omega)]
      · rw [if_neg c4, if_neg c4]
        by_cases c5 : k = 47 ∧ i = 0 ∧ 24 * s + a ≤ j ∧ j < 24 * s + (g 46 0 s - 1)
        · rw [if_pos (by omega), if_pos c5, c5.1, c5.2.1]
        · rw [if_neg (by omega), if_neg c5, if_neg (by omega)]
  · rw [ue, if_pos ⟨rfl, rfl, rfl⟩]
    show sb (if (46 = 47 ∨ 46 = 48) ∧ 0 = 0 ∧ _ then _ else g 46 0 s) 1 = _
    rw [if_neg (by omega), sb_le (by omega)]
  · intro j hj
    simp only [ue]
    rw [if_neg (by omega)]
    split
    · exact hw (j + 1) (by omega)
    · exact hw j (by omega)
def msend (g : mg_F) (a b c d : Nat) : mg_F := if g 5 0 26 = 60 then g else mg_up (mg_up (mg_up (mg_up (mg_up g 57 0 (g 5 0 26) a) 58 0 (g 5 0 26) b) 59 0 (g 5 0 26) c) 60 0 (g 5 0 26) d) 5 0 26 (g 5 0 26 + 1)
theorem m_send {a b c d : Nat} {g : mg_F} (h : g 5 0 26 ≤ 60) : P_X5_send a b c d g = some (0, msend g a b c d) := by
  unfold P_X5_send msend
  simp only [sv_eqN (a := g 5 0 26) (b := 60) (by omega) (by omega)]
  by_cases h1 : g 5 0 26 = 60
  · rw [if_pos h1, if_pos h1]
  · have h2 : g 5 0 26 < 60 := by omega
    rw [if_neg h1, if_neg h1]
    simp [ck, wr, ue, h2]
def msf (g : mg_F) (w : Nat) : mg_F := if fs (fun i => g 52 0 i == w) (g 5 0 21) 0 = 4294967294 then g else msend g w (g 53 0 (fs (fun i => g 52 0 i == w) (g 5 0 21) 0)) (g 54 0 (fs (fun i => g 52 0 i == w) (g 5 0 21) 0)) (g 55 0 (fs (fun i => g 52 0 i == w) (g 5 0 21) 0))
theorem m_sf {w : Nat} {g : mg_F} (hl : g 5 0 21 ≤ 1024) (hl2 : g 5 0 26 ≤ 60) (ha : w < 4294967296) (hw : ∀ i, i < g 5 0 21 → g 52 0 i < 4294967296) : P_X5_sendFirst w g = some (0, msf g w) := by
  unfold P_X5_sendFirst msf
  rw [m_fl hl ha hw, bd_s]
  have f1 := fs_spec (fun i => g 52 0 i == w) (g 5 0 21) 0
  generalize fs (fun i => g 52 0 i == w) (g 5 0 21) 0 = x at *
  by_cases c : x = 4294967294
  · have e : fm x = 4294967295 := by unfold fm; rw [if_pos c]
    rw [e, if_pos (by decide +kernel), if_pos c]
  · have e : fm x = x := by unfold fm; rw [if_neg c]
    rw [e, if_neg (by rw [sv_lt0N (by omega)]; omega), if_neg c, ck_t (by omega), ck_t (by omega), ck_t (by omega), m_send hl2, bd_s]
def mlet (g : mg_F) (w b c : Nat) : mg_F := mg_up (mg_up (mg_up (mg_up (mg_up (mg_up g 52 0 (g 5 0 21) w) 53 0 (g 5 0 21) b) 54 0 (g 5 0 21) c) 55 0 (g 5 0 21) (g 49 0 w)) 5 0 21 (g 5 0 21 + 1)) 49 0 w (g 49 0 w + 1)
def mwrite (g : mg_F) (w b c : Nat) : mg_F := if fs (fun i => g 52 0 i == w) (g 5 0 21) 0 = 4294967294 then msf (mlet g w b c) w else mlet g w b c
theorem m_write {w b c : Nat} {g : mg_F} (hl : g 5 0 21 < 1024) (hl2 : g 5 0 26 ≤ 60) (ha : w < 576) (hw : ∀ i, i < g 5 0 21 → g 52 0 i < 4294967296) : P_X5_write w b c g = some (0, mwrite g w b c) := by
  unfold P_X5_write mwrite
  rw [m_fl (by omega) (by omega) hw, bd_s]
  have f1 := fs_spec (fun i => g 52 0 i == w) (g 5 0 21) 0
  have h5 : g 5 0 21 < 3000 := by omega
  have e2 : P_X5_sendFirst w (mlet g w b c) = some (0, msf (mlet g w b c) w) := by
    refine m_sf ?_ ?_ (by omega) (fun i hi => ?_)
    · simp [mlet, ue]; omega
    · simp [mlet, ue]; omega
    · simp [mlet, ue] at hi ⊢
      split
      · omega
      · exact hw i (by omega)
  have e3 : mg_up (mg_up (mg_up (mg_up (mg_up (mg_up g 52 0 (g 5 0 21) w) 53 0 (g 5 0 21) b) 54 0 (g 5 0 21) c) 55 0 (g 5 0 21) (g 49 0 w)) 5 0 21 (g 5 0 21 + 1)) 49 0 w (g 49 0 w + 1) = mlet g w b c := rfl
  generalize fs (fun i => g 52 0 i == w) (g 5 0 21) 0 = x at *
  rw [jn_s]
  by_cases c : x = 4294967294
  · have e : fm x = 4294967295 := by unfold fm; rw [if_pos c]
    rw [e, if_pos (by decide +kernel), if_pos c]
    simp [ck, wr, ue, h5, ha, e3, sv_l1, e2, bd]
  · have e : fm x = x := by unfold fm; rw [if_neg c]
    rw [e, if_neg (by rw [sv_lt0N (by omega)]; omega), if_neg c]
    simp [ck, wr, ue, h5, ha, e3, sv_l0]
def mask (g : mg_F) (s : Nat) : mg_F := mwrite (mg_up (mg_up g 37 0 s 1) 41 0 s (g 48 0 (24 * s + gp (fun i => g 48 0 (24 * s + i)) (g 46 0 s - 1) 1 0))) (24 * s + g 36 0 s) 0 (g 48 0 (24 * s + gp (fun i => g 48 0 (24 * s + i)) (g 46 0 s - 1) 1 0))
theorem m_ask {s : Nat} {g : mg_F} (hs : s < 24) (h0 : 0 < g 46 0 s) (hq : g 46 0 s ≤ 24) (hw2 : ∀ i, i < g 46 0 s → g 48 0 (24 * s + i) < 2147483648) (hp : g 36 0 s < 24) (hl : g 5 0 21 < 1024) (hl2 : g 5 0 26 ≤ 60) (hw : ∀ i, i < g 5 0 21 → g 52 0 i < 4294967296) : P_X5_writeAsk s g = some (0, mask g s) := by
  unfold P_X5_writeAsk mask
  rw [m_gr hs h0 hq hw2, bd_s, ck_t hs, wr_s, wr_s]
  have e : (mg_up (mg_up g 37 0 s 1) 41 0 s (g 48 0 (24 * s + gp (fun i => g 48 0 (24 * s + i)) (g 46 0 s - 1) 1 0))) 36 0 s = g 36 0 s := by simp [ue]
  rw [e, m_write, bd_s]
  · simp [ue]; exact hl
  · simp [ue]; exact hl2
  · omega
  · intro i hi; simp [ue] at hi ⊢; exact hw i hi
def mdl (g : mg_F) (a : Nat) : mg_F := fun k i j => if k = 5 ∧ i = 0 ∧ j = 21 then g 5 0 21 - 1 else if (k = 52 ∨ k = 53 ∨ k = 54 ∨ k = 55) ∧ i = 0 ∧ a ≤ j ∧ j < g 5 0 21 - 1 then g k i (j + 1) else g k i j
def mdc (g : mg_F) (a : Nat) : mg_F := fun k i j => if k = 5 ∧ i = 0 ∧ j = 26 then g 5 0 26 - 1 else if (k = 57 ∨ k = 58 ∨ k = 59 ∨ k = 60) ∧ i = 0 ∧ a ≤ j ∧ j < g 5 0 26 - 1 then g k i (j + 1) else g k i j
theorem drop_step {k1 a v : Nat} {B x : mg_F} (hv1 : a ≤ v) (hx : x = fun k i j => if (k = k1 ∨ k = k1 + 1 ∨ k = k1 + 2 ∨ k = k1 + 3) ∧ i = 0 ∧ a ≤ j ∧ j < v then B k i (j + 1) else B k i j) : mg_up (mg_up (mg_up (mg_up x k1 0 v (B k1 0 (v + 1))) (k1 + 1) 0 v (B (k1 + 1) 0 (v + 1))) (k1 + 2) 0 v (B (k1 + 2) 0 (v + 1))) (k1 + 3) 0 v (B (k1 + 3) 0 (v + 1)) = fun k i j => if (k = k1 ∨ k = k1 + 1 ∨ k = k1 + 2 ∨ k = k1 + 3) ∧ i = 0 ∧ a ≤ j ∧ j < v + 1 then B k i (j + 1) else B k i j := by
  subst hx
  funext k i j
  simp only [ue]
  by_cases c : i = 0 ∧ j = v
  · obtain ⟨rfl, rfl⟩ := c
    by_cases c1 : k = k1 + 3
    · rw [if_pos (by omega), if_pos (by omega), c1]
    · rw [if_neg (by omega)]
      by_cases c2 : k = k1 + 2
      · rw [if_pos (by omega), if_pos (by omega), c2]
      · rw [if_neg (by omega)]
        by_cases c3 : k = k1 + 1
        · rw [if_pos (by omega), if_pos (by omega), c3]
        · rw [if_neg (by omega)]
          by_cases c4 : k = k1
          · rw [if_pos (by omega), if_pos (by omega), c4]
          · rw [if_neg (by omega), if_neg (by omega), if_neg (by omega)]
  · rw [if_neg (by omega), if_neg (by omega), if_neg (by omega), if_neg (by omega)]
    by_cases c3 : (k = k1 ∨ k = k1 + 1 ∨ k = k1 + 2 ∨ k = k1 + 3) ∧ i = 0 ∧ a ≤ j ∧ j < v
    · rw [if_pos c3, if_pos (by omega)]
    · rw [if_neg c3, if_neg (by omega)]
theorem m_dl {a : Nat} {g : mg_F} (hl : g 5 0 21 ≤ 1024) (ha : a < g 5 0 21) : P_X5_dropLetter a g = some (0, mdl g a) := by
  unfold P_X5_dropLetter
  rw [wr_s, sb_le (by omega)]
  have hB : (mg_up g 5 0 21 (g 5 0 21 - 1)) 5 0 21 = g 5 0 21 - 1 := by simp [ue]
  have hC : ∀ k i j, ¬ k = 5 → (mg_up g 5 0 21 (g 5 0 21 - 1)) k i j = g k i j := fun k i j h => by rw [ue, if_neg (fun q => h q.1)]
  have hD : mdl g a = fun k i j => if (k = 52 ∨ k = 53 ∨ k = 54 ∨ k = 55) ∧ i = 0 ∧ a ≤ j ∧ j < g 5 0 21 - 1 then (mg_up g 5 0 21 (g 5 0 21 - 1)) k i (j + 1) else (mg_up g 5 0 21 (g 5 0 21 - 1)) k i j := by
    funext k i j
    unfold mdl
    by_cases c : k = 5
    · subst c; simp [ue]
    · rw [if_neg (by omega), hC k i _ c, hC k i _ c]
  rw [hD]
  generalize (mg_up g 5 0 21 (g 5 0 21 - 1)) = B at *
  generalize g 5 0 21 = z at *
  obtain ⟨x, e1, e2⟩ := lp_ex (L := fun n x v => L_X5_dropLetter_12 a (fun w14 g15 => some (0, g15)) n v x) (K := fun x => some (0, x)) (I := fun v x => a ≤ v ∧ x = fun k i j => if (k = 52 ∨ k = 53 ∨ k = 54 ∨ k = 55) ∧ i = 0 ∧ a ≤ j ∧ j < v then B k i (j + 1) else B k i j) (N := z - 1) (by
    intro n x v hv hI
    obtain ⟨hv1, hx⟩ := hI
    refine ⟨_, ?_, by omega, drop_step (k1 := 52) hv1 hx⟩
    show L_X5_dropLetter_12 a _ (n + 1) v x = _
    have b0 : x 5 0 21 = z - 1 := by rw [hx]; simpa using hB
    have b1 : x 52 0 (v + 1) = B 52 0 (v + 1) := by rw [hx]; show (if _ then _ else _) = _; rw [if_neg (by omega)]
    have b2 : x 53 0 (v + 1) = B 53 0 (v + 1) := by rw [hx]; show (if _ then _ else _) = _; rw [if_neg (by omega)]
    have b3 : x 54 0 (v + 1) = B 54 0 (v + 1) := by rw [hx]; show (if _ then _ else _) = _; rw [if_neg (by omega)]
    have b4 : x 55 0 (v + 1) = B 55 0 (v + 1) := by rw [hx]; show (if _ then _ else _) = _; rw [if_neg (by omega)]
    have c1 : v + 1 < 3000 := by omega
    have c2 : v < 3000 := by omega
    rw [L_X5_dropLetter_12, b0, if_pos ((sv_ltN (by omega) (by omega)).mpr hv)]
    simp [ck, wr, ue, c1, c2, b1, b2, b3, b4]) (by
    intro n x hI
    obtain ⟨_, hx⟩ := hI
    have b0 : x 5 0 21 = z - 1 := by rw [hx]; simpa using hB
    show L_X5_dropLetter_12 a _ (n + 1) (z - 1) x = _
    rw [L_X5_dropLetter_12, b0, if_neg (by omega)]) (z - 1 - a) 4000 B a (by omega) (by omega) ⟨by omega, by
      funext k i j; rw [if_neg (by omega)]⟩
  rw [e1.2] at e2
  exact e2
theorem m_dc {a : Nat} {g : mg_F} (hl : g 5 0 26 ≤ 60) (ha : a < g 5 0 26) : P_X5_dropCopy a g = some (0, mdc g a) := by
  unfold P_X5_dropCopy
  rw [wr_s, sb_le (by omega)]
  have hB : (mg_up g 5 0 26 (g 5 0 26 - 1)) 5 0 26 = g 5 0 26 - 1 := by simp [ue]
  have hC : ∀ k i j, ¬ k = 5 → (mg_up g 5 0 26 (g 5 0 26 - 1)) k i j = g k i j := fun k i j h => by rw [ue, if_neg (fun q => h q.1)]
  have hD : mdc g a = fun k i j => if (k = 57 ∨ k = 58 ∨ k = 59 ∨ k = 60) ∧ i = 0 ∧ a ≤ j ∧ j < g 5 0 26 - 1 then (mg_up g 5 0 26 (g 5 0 26 - 1)) k i (j + 1) else (mg_up g 5 0 26 (g 5 0 26 - 1)) k i j := by
    funext k i j
    unfold mdc
    by_cases c : k = 5
    · subst c; simp [ue]
    · rw [if_neg (by omega), hC k i _ c, hC k i _ c]
  rw [hD]
  generalize (mg_up g 5 0 26 (g 5 0 26 - 1)) = B at *
  generalize g 5 0 26 = z at *
  obtain ⟨x, e1, e2⟩ := lp_ex (L := fun n x v => L_X5_dropCopy_12 a (fun w14 g15 => some (0, g15)) n v x) (K := fun x => some (0, x)) (I := fun v x => a ≤ v ∧ x = fun k i j => if (k = 57 ∨ k = 58 ∨ k = 59 ∨ k = 60) ∧ i = 0 ∧ a ≤ j ∧ j < v then B k i (j + 1) else B k i j) (N := z - 1) (by
    intro n x v hv hI
    obtain ⟨hv1, hx⟩ := hI
    refine ⟨_, ?_, by omega, drop_step (k1 := 57) hv1 hx⟩
    show L_X5_dropCopy_12 a _ (n + 1) v x = _
    have b0 : x 5 0 26 = z - 1 := by rw [hx]; simpa using hB
    have b1 : x 57 0 (v + 1) = B 57 0 (v + 1) := by rw [hx]; show (if _ then _ else _) = _; rw [if_neg (by omega)]
    have b2 : x 58 0 (v + 1) = B 58 0 (v + 1) := by rw [hx]; show (if _ then _ else _) = _; rw [if_neg (by omega)]
    have b3 : x 59 0 (v + 1) = B 59 0 (v + 1) := by rw [hx]; show (if _ then _ else _) = _; rw [if_neg (by omega)]
    have b4 : x 60 0 (v + 1) = B 60 0 (v + 1) := by rw [hx]; show (if _ then _ else _) = _; rw [if_neg (by omega)]
    have c1 : v + 1 < 60 := by omega
    have c2 : v < 60 := by omega
    rw [L_X5_dropCopy_12, b0, if_pos ((sv_ltN (by omega) (by omega)).mpr hv)]
    simp [ck, wr, ue, c1, c2, b1, b2, b3, b4]) (by
    intro n x hI
    obtain ⟨_, hx⟩ := hI
    have b0 : x 5 0 26 = z - 1 := by rw [hx]; simpa using hB
    show L_X5_dropCopy_12 a _ (n + 1) (z - 1) x = _
    rw [L_X5_dropCopy_12, b0, if_neg (by omega)]) (z - 1 - a) 4000 B a (by omega) (by omega) ⟨by omega, by
      funext k i j; rw [if_neg (by omega)]⟩
  rw [e1.2] at e2
  exact e2
