/-! ===== pure: what the class's writing methods make ===== -/
def aw (g : mg_F) (k i lo : Nat) (F : Nat → Nat) (v : Nat) : mg_F := fun k' i' j => if k' = k ∧ i' = i ∧ lo ≤ j ∧ j < v then F j else g k' i' j
theorem aw_0 (g : mg_F) (k i lo : Nat) (F : Nat → Nat) : aw g k i lo F lo = g := by
  funext k' i' j; unfold aw; rw [if_neg (by omega)]
theorem aw_s (g : mg_F) (k i lo : Nat) (F : Nat → Nat) (v : Nat) (h : lo ≤ v) : mg_up (aw g k i lo F v) k i v (F v) = aw g k i lo F (v + 1) := by
  funext k' i' j
  rw [ue]; unfold aw
  by_cases c : k' = k ∧ i' = i ∧ j = v
  · rw [if_pos c, if_pos (by omega), c.2.2]
  · rw [if_neg c]
    by_cases c2 : k' = k ∧ i' = i ∧ lo ≤ j ∧ j < v
    · rw [if_pos c2, if_pos (by omega)]
    · rw [if_neg c2, if_neg (by omega)]
def ladd (g : mg_F) (q a b c d e : Nat) : mg_F := if g 1 q 5 = mg_cap q then g else mg_up (mg_up (mg_up (mg_up (mg_up (mg_up g 11 q (g 1 q 5) a) 12 q (g 1 q 5) b) 13 q (g 1 q 5) c) 14 q (g 1 q 5) d) 15 q (g 1 q 5) e) 1 q 5 (g 1 q 5 + 1)
theorem q_ladd {q a b c d e : Nat} {g : mg_F} (h : g 1 q 5 ≤ mg_cap q) : P_X1_add q a b c d e g = some (0, ladd g q a b c d e) := by
  have hc : mg_cap q ≤ 1024 := by unfold mg_cap; split <;> omega
  unfold P_X1_add ladd
  simp only [sv_eqN (a := g 1 q 5) (b := mg_cap q) (by omega) (by omega)]
  by_cases h1 : g 1 q 5 = mg_cap q
  · rw [if_pos h1, if_pos h1]
  · have h2 : g 1 q 5 < mg_cap q := by omega
    rw [if_neg h1, if_neg h1]
    simp [ck, wr, ue, h2]
def lrem (g : mg_F) (q a : Nat) : mg_F := mg_up (mg_upr (mg_upr (mg_upr (mg_upr (mg_upr g 11 q (mg_cpy (g 11 q) (a + 1) a (g 1 q 5 - a - 1))) 12 q (mg_cpy (g 12 q) (a + 1) a (g 1 q 5 - a - 1))) 13 q (mg_cpy (g 13 q) (a + 1) a (g 1 q 5 - a - 1))) 14 q (mg_cpy (g 14 q) (a + 1) a (g 1 q 5 - a - 1))) 15 q (mg_cpy (g 15 q) (a + 1) a (g 1 q 5 - a - 1))) 1 q 5 (g 1 q 5 - 1)
theorem upr_ne {g : mg_F} {k i : Nat} {r : Nat → Nat} {k' i' : Nat} (h : k' ≠ k) : mg_upr g k i r k' i' = g k' i' := by
  unfold mg_upr; rw [if_neg (fun q => h q.1)]
theorem q_lrem {q a : Nat} {g : mg_F} (h : g 1 q 5 ≤ mg_cap q) (ha : a < g 1 q 5) : P_X1_remove q a g = some (0, lrem g q a) := by
  unfold P_X1_remove lrem P_closeGap
  have h2 : a < g 1 q 5 ∧ g 1 q 5 ≤ mg_cap q := ⟨ha, h⟩
  have h3 : sb (g 1 q 5) 1 = g 1 q 5 - 1 := sb_le (by omega)
  simp [ck, wr, bd, upr_ne, h2, h3]
def qadd (g : mg_F) (q a b : Nat) : mg_F := mg_up (mg_up (mg_up g 16 q (g 2 q 2) a) 17 q (g 2 q 2) b) 2 q 2 (g 2 q 2 + 1)
theorem q_qadd {q a b : Nat} {g : mg_F} (h : g 2 q 2 < 24) : P_X2_add q a b g = some (0, qadd g q a b) := by
  unfold P_X2_add qadd
  rw [if_neg (by rw [sv_eqN (by omega) (by omega)]; omega)]
  simp [ck, wr, ue, h]
def qsrv (g : mg_F) (q a : Nat) : mg_F := fun k i j => if k = 2 ∧ i = q ∧ j = 2 then g 2 q 2 - 1 else if k = 16 ∧ i = q then mg_cpy (g 16 q) (a + 1) a (g 2 q 2 - a - 1) j else if k = 17 ∧ i = q then (if j < g 2 q 2 - 1 then min (mg_cpy (g 17 q) (a + 1) a (g 2 q 2 - a - 1) j + 1) 1000 else mg_cpy (g 17 q) (a + 1) a (g 2 q 2 - a - 1) j) else g k i j
theorem q_qsrv {q a : Nat} {g : mg_F} (h : g 2 q 2 ≤ 24) (ha : a < g 2 q 2) (hw : ∀ i, i < g 2 q 2 → g 17 q i ≤ 1000) : P_X2_serve q a g = some (0, qsrv g q a) := by
  unfold P_X2_serve P_closeGap
  have h2 : a < g 2 q 2 ∧ g 2 q 2 ≤ 24 := ⟨ha, h⟩
  have h3 : sb (g 2 q 2) 1 = g 2 q 2 - 1 := sb_le (by omega)
  rw [ck_t h2, bd_s, upr_ne (by omega), ck_t h2, bd_s, wr_s, upr_ne (by omega), upr_ne (by omega), upr_ne (by omega), h3]
  have key : ∀ (B : mg_F), B 2 q 2 = g 2 q 2 - 1 → (∀ j, j < g 2 q 2 - 1 → B 17 q j ≤ 1000) → L_X2_serve_36 q a (fun w6 g7 => some (0, g7)) 4000 0 B = some (0, aw B 17 q 0 (fun j => min (B 17 q j + 1) 1000) (g 2 q 2 - 1)) := by
    intro B hB hB2
    obtain ⟨x, e1, e2⟩ := lp_ex (L := fun n x v => L_X2_serve_36 q a (fun w6 g7 => some (0, g7)) n v x) (K := fun x => some (0, x)) (I := fun v x => x = aw B 17 q 0 (fun j => min (B 17 q j + 1) 1000) v) (N := g 2 q 2 - 1) (by
      intro n x v hv hx
      subst hx
      refine ⟨_, ?_, (aw_s B 17 q 0 (fun j => min (B 17 q j + 1) 1000) v (Nat.zero_le _))⟩
      show L_X2_serve_36 q a _ (n + 1) v _ = _
      have hl : aw B 17 q 0 (fun j => min (B 17 q j + 1) 1000) v 2 q 2 = g 2 q 2 - 1 := by
        unfold aw; rw [if_neg (by omega)]; exact hB
      have hl2 : aw B 17 q 0 (fun j => min (B 17 q j + 1) 1000) v 17 q v = B 17 q v := by
        unfold aw; rw [if_neg (by omega)]
      rw [L_X2_serve_36, hl, hl2]
      have := hB2 v hv
      rw [if_pos ((sv_ltN (by omega) (by omega)).mpr hv), ck_t (by omega), ck_t (by omega), wr_s]) (by
      intro n x hx
      subst hx
      show L_X2_serve_36 q a _ (n + 1) _ _ = _
      have hl : aw B 17 q 0 (fun j => min (B 17 q j + 1) 1000) (g 2 q 2 - 1) 2 q 2 = g 2 q 2 - 1 := by
        unfold aw; rw [if_neg (by omega)]; exact hB
      rw [L_X2_serve_36, hl, if_neg (by omega)]) (g 2 q 2 - 1) 4000 B 0 (by omega) (by omega) (aw_0 _ _ _ _ _).symm
    rw [e1] at e2
    exact e2
  rw [key]
  · congr 2
    funext k i j
    unfold aw qsrv
    simp only [ue, ure]
    by_cases c1 : k = 17
    · subst c1
      by_cases c2 : i = q
      · subst c2
        by_cases c3 : j < g 2 i 2 - 1
        · simp [c3]
        · simp [c3]
      · simp [c2]
    · by_cases c4 : k = 2
      · subst c4; simp
      · by_cases c5 : k = 16
        · subst c5; simp
        · simp [c1, c4, c5]
  · simp [ue]
  · intro j hj
    simp only [ue, ure]
    simp
    unfold mg_cpy
    split
    · exact hw _ (by omega)
    · exact hw _ (by omega)
def qadm (g : mg_F) (q a b : Nat) : mg_F := if fs (fun i => g 16 q i == a) (g 2 q 2) 0 = 4294967294 then qadd g q a b else mg_up g 17 q (fs (fun i => g 16 q i == a) (g 2 q 2) 0) (max (g 17 q (fs (fun i => g 16 q i == a) (g 2 q 2) 0)) b)
theorem q_qadm {q a b : Nat} {g : mg_F} (h : g 2 q 2 ≤ 24) (ha : a < 4294967296) (hb : b < 2147483648) (hw : ∀ i, i < g 2 q 2 → g 16 q i < 4294967296) (hw2 : ∀ i, i < g 2 q 2 → g 17 q i < 2147483648) (hr : fs (fun i => g 16 q i == a) (g 2 q 2) 0 = 4294967294 → g 2 q 2 < 24) : P_X2_admit q a b g = some (0, qadm g q a b) := by
  unfold P_X2_admit qadm
  rw [q_pl h ha hw, bd_s]
  have f1 := fs_spec (fun i => g 16 q i == a) (g 2 q 2) 0
  by_cases c : fs (fun i => g 16 q i == a) (g 2 q 2) 0 = 4294967294
  · rw [c, if_pos rfl, if_pos rfl, q_qadd (hr c), bd_s]
  · have hlt : fs (fun i => g 16 q i == a) (g 2 q 2) 0 < g 2 q 2 := by omega
    have := hw2 _ hlt
    rw [if_neg (by rw [sv_eqN (by omega) (by omega)]; exact c), if_neg c, ck_t (by omega), ck_t this, ck_t hb, wr_s]
def tie (g : mg_F) (a b : Nat) : mg_F := mg_up (mg_up (mg_up g 10 0 a (g 10 0 a ||| 2 ^ b)) 10 0 b ((mg_up g 10 0 a (g 10 0 a ||| 2 ^ b)) 10 0 b ||| 2 ^ a)) 0 0 2 (g 0 0 2 + 1)
theorem q_tie {a b : Nat} {g : mg_F} (ha : a < 24) (hb : b < 24) : P_X0_tie a b g = some (0, tie g a b) := by
  have hb' : b < 32 := by omega
  have ha' : a < 32 := by omega
  unfold P_X0_tie tie
  simp [ck, wr, ha, hb, ha', hb', ue]
def untie (g : mg_F) (a b : Nat) : mg_F := mg_up (mg_up (mg_up g 10 0 a (g 10 0 a &&& (2 ^ b ^^^ 4294967295))) 10 0 b ((mg_up g 10 0 a (g 10 0 a &&& (2 ^ b ^^^ 4294967295))) 10 0 b &&& (2 ^ a ^^^ 4294967295))) 0 0 2 (sb (g 0 0 2) 1)
theorem q_untie {a b : Nat} {g : mg_F} (ha : a < 24) (hb : b < 24) : P_X0_untie a b g = some (0, untie g a b) := by
  have hb' : b < 32 := by omega
  have ha' : a < 32 := by omega
  unfold P_X0_untie untie
  simp [ck, wr, ha, hb, ha', hb', ue]
def cpf (g : mg_F) (a b : Nat) : mg_F := if fs (fun i => g 12 0 i == a && g 13 0 i == b) (g 1 0 5) 0 = 4294967294 then g else ladd g 1 (g 11 0 (fs (fun i => g 12 0 i == a && g 13 0 i == b) (g 1 0 5) 0)) a b (g 14 0 (fs (fun i => g 12 0 i == a && g 13 0 i == b) (g 1 0 5) 0)) (g 15 0 (fs (fun i => g 12 0 i == a && g 13 0 i == b) (g 1 0 5) 0))
theorem q_cpf {a b : Nat} {g : mg_F} (hl : g 1 0 5 ≤ 1024) (hl2 : g 1 1 5 ≤ 60) (ha : a < 4294967296) (hb : b < 4294967296) (hw : ∀ i, i < g 1 0 5 → g 12 0 i < 4294967296 ∧ g 13 0 i < 4294967296) : P_X4_copyFirst a b g = some (0, cpf g a b) := by
  unfold P_X4_copyFirst cpf P_X1_addCopy
  rw [q_fb hl ha hb hw, bd_s]
  have f1 := fs_spec (fun i => g 12 0 i == a && g 13 0 i == b) (g 1 0 5) 0
  by_cases c : fs (fun i => g 12 0 i == a && g 13 0 i == b) (g 1 0 5) 0 = 4294967294
  · rw [c, if_pos rfl, if_pos rfl]
  · rw [if_neg (by rw [sv_eqN (by omega) (by omega)]; exact c), if_neg c]
    generalize fs (fun i => g 12 0 i == a && g 13 0 i == b) (g 1 0 5) 0 = x at *
    have hx : x < mg_cap 0 := by show x < 1024; omega
    rcases f1 with ⟨f, _⟩ | ⟨_, _, f3, _⟩
    · exact absurd f c
    · simp only [Bool.and_eq_true, beq_iff_eq] at f3
      rw [ck_t hx, ck_t hx, ck_t hx, ck_t hx, ck_t hx, q_ladd hl2, bd_s, bd_s, f3.1, f3.2]
