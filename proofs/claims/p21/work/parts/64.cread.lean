/-! ===== pure: what the class's reading methods answer ===== -/
theorem sv_om {a : Nat} (h : a < 4294967296) : (a < 2147483648 ∧ sv a = (a : Int)) ∨ (2147483648 ≤ a ∧ sv a = (a : Int) - 4294967296) := by
  by_cases h1 : a < 2147483648
  · left; exact ⟨h1, sv_nat h1⟩
  · right; exact ⟨by omega, sv_big h1 h⟩
theorem sv_lN : sv 4294967294 = -2 := by decide +kernel
theorem sv_lB : sv 4294967295 = -1 := by decide +kernel
theorem sv_l24 : sv 24 = 24 := by decide +kernel
theorem sv_l60 : sv 60 = 60 := by decide +kernel
theorem sv_l100 : sv 100 = 100 := by decide +kernel
theorem q_has {a : Nat} {g : mg_F} (ha : a < 4294967296) (hn : g 0 0 1 < 25) : P_X0_has a g = some (if a < g 0 0 1 then 1 else 0, g) := by
  unfold P_X0_has
  have e1 := sv_om ha
  have e2 := sv_om (a := g 0 0 1) (by omega)
  (repeat' split) <;> first | rfl | omega
theorem q_stn {a : Nat} {g : mg_F} (ha : a < 4294967296) (hn : g 0 0 1 < 25) (ho : g 4 0 6 < 2) : P_X4_isStation a g = some (if g 4 0 6 = 1 ∧ a < g 0 0 1 then 1 else 0, g) := by
  unfold P_X4_isStation
  have e2 := sv_om (a := g 4 0 6) (by omega)
  rw [q_has ha hn, bd_s]
  by_cases h0 : g 4 0 6 = 1
  · rw [if_neg (by omega)]
    by_cases h : a < g 0 0 1
    · rw [if_pos h, if_neg (by rw [sv_l1]; omega), if_pos ⟨h0, h⟩]
    · rw [if_neg h, if_pos sv_0, if_neg (fun q => h q.2)]
  · rw [if_pos (by omega), if_neg (fun q => h0 q.1)]
theorem q_up {a : Nat} {g : mg_F} (ha : a < 4294967296) (hn : g 0 0 1 < 25) (ho : g 4 0 6 < 2) (hd : g 4 0 6 = 1 → a < g 0 0 1 → g 3 a 6 < 2) : P_X4_isUp a g = some (if g 4 0 6 = 1 ∧ a < g 0 0 1 ∧ g 3 a 6 = 0 then 1 else 0, g) := by
  unfold P_X4_isUp
  rw [q_stn ha hn ho, bd_s]
  by_cases h : g 4 0 6 = 1 ∧ a < g 0 0 1
  · have e2 := sv_om (a := g 3 a 6) (by have := hd h.1 h.2; omega)
    rw [if_pos h, if_neg (by rw [sv_l1]; omega), ck_t (by omega)]
    by_cases h2 : g 3 a 6 = 0
    · rw [if_pos (by rw [h2, sv_0]), if_pos ⟨h.1, h.2, h2⟩]
    · rw [if_neg (by omega), if_neg (fun q => h2 q.2.2)]
  · rw [if_neg h, if_pos sv_0, if_neg (fun q => h ⟨q.1, q.2.1⟩)]
theorem q_isc {a : Nat} {g : mg_F} (ha : a < 4294967296) (ho : g 4 0 6 < 2) (hp : g 1 1 5 ≤ 60) : P_X4_isCopy a g = some (if g 4 0 6 = 1 ∧ a < g 1 1 5 then 1 else 0, g) := by
  unfold P_X4_isCopy
  have e1 := sv_om ha
  have e2 := sv_om (a := g 4 0 6) (by omega)
  have e3 := sv_om (a := g 1 1 5) (by omega)
  (repeat' split) <;> first | rfl | omega
theorem tb_and (x b : Nat) : (x &&& 2 ^ b = 0) ↔ x.testBit b = false := by
  constructor
  · intro h
    have h2 : (x &&& 2 ^ b).testBit b = (0 : Nat).testBit b := by rw [h]
    rw [Nat.testBit_and, Nat.testBit_two_pow, Nat.zero_testBit] at h2
    simpa using h2
  · intro h
    apply Nat.eq_of_testBit_eq
    intro i
    rw [Nat.testBit_and, Nat.testBit_two_pow, Nat.zero_testBit]
    by_cases c : b = i
    · subst c; simp [h]
    · simp [c]
theorem q_cont {a b : Nat} {g : mg_F} (ha : a < 4294967296) (hb : b < 32) : P_X4_contains a b g = some (if a.testBit b = true then 1 else 0, g) := by
  unfold P_X4_contains
  rw [ck_t hb]
  have h1 : a &&& 2 ^ b < 4294967296 := Nat.lt_of_le_of_lt Nat.and_le_left ha
  cases h : a.testBit b
  · rw [if_pos ((sv_eq0N h1).mpr ((tb_and a b).mpr h)), if_neg (by intro q; cases q)]
  · rw [if_neg (by rw [sv_eq0N h1, tb_and, h]; intro q; cases q), if_pos rfl]
theorem q_lkd {a b : Nat} {g : mg_F} (ha : a < 24) (hb : b < 24) (hg : g 10 0 a < 4294967296) : P_X0_linked a b g = some (if (g 10 0 a).testBit b = true then 1 else 0, g) := by
  unfold P_X0_linked
  rw [ck_t ha, q_cont hg (by omega), bd_s]
  by_cases h : (g 10 0 a).testBit b = true
  · rw [if_pos h, ck_t (by omega)]
  · rw [if_neg h, ck_t (by omega)]
theorem q_pl {q a : Nat} {g : mg_F} (hl : g 2 q 2 ≤ 24) (ha : a < 4294967296) (hw : ∀ i, i < g 2 q 2 → g 16 q i < 4294967296) : P_X2_placeOf q a g = some (fs (fun i => g 16 q i == a) (g 2 q 2) 0, g) := by
  unfold P_X2_placeOf
  rw [lp_fs (L := fun n v => L_X2_placeOf_2 q a (fun w4 g5 => some (4294967294, g5)) n v g) (K := some (4294967294, g)) (p := fun i => g 16 q i == a) (N := g 2 q 2) (g := g) (by omega) ?_ ?_ ?_ (g 2 q 2) 4000 0 (by omega) (by omega)]
  · split
    · rename_i h; rw [h]
    · rfl
  · intro n v hv hp
    show L_X2_placeOf_2 q a (fun w4 g5 => some (4294967294, g5)) (n + 1) v g = _
    unfold L_X2_placeOf_2
    rw [if_pos ((sv_ltN (by omega) (by omega)).mpr hv), ck_t (by omega), if_pos ((sv_eqN (hw v hv) ha).mpr (by simpa using hp))]
  · intro n v hv hp
    show L_X2_placeOf_2 q a (fun w4 g5 => some (4294967294, g5)) (n + 1) v g = _
    rw [L_X2_placeOf_2]
    rw [if_pos ((sv_ltN (by omega) (by omega)).mpr hv), ck_t (by omega), if_neg (by rw [sv_eqN (hw v hv) ha]; simpa using hp)]
  · intro n
    show L_X2_placeOf_2 q a (fun w4 g5 => some (4294967294, g5)) (n + 1) (g 2 q 2) g = _
    rw [L_X2_placeOf_2]
    rw [if_neg (by omega)]
theorem q_fb {q a b : Nat} {g : mg_F} (hl : g 1 q 5 ≤ mg_cap q) (ha : a < 4294967296) (hb : b < 4294967296) (hw : ∀ i, i < g 1 q 5 → g 12 q i < 4294967296 ∧ g 13 q i < 4294967296) : P_X1_firstBetween q a b g = some (fs (fun i => g 12 q i == a && g 13 q i == b) (g 1 q 5) 0, g) := by
  have hc : mg_cap q ≤ 1024 := by unfold mg_cap; split <;> omega
  unfold P_X1_firstBetween
  rw [lp_fs (L := fun n v => L_X1_firstBetween_2 q a b (fun w4 g5 => some (4294967294, g5)) n v g) (K := some (4294967294, g)) (p := fun i => g 12 q i == a && g 13 q i == b) (N := g 1 q 5) (g := g) (by omega) ?_ ?_ ?_ (g 1 q 5) 4000 0 (by omega) (by omega)]
  · split
    · rename_i h; rw [h]
    · rfl
  · intro n v hv hp
    simp only [Bool.and_eq_true, beq_iff_eq] at hp
    show L_X1_firstBetween_2 q a b (fun w4 g5 => some (4294967294, g5)) (n + 1) v g = _
    rw [L_X1_firstBetween_2]
    rw [if_pos ((sv_ltN (by omega) (by omega)).mpr hv), ck_t (by omega), if_pos ((sv_eqN (hw v hv).1 ha).mpr hp.1), ck_t (by omega), if_pos ((sv_eqN (hw v hv).2 hb).mpr hp.2)]
  · intro n v hv hp
    show L_X1_firstBetween_2 q a b (fun w4 g5 => some (4294967294, g5)) (n + 1) v g = _
    rw [L_X1_firstBetween_2]
    rw [if_pos ((sv_ltN (by omega) (by omega)).mpr hv), ck_t (by omega)]
    by_cases h1 : g 12 q v = a
    · have h2 : g 13 q v ≠ b := fun h => by simp [h1, h] at hp
      rw [if_pos ((sv_eqN (hw v hv).1 ha).mpr h1), ck_t (by omega), if_neg (by rw [sv_eqN (hw v hv).2 hb]; exact h2)]
    · rw [if_neg (by rw [sv_eqN (hw v hv).1 ha]; exact h1)]
  · intro n
    show L_X1_firstBetween_2 q a b (fun w4 g5 => some (4294967294, g5)) (n + 1) (g 1 q 5) g = _
    rw [L_X1_firstBetween_2]
    rw [if_neg (by omega)]
theorem q_hb {q a b : Nat} {g : mg_F} (hl : g 1 q 5 ≤ mg_cap q) (ha : a < 4294967296) (hb : b < 4294967296) (hw : ∀ i, i < g 1 q 5 → g 12 q i < 4294967296 ∧ g 13 q i < 4294967296) : P_X1_hasBetween q a b g = some (if fs (fun i => g 12 q i == a && g 13 q i == b) (g 1 q 5) 0 = 4294967294 ∧ fs (fun i => g 12 q i == b && g 13 q i == a) (g 1 q 5) 0 = 4294967294 then 0 else 1, g) := by
  have hc : mg_cap q ≤ 1024 := by unfold mg_cap; split <;> omega
  unfold P_X1_hasBetween
  rw [q_fb hl ha hb hw, bd_s, q_fb hl hb ha hw, bd_s]
  have f1 := fs_spec (fun i => g 12 q i == a && g 13 q i == b) (g 1 q 5) 0
  have f2 := fs_spec (fun i => g 12 q i == b && g 13 q i == a) (g 1 q 5) 0
  generalize fs (fun i => g 12 q i == a && g 13 q i == b) (g 1 q 5) 0 = x at *
  generalize fs (fun i => g 12 q i == b && g 13 q i == a) (g 1 q 5) 0 = y at *
  simp only [sv_eqN (a := x) (b := 4294967294) (by omega) (by omega), sv_eqN (a := y) (b := 4294967294) (by omega) (by omega)]
  (repeat' split) <;> first | rfl | omega
theorem q_wants {q : Nat} {g : mg_F} (hq : q < 24) (hl : g 2 q 2 ≤ 24) (hw : ∀ i, i < g 2 q 2 → g 16 q i < 4294967296) : P_X3_wants q g = some (if fs (fun i => g 16 q i == q) (g 2 q 2) 0 = 4294967294 then 0 else 1, g) := by
  unfold P_X3_wants
  rw [q_pl hl (by omega) hw, bd_s]
  have f1 := fs_spec (fun i => g 16 q i == q) (g 2 q 2) 0
  generalize fs (fun i => g 16 q i == q) (g 2 q 2) 0 = x at *
  simp only [sv_eqN (a := x) (b := 4294967294) (by omega) (by omega)]
  (repeat' split) <;> first | rfl | omega
theorem q_holds {q : Nat} {g : mg_F} (hq : q < 24) (hw : g 3 q 2 < 4294967296) : P_X3_holds q g = some (if g 3 q 2 = q then 1 else 0, g) := by
  unfold P_X3_holds
  simp only [sv_eqN (a := g 3 q 2) (b := q) hw (by omega)]
  (repeat' split) <;> first | rfl | omega
theorem q_away {q : Nat} {g : mg_F} (hq : q < 24) (hw : g 3 q 2 < 4294967296) : P_X3_pointsAway q g = some (if g 3 q 2 = q ∨ g 3 q 2 = 4294967294 then 0 else 1, g) := by
  unfold P_X3_pointsAway
  simp only [sv_eqN (a := g 3 q 2) (b := q) hw (by omega), sv_eqN (a := g 3 q 2) (b := 4294967294) hw (by omega)]
  (repeat' split) <;> first | rfl | omega
/-- the first greatest -/
def gp (f : Nat → Nat) : Nat → Nat → Nat → Nat
  | 0, _, b => b
  | m + 1, v, b => gp f m (v + 1) (if f b < f v then v else b)
theorem gp_s (f : Nat → Nat) : ∀ m v b : Nat, gp f (m + 1) v b = if f (gp f m v b) < f (v + m) then v + m else gp f m v b := by
  intro m
  induction m with
  | zero => intro v b; rfl
  | succ m ih =>
    intro v b
    have e : ∀ x, gp f (m + 1 + 1) v b = x ↔ gp f (m + 1) (v + 1) (if f b < f v then v else b) = x := fun x => Iff.rfl
    rw [e, ih]
    show _ = if f (gp f m (v + 1) (if f b < f v then v else b)) < f (v + (m + 1)) then v + (m + 1) else gp f m (v + 1) (if f b < f v then v else b)
    rw [show v + 1 + m = v + (m + 1) by omega]
theorem gp_lt (f : Nat → Nat) (N : Nat) : ∀ m v b, b < N → v + m ≤ N → gp f m v b < N := by
  intro m
  induction m with
  | zero => intro v b h _; exact h
  | succ m ih =>
    intro v b h h2
    rw [gp]
    refine ih (v + 1) _ ?_ (by omega)
    split <;> omega
theorem gp_congr {f f' : Nat → Nat} {N : Nat} (h : ∀ i, i < N → f i = f' i) : ∀ m v b, b < N → v + m ≤ N → gp f m v b = gp f' m v b := by
  intro m
  induction m with
  | zero => intro v b _ _; rfl
  | succ m ih =>
    intro v b hb h2
    rw [gp, gp, h b hb, h v (by omega)]
    refine ih (v + 1) _ ?_ (by omega)
    split <;> omega
theorem gp_max (f : Nat → Nat) : ∀ m, ∀ i, i < m + 1 → f i ≤ f (gp f m 1 0) := by
  intro m
  induction m with
  | zero => intro i hi; have : i = 0 := by omega
            rw [this]; exact Nat.le_refl _
  | succ m ih =>
    intro i hi
    rw [gp_s]
    by_cases c : i < m + 1
    · have := ih i c
      split <;> omega
    · have e : i = 1 + m := by omega
      rw [e]
      split <;> omega
theorem q_gp {q : Nat} {g : mg_F} (hl : g 2 q 2 ≤ 24) (h0 : 0 < g 2 q 2) (hw : ∀ i, i < g 2 q 2 → g 17 q i < 2147483648) : P_X2_greatestPlace q g = some (gp (g 17 q) (g 2 q 2 - 1) 1 0, g) := by
  unfold P_X2_greatestPlace
  obtain ⟨x, h1, h2⟩ := lp_ex (L := fun n x v => L_X2_greatestPlace_4 q (fun w9 w10 g11 => some (w9, g11)) n x v g) (K := fun x => some (x, g)) (I := fun v x => 1 ≤ v ∧ x = gp (g 17 q) (v - 1) 1 0) (N := g 2 q 2) (by
    intro n x v hv hI
    obtain ⟨hv1, hx⟩ := hI
    have hx2 : x < g 2 q 2 := by rw [hx]; exact gp_lt _ _ _ _ _ h0 (by omega)
    refine ⟨if g 17 q x < g 17 q v then v else x, ?_, by omega, ?_⟩
    · show L_X2_greatestPlace_4 q _ (n + 1) x v g = L_X2_greatestPlace_4 q _ n _ (v + 1) g
      rw [L_X2_greatestPlace_4]
      rw [if_pos ((sv_ltN (by omega) (by omega)).mpr hv), ck_t (by omega), ck_t (by omega), jn_s]
      by_cases c : g 17 q x < g 17 q v
      · rw [if_pos ((sv_ltN (hw x hx2) (hw v hv)).mpr c), if_pos c]
      · rw [if_neg (by rw [sv_ltN (hw x hx2) (hw v hv)]; exact c), if_neg c]
    · obtain ⟨v, rfl⟩ : ∃ v', v = v' + 1 := ⟨v - 1, by omega⟩
      show _ = gp (g 17 q) (v + 1) 1 0
      rw [gp_s, hx]
      simp only [Nat.add_sub_cancel, Nat.add_comm 1 v]) (by
    intro n x hI
    show L_X2_greatestPlace_4 q _ (n + 1) x (g 2 q 2) g = _
    rw [L_X2_greatestPlace_4]
    rw [if_neg (by omega)]) (g 2 q 2 - 1) 4000 0 1 (by omega) (by omega) ⟨by omega, rfl⟩
  have h2' : L_X2_greatestPlace_4 q (fun w9 w10 g11 => some (w9, g11)) 4000 0 1 g = some (x, g) := h2
  rw [h2', h1.2]
theorem q_gr {q : Nat} {g : mg_F} (hl : g 2 q 2 ≤ 24) (h0 : 0 < g 2 q 2) (hw : ∀ i, i < g 2 q 2 → g 17 q i < 2147483648) : P_X2_greatestRank q g = some (g 17 q (gp (g 17 q) (g 2 q 2 - 1) 1 0), g) := by
  unfold P_X2_greatestRank
  rw [q_gp hl h0 hw, bd_s, ck_t]
  exact Nat.lt_of_lt_of_le (gp_lt _ _ _ _ _ h0 (by omega)) hl
/-- whose place comes first -/
def fpl (s rule greed row len : Nat) (who ranks : Nat → Nat) : Nat :=
  if len = 0 then 4294967294 else if rule = 1 then (if fs (fun i => who i == s) len 0 ≠ 4294967294 ∧ (row < greed ∨ len = 1) then fs (fun i => who i == s) len 0 else if fs (fun i => who i == s) len 0 = 0 then 1 else 0) else if rule = 2 then gp ranks (len - 1) 1 0 else 0
theorem fpl_lt {s rule greed row len : Nat} {who ranks : Nat → Nat} (h : 0 < len) : fpl s rule greed row len who ranks < len := by
  unfold fpl
  have f1 := fs_spec (fun i => who i == s) len 0
  have f2 := gp_lt ranks len (len - 1) 1 0 h (by omega)
  (repeat' split) <;> omega
theorem fpl_congr {s rule greed row len : Nat} {who ranks who' ranks' : Nat → Nat} (h1 : ∀ i, i < len → who i = who' i) (h2 : ∀ i, i < len → ranks i = ranks' i) : fpl s rule greed row len who ranks = fpl s rule greed row len who' ranks' := by
  unfold fpl
  by_cases h0 : len = 0
  · rw [if_pos h0, if_pos h0]
  · rw [fs_congr (p := fun i => who i == s) (p' := fun i => who' i == s) (fun i hi => by rw [h1 i hi]), gp_congr h2 (len - 1) 1 0 (by omega) (by omega)]
theorem q_first {q rule greed : Nat} {g : mg_F} (hq : q < 24) (hl : g 2 q 2 ≤ 24) (hw : ∀ i, i < g 2 q 2 → g 16 q i < 4294967296) (hw2 : ∀ i, i < g 2 q 2 → g 17 q i < 2147483648) (hr : rule < 4294967296) (hg : greed < 2147483648) (hrow : g 3 q 7 < 2147483648) : P_X3_firstPlace q rule greed g = some (fpl q rule greed (g 3 q 7) (g 2 q 2) (g 16 q) (g 17 q), g) := by
  unfold P_X3_firstPlace fpl P_X3_greedyPlace
  have f1 := fs_spec (fun i => g 16 q i == q) (g 2 q 2) 0
  by_cases h0 : g 2 q 2 = 0
  · rw [if_pos (by rw [h0, sv_0]), if_pos h0]
  · rw [if_neg (by rw [sv_eq0N (by omega)]; exact h0), if_neg h0, q_pl hl (by omega) hw, bd_s, q_gp hl (by omega) hw2, bd_s]
    generalize fs (fun i => g 16 q i == q) (g 2 q 2) 0 = x at *
    simp only [sv_eqN (a := rule) (b := 1) hr (by omega), sv_eqN (a := rule) (b := 2) hr (by omega), sv_eqN (a := x) (b := 4294967294) (by omega) (by omega), sv_eq0N (a := x) (by omega), sv_ltN hrow hg, sv_eqN (a := g 2 q 2) (b := 1) (by omega) (by omega)]
    by_cases c1 : rule = 1
    · rw [if_pos c1, if_pos c1]
      by_cases c2 : x = 4294967294
      · rw [if_pos c2, if_neg (by omega), if_neg (by omega), if_neg (by omega)]; rfl
      · rw [if_neg c2]
        by_cases c3 : g 3 q 7 < greed
        · rw [if_pos c3, if_pos ⟨c2, Or.inl c3⟩]; rfl
        · rw [if_neg c3]
          by_cases c4 : g 2 q 2 = 1
          · rw [if_pos c4, if_pos ⟨c2, Or.inr c4⟩]; rfl
          · rw [if_neg c4, if_neg (show ¬ (x ≠ 4294967294 ∧ (g 3 q 7 < greed ∨ g 2 q 2 = 1)) by omega)]
            by_cases c5 : x = 0
            · rw [if_pos c5, if_pos c5]; rfl
            · rw [if_neg c5, if_neg c5]; rfl
    · rw [if_neg c1, if_neg c1]
      by_cases c2 : rule = 2
      · rw [if_pos c2, if_pos c2]
      · rw [if_neg c2, if_neg c2]
theorem q_cpo {q : Nat} {g : mg_F} (hq : q < 24) (hl : g 2 q 2 ≤ 24) (hw : ∀ i, i < g 2 q 2 → g 16 q i < 4294967296) (hw2 : ∀ i, i < g 2 q 2 → g 17 q i < 2147483648) (hr : g 4 0 7 < 4294967296) (hg : g 4 0 8 < 2147483648) (hrow : g 3 q 7 < 2147483648) (hp : g 3 q 2 < 4294967296) (hpm : g 3 q 5 < 2) : P_X4_canPassOn q g = some (if g 3 q 2 = q ∧ g 3 q 5 = 0 ∧ 0 < g 2 q 2 ∧ g 16 q (fpl q (g 4 0 7) (g 4 0 8) (g 3 q 7) (g 2 q 2) (g 16 q) (g 17 q)) ≠ q then 1 else 0, g) := by
  unfold P_X4_canPassOn
  rw [q_first hq hl hw hw2 hr hg hrow, bd_s, q_holds hq hp, bd_s]
  by_cases c1 : g 3 q 2 = q
  · rw [if_pos c1, if_neg (by rw [sv_l1]; omega)]
    by_cases c2 : g 3 q 5 = 0
    · rw [if_pos (by rw [c2, sv_0])]
      by_cases c3 : 0 < g 2 q 2
      · have hf := fpl_lt (s := q) (rule := g 4 0 7) (greed := g 4 0 8) (row := g 3 q 7) (who := g 16 q) (ranks := g 17 q) c3
        have hw1 := hw _ hf
        generalize fpl q (g 4 0 7) (g 4 0 8) (g 3 q 7) (g 2 q 2) (g 16 q) (g 17 q) = x at *
        rw [if_neg (by rw [sv_eqN (by omega) (by omega)]; omega), ck_t (by omega)]
        simp only [sv_eqN (a := g 16 q x) (b := q) hw1 (by omega)]
        (repeat' split) <;> first | rfl | omega
      · have e : fpl q (g 4 0 7) (g 4 0 8) (g 3 q 7) (g 2 q 2) (g 16 q) (g 17 q) = 4294967294 := by
          unfold fpl; rw [if_pos (by omega)]
        rw [e, if_pos rfl, if_neg (by omega)]
    · rw [if_neg (by rw [sv_eq0N (by omega)]; exact c2), if_neg (by omega)]
  · rw [if_neg c1, if_pos sv_0, if_neg (fun h => c1 h.1)]
