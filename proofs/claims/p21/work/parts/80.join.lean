/-! ===== join ===== -/
def pit (p : Nat → Nat) (e : Nat) : Nat → Nat
  | 0 => e
  | i + 1 => p (pit p e i)
theorem pit_sh (p : Nat → Nat) (e : Nat) : ∀ i, pit p (p e) i = pit p e (i + 1) := by
  intro i
  induction i with
  | zero => rfl
  | succ i ih => show p (pit p (p e) i) = p (pit p e (i + 1)); rw [ih]
theorem path_ex {n s : Nat} {p d Lb : Nat → Nat} (hp : ∀ x, x < n → p x = 4294967294 ∨ p x = x ∨ (p x < n ∧ Lb (p x) = Lb x)) (hd : ∀ x, x < n → p x ≠ 4294967294 → x ≠ s → d (p x) < d x) : ∀ D e, d e < D → e < n → Lb e ≠ Lb s → ∃ m, (∀ i, i ≤ m → pit p e i < n ∧ Lb (pit p e i) = Lb e) ∧ p (pit p e m) = 4294967294 ∧ (∀ i, i < m → d (pit p e (i + 1)) < d (pit p e i)) := by
  intro D
  induction D with
  | zero => intro e h; omega
  | succ D ih =>
    intro e h1 h2 h3
    have hes : e ≠ s := fun q => h3 (by rw [q])
    by_cases c : p e = 4294967294
    · refine ⟨0, fun i hi => ?_, c, fun i hi => by omega⟩
      have : i = 0 := by omega
      subst this; exact ⟨h2, rfl⟩
    · have hlt := hd e h2 c hes
      have hpe : p e < n ∧ Lb (p e) = Lb e := by
        rcases hp e h2 with q | q | q
        · exact absurd q c
        · rw [q] at hlt; omega
        · exact q
      obtain ⟨m, q1, q2, q3⟩ := ih (p e) (by omega) hpe.1 (by rw [hpe.2]; exact h3)
      refine ⟨m + 1, fun i hi => ?_, by rw [← pit_sh]; exact q2, fun i hi => ?_⟩
      · cases i with
        | zero => exact ⟨h2, rfl⟩
        | succ i =>
          have := q1 i (by omega)
          rw [pit_sh, hpe.2] at this
          exact this
      · cases i with
        | zero => exact hlt
        | succ i =>
          have := q3 i (by omega)
          rw [pit_sh, pit_sh] at this
          exact this
theorem path_dec {p d : Nat → Nat} {e m : Nat} (h : ∀ i, i < m → d (pit p e (i + 1)) < d (pit p e i)) : ∀ j i, i < j → j ≤ m → d (pit p e j) < d (pit p e i) := by
  intro j
  induction j with
  | zero => intro i hi; omega
  | succ j ih =>
    intro i hi hj
    have h1 := h j (by omega)
    by_cases c : i = j
    · rw [c]; exact h1
    · have := ih i (by omega) (by omega); omega
theorem path_inj {p d : Nat → Nat} {e m : Nat} (h : ∀ i, i < m → d (pit p e (i + 1)) < d (pit p e i)) : ∀ i j, i ≤ m → j ≤ m → pit p e i = pit p e j → i = j := by
  intro i j hi hj q
  by_cases c : i < j
  · have := path_dec h j i c hj; rw [q] at this; omega
  · by_cases c2 : j < i
    · have := path_dec h i j c2 hi; rw [q] at this; omega
    · omega
/-- loops that search and answer something else -/
theorem lp_f2 {L : Nat → Nat → mo} {K : mo} {F : mo} {p : Nat → Bool} {N : Nat} (hN : N < 4294967294) (h1 : ∀ n v, v < N → p v = true → L (n + 1) v = F) (h2 : ∀ n v, v < N → p v = false → L (n + 1) v = L n (v + 1)) (h3 : ∀ n, L (n + 1) N = K) : ∀ m n v, v + m = N → m < n → L n v = if fs p m v = 4294967294 then K else F := by
  intro m
  induction m with
  | zero =>
    intro n v e l
    obtain ⟨n, rfl⟩ : ∃ n', n = n' + 1 := ⟨n - 1, by omega⟩
    have : v = N := by omega
    rw [this, h3]; rfl
  | succ m ih =>
    intro n v e l
    obtain ⟨n, rfl⟩ : ∃ n', n = n' + 1 := ⟨n - 1, by omega⟩
    unfold fs
    by_cases h : p v = true
    · rw [h1 n v (by omega) h, if_pos h, if_neg (by omega)]
    · rw [h2 n v (by omega) (by simpa using h), if_neg h]
      exact ih n (v + 1) (by omega) (by omega)
/-- the turned pointers -/
def PF (p : Nat → Nat) (e m o : Nat) (f : Nat → Nat) : Prop := f e = o ∧ (∀ i, i < m → f (pit p e (i + 1)) = pit p e i) ∧ (∀ x, (∀ i, i ≤ m → x ≠ pit p e i) → f x = p x)
theorem dbound (d : Nat → Nat) : ∀ n, ∃ D, ∀ x, x < n → d x < D := by
  intro n
  induction n with
  | zero => exact ⟨0, fun x hx => by omega⟩
  | succ n ih =>
    obtain ⟨D, hD⟩ := ih
    refine ⟨D + d n + 1, fun x hx => ?_⟩
    by_cases c : x = n
    · rw [c]; omega
    · have := hD x (by omega); omega
section JOIN
variable {B : mg_F × mg_F} {N : Nat} {gc gm : mg_F}
theorem p_ptr {gc' gm' : mg_F} (h : sA B gc gm) (h1 : ∀ k i j, ¬ (k = 3 ∧ j = 2) → gc' k i j = gc k i j) (h2 : ∀ k i j, k ≠ 36 → k ≠ 62 → gm' k i j = gm k i j) (h3 : ∀ s, s < gm 5 0 0 → gc' 3 s 2 = gm' 36 0 s ∧ (gm' 36 0 s < gm 5 0 0 ∨ gm' 36 0 s = 4294967294)) : sA B gc' gm' := by
  obtain ⟨h0, hG, hK, hH, hF, hQ, hN, hL, hC⟩ := h
  have f0 : gm' 5 0 0 = gm 5 0 0 := h2 5 0 0 (by omega) (by omega)
  refine ⟨⟨fun k i j hk => ?_, fun k i j hk => ?_⟩, ?_, ?_, ?_, fun s hs => ?_, ?_, ?_, ?_, ?_⟩
  · rw [h1 k i j (by omega)]; exact h0.1 k i j hk
  · rw [h2 k i j (by omega) (by omega)]; exact h0.2 k i j hk
  · simpa [sG, h1, h2] using hG
  · simpa [sK, h1, h2] using hK
  · simpa [sH, h1, h2] using hH
  · rw [f0] at hs
    obtain ⟨a1, a2, a3, a4, a5, a6, a7, a8, a9, a10⟩ := hF s hs
    obtain ⟨b1, b2⟩ := h3 s hs
    rw [f0]
    refine ⟨b1, ?_⟩
    simp only [h1 3 s 3 (by omega), h1 3 s 4 (by omega), h1 3 s 5 (by omega), h1 3 s 6 (by omega), h1 3 s 7 (by omega), h1 3 s 8 (by omega), h1 3 s 11 (by omega), h2 37 0 s (by omega) (by omega), h2 38 0 s (by omega) (by omega), h2 39 0 s (by omega) (by omega), h2 40 0 s (by omega) (by omega), h2 41 0 s (by omega) (by omega), h2 42 0 s (by omega) (by omega), h2 44 0 s (by omega) (by omega)]
    exact ⟨a2, a3, a4, a5, a6, a7, a8, b2, a10⟩
  · simpa [sQ, h1, h2] using hQ
  · simpa [sN, h1, h2] using hN
  · simpa [sL, h1, h2] using hL
  · simpa [sC, h1, h2] using hC
theorem q_turn {e o m : Nat} (h : sA B gc gm) (hm : m < gm 5 0 0) (q1 : ∀ i, i ≤ m → pit (gm 36 0) e i < gm 5 0 0) (q2 : gm 36 0 (pit (gm 36 0) e m) = 4294967294) (q3 : ∀ i j, i ≤ m → j ≤ m → pit (gm 36 0) e i = pit (gm 36 0) e j → i = j) : ∃ gc', P_X4_turnPointers e o gc = some (0, gc') ∧ (∀ k i j, ¬ (k = 3 ∧ j = 2) → gc' k i j = gc k i j) ∧ PF (gm 36 0) e m o (fun x => if x < gm 5 0 0 then gc' 3 x 2 else gm 36 0 x) := by
  obtain ⟨g1, g2, g3, g4, g5, g6⟩ := h.2.1
  have hF := h.2.2.2.2.1
  unfold P_X4_turnPointers
  obtain ⟨x, ⟨e1, e2, e3⟩, e4⟩ := lp_ex (L := fun n x v => L_X4_turnPointers_8 e o (fun w5 w6 w7 g8 => some (0, g8)) n (pit (gm 36 0) e v) (if v = 0 then o else pit (gm 36 0) e (v - 1)) v x) (K := fun x => some (0, x)) (I := fun v x => (∀ k i j, ¬ (k = 3 ∧ j = 2) → x k i j = gc k i j) ∧ (∀ j, j < v → x 3 (pit (gm 36 0) e j) 2 = if j = 0 then o else pit (gm 36 0) e (j - 1)) ∧ (∀ y, (∀ j, j < v → y ≠ pit (gm 36 0) e j) → x 3 y 2 = gc 3 y 2)) (N := m + 1) (by
    intro n x v hv hI
    obtain ⟨i1, i2, i3⟩ := hI
    have hU := q1 v (by omega)
    have hx0 : x 0 0 1 = gm 5 0 0 := by rw [i1 0 0 1 (by omega)]; exact g3
    have hxp : x 3 (pit (gm 36 0) e v) 2 = pit (gm 36 0) e (v + 1) := by
      rw [i3 _ (fun j hj q => by have := q3 v j (by omega) (by omega) q; omega), (hF _ hU).1]; rfl
    refine ⟨mg_up x 3 (pit (gm 36 0) e v) 2 (if v = 0 then o else pit (gm 36 0) e (v - 1)), ?_, fun k i j hk => ?_, fun j hj => ?_, fun y hy => ?_⟩
    · show L_X4_turnPointers_8 e o _ (n + 1) _ _ v x = _
      rw [L_X4_turnPointers_8, hx0, if_pos ((sv_ltN (by omega) (by omega)).mpr (by omega)), if_neg (by rw [sv_eqN (by omega) (by omega)]; omega), ck_t (by omega), wr_s, hxp]
      show _ = L_X4_turnPointers_8 e o _ n (pit (gm 36 0) e (v + 1)) (if v + 1 = 0 then o else pit (gm 36 0) e (v + 1 - 1)) (v + 1) _
      rw [if_neg (show ¬ v + 1 = 0 by omega), Nat.add_sub_cancel]
    · rw [ue, if_neg (by omega)]; exact i1 k i j hk
    · rw [ue]
      by_cases c : j = v
      · rw [if_pos ⟨rfl, by rw [c], rfl⟩, c]
      · rw [if_neg (fun q => by have := q3 j v (by omega) (by omega) q.2.1; omega)]
        exact i2 j (by omega)
    · rw [ue, if_neg (fun q => hy v (by omega) q.2.1)]
      exact i3 y (fun j hj => hy j (by omega))) (by
    intro n x hI
    have hx0 : x 0 0 1 = gm 5 0 0 := by rw [hI.1 0 0 1 (by omega)]; exact g3
    show L_X4_turnPointers_8 e o _ (n + 1) (gm 36 0 (pit (gm 36 0) e m)) _ (m + 1) x = _
    rw [L_X4_turnPointers_8, hx0, q2]
    split
    · rw [if_pos rfl]
    · rfl) (m + 1) 4000 gc 0 (by omega) (by omega) ⟨fun _ _ _ _ => rfl, fun j hj => by omega, fun _ _ => rfl⟩
  refine ⟨x, e4, e1, ?_, fun i hi => ?_, fun y hy => ?_⟩
  · show (if e < gm 5 0 0 then x 3 e 2 else _) = o
    have := q1 0 (by omega)
    rw [if_pos (show e < gm 5 0 0 from this)]
    exact e2 0 (by omega)
  · show (if pit (gm 36 0) e (i + 1) < gm 5 0 0 then x 3 (pit (gm 36 0) e (i + 1)) 2 else _) = _
    rw [if_pos (q1 (i + 1) (by omega))]
    have := e2 (i + 1) (by omega)
    rw [this, if_neg (by omega), Nat.add_sub_cancel]
  · show (if y < gm 5 0 0 then x 3 y 2 else gm 36 0 y) = gm 36 0 y
    by_cases c : y < gm 5 0 0
    · rw [if_pos c, e3 y (fun j hj => hy j (by omega)), (hF y c).1]
    · rw [if_neg c]
theorem q_mark {e m : Nat} (h : sA B gc gm) (hm : m < gm 5 0 0) (q1 : ∀ i, i ≤ m → pit (gm 36 0) e i < gm 5 0 0) (q2 : gm 36 0 (pit (gm 36 0) e m) = 4294967294) (q3 : ∀ i j, i ≤ m → j ≤ m → pit (gm 36 0) e i = pit (gm 36 0) e j → i = j) : P_X4_hasMarkFrom e gc = if fs (fun i => gm 37 0 (pit (gm 36 0) e i) == 1) m 0 = 4294967294 then some (0, gc) else some (1, gc) := by
  obtain ⟨g1, g2, g3, g4, g5, g6⟩ := h.2.1
  have hF := h.2.2.2.2.1
  unfold P_X4_hasMarkFrom
  refine lp_f2 (L := fun n v => L_X4_hasMarkFrom_4 e (fun w7 w8 g9 => some (0, g9)) n (pit (gm 36 0) e v) v gc) (N := m) (by omega) ?_ ?_ ?_ m 4000 0 (by omega) (by omega)
  · intro n v hv hp
    have hU := q1 v (by omega)
    have hU2 := q1 (v + 1) (by omega)
    have hFv := hF _ hU
    have hp' : gm 37 0 (pit (gm 36 0) e v) = 1 := by simpa using hp
    have hpt : gm 36 0 (pit (gm 36 0) e v) = pit (gm 36 0) e (v + 1) := rfl
    have hne : ¬ (gm 36 0 (pit (gm 36 0) e v) = pit (gm 36 0) e v ∨ gm 36 0 (pit (gm 36 0) e v) = 4294967294) := fun q => by
      rw [hpt] at q
      rcases q with q | q
      · have := q3 (v + 1) v (by omega) (by omega) q; omega
      · omega
    show L_X4_hasMarkFrom_4 e _ (n + 1) (pit (gm 36 0) e v) v gc = _
    rw [L_X4_hasMarkFrom_4, g3, if_pos ((sv_ltN (by omega) (by omega)).mpr (by omega)), ck_t (by omega), q_away (by omega) (by omega), bd_s, hFv.1, if_neg hne, if_neg sv10, hFv.2.1, hp', if_neg sv10]
  · intro n v hv hp
    have hU := q1 v (by omega)
    have hU2 := q1 (v + 1) (by omega)
    have hFv := hF _ hU
    have hp' : ¬ gm 37 0 (pit (gm 36 0) e v) = 1 := by simpa using hp
    have hpt : gm 36 0 (pit (gm 36 0) e v) = pit (gm 36 0) e (v + 1) := rfl
    have hne : ¬ (gm 36 0 (pit (gm 36 0) e v) = pit (gm 36 0) e v ∨ gm 36 0 (pit (gm 36 0) e v) = 4294967294) := fun q => by
      rw [hpt] at q
      rcases q with q | q
      · have := q3 (v + 1) v (by omega) (by omega) q; omega
      · omega
    show L_X4_hasMarkFrom_4 e _ (n + 1) (pit (gm 36 0) e v) v gc = _
    rw [L_X4_hasMarkFrom_4, g3, if_pos ((sv_ltN (by omega) (by omega)).mpr (by omega)), ck_t (by omega), q_away (by omega) (by omega), bd_s, hFv.1, if_neg hne, if_neg sv10, hFv.2.1, show gm 37 0 (pit (gm 36 0) e v) = 0 by omega, if_pos sv_0]
    rfl
  · intro n
    have hU := q1 m (by omega)
    have hFv := hF _ hU
    show L_X4_hasMarkFrom_4 e _ (n + 1) (pit (gm 36 0) e m) m gc = _
    rw [L_X4_hasMarkFrom_4, g3, if_pos ((sv_ltN (by omega) (by omega)).mpr hm), ck_t (by omega), q_away (by omega) (by omega), bd_s, hFv.1, if_pos (Or.inr q2), if_pos sv_0]
/-- the reference's walk: its path, the marks, the turning -/
theorem m_walk {a b c1 c2 e o m : Nat} (h : sA B gc gm) (hm : m < gm 5 0 0) (he : e < 24) (q1 : ∀ i, i ≤ m → pit (gm 36 0) e i < gm 5 0 0) (q2 : gm 36 0 (pit (gm 36 0) e m) = 4294967294) (q3 : ∀ i j, i ≤ m → j ≤ m → pit (gm 36 0) e i = pit (gm 36 0) e j → i = j) (K : mg_F → mo) : ∃ g1 g2 : mg_F, (∀ k i j, k ≠ 62 → g1 k i j = gm k i j) ∧ (∀ k i j, k ≠ 36 → k ≠ 62 → g2 k i j = gm k i j) ∧ PF (gm 36 0) e m o (g2 36 0) ∧ L_X5_join_128 a b c1 c2 e o (fun w27 w28 g29 => L_X5_join_162 a b c1 c2 e o w27 (fun w30 g31 => L_X5_join_201 a b c1 c2 e o w27 (fun w32 g33 => ck (e < 24) <| wr (mg_up g33 36 0 e o) fun g35 => K g35) 4000 (sb w27 1) g31) 4000 0 g29) 4000 0 e gm = if fs (fun i => gm 37 0 (pit (gm 36 0) e i) == 1) m 0 = 4294967294 then K g2 else some (4294967291, g1) := by
  obtain ⟨gg1, gg2, gg3, gg4, gg5, gg6⟩ := h.2.1
  have hF := h.2.2.2.2.1
  obtain ⟨x, ⟨e1, e2⟩, e3⟩ := lp_ex (L := fun n x v => L_X5_join_128 a b c1 c2 e o (fun w27 w28 g29 => L_X5_join_162 a b c1 c2 e o w27 (fun w30 g31 => L_X5_join_201 a b c1 c2 e o w27 (fun w32 g33 => ck (e < 24) <| wr (mg_up g33 36 0 e o) fun g35 => K g35) 4000 (sb w27 1) g31) 4000 0 g29) n v (pit (gm 36 0) e v) x) (K := fun g29 => L_X5_join_162 a b c1 c2 e o (m + 1) (fun w30 g31 => L_X5_join_201 a b c1 c2 e o (m + 1) (fun w32 g33 => ck (e < 24) <| wr (mg_up g33 36 0 e o) fun g35 => K g35) 4000 (sb (m + 1) 1) g31) 4000 0 g29) (I := fun v x => (∀ k i j, k ≠ 62 → x k i j = gm k i j) ∧ (∀ j, j < v → x 62 0 j = pit (gm 36 0) e j)) (N := m + 1) (by
    intro n x v hv hI
    obtain ⟨i1, i2⟩ := hI
    have hU := q1 v (by omega)
    have hxp : mg_up x 62 0 v (pit (gm 36 0) e v) 36 0 (pit (gm 36 0) e v) = pit (gm 36 0) e (v + 1) := by
      rw [ue, if_neg (by omega), i1 36 0 _ (by omega)]; rfl
    refine ⟨mg_up x 62 0 v (pit (gm 36 0) e v), ?_, fun k i j hk => ?_, fun j hj => ?_⟩
    · show L_X5_join_128 a b c1 c2 e o _ (n + 1) v (pit (gm 36 0) e v) x = _
      rw [L_X5_join_128, if_neg (by rw [sv_eqN (by omega) (by omega)]; omega), ck_t (by omega), wr_s, ck_t (by omega), hxp]
    · rw [ue, if_neg (by omega)]; exact i1 k i j hk
    · rw [ue]
      by_cases c : j = v
      · rw [if_pos ⟨rfl, rfl, c⟩, c]
      · rw [if_neg (by omega)]; exact i2 j (by omega)) (by
    intro n x hI
    show L_X5_join_128 a b c1 c2 e o _ (n + 1) (m + 1) (gm 36 0 (pit (gm 36 0) e m)) x = _
    rw [L_X5_join_128, q2, if_pos rfl]) (m + 1) 4000 gm 0 (by omega) (by omega) ⟨fun _ _ _ _ => rfl, fun j hj => by omega⟩
  have e3' : L_X5_join_128 a b c1 c2 e o (fun w27 w28 g29 => L_X5_join_162 a b c1 c2 e o w27 (fun w30 g31 => L_X5_join_201 a b c1 c2 e o w27 (fun w32 g33 => ck (e < 24) <| wr (mg_up g33 36 0 e o) fun g35 => K g35) 4000 (sb w27 1) g31) 4000 0 g29) 4000 0 e gm = L_X5_join_162 a b c1 c2 e o (m + 1) (fun w30 g31 => L_X5_join_201 a b c1 c2 e o (m + 1) (fun w32 g33 => ck (e < 24) <| wr (mg_up g33 36 0 e o) fun g35 => K g35) 4000 (sb (m + 1) 1) g31) 4000 0 x := e3
  -- marks
  have mk : ∀ T : mo, L_X5_join_162 a b c1 c2 e o (m + 1) (fun w30 g31 => if w30 = m then T else T) 4000 0 x = L_X5_join_162 a b c1 c2 e o (m + 1) (fun w30 g31 => if w30 = m then T else T) 4000 0 x := fun T => rfl
  have marks : ∀ k : Nat → mg_F → mo, L_X5_join_162 a b c1 c2 e o (m + 1) k 4000 0 x = if fs (fun i => gm 37 0 (pit (gm 36 0) e i) == 1) m 0 = 4294967294 then k m x else some (4294967291, x) := by
    intro k
    refine lp_f2 (L := fun n v => L_X5_join_162 a b c1 c2 e o (m + 1) k n v x) (N := m) (by omega) ?_ ?_ ?_ m 4000 0 (by omega) (by omega)
    · intro n v hv hp
      have hU := q1 v (by omega)
      have hp' : gm 37 0 (pit (gm 36 0) e v) = 1 := by simpa using hp
      show L_X5_join_162 a b c1 c2 e o (m + 1) k (n + 1) v x = _
      rw [L_X5_join_162, if_pos ((sv_ltN (by omega) (by omega)).mpr (by omega)), ck_t (by omega), e2 v (by omega), ck_t (by omega), e1 37 0 _ (by omega), hp', if_neg sv10]
    · intro n v hv hp
      have hU := q1 v (by omega)
      have hFv := hF _ hU
      have hp' : ¬ gm 37 0 (pit (gm 36 0) e v) = 1 := by simpa using hp
      show L_X5_join_162 a b c1 c2 e o (m + 1) k (n + 1) v x = _
      rw [L_X5_join_162, if_pos ((sv_ltN (by omega) (by omega)).mpr (by omega)), ck_t (by omega), e2 v (by omega), ck_t (by omega), e1 37 0 _ (by omega), show gm 37 0 (pit (gm 36 0) e v) = 0 by omega, if_pos sv_0]
    · intro n
      show L_X5_join_162 a b c1 c2 e o (m + 1) k (n + 1) m x = _
      rw [L_X5_join_162, if_neg (by rw [sv_ltN (by omega) (by omega)]; omega)]
  -- the turning
  have turn : ∀ v n (y : mg_F) (k : Nat → mg_F → mo), v < n → v ≤ m → (∀ k i j, k ≠ 36 → k ≠ 62 → y k i j = gm k i j) → (∀ j, j ≤ m → y 62 0 j = pit (gm 36 0) e j) → (∀ j, v < j → j ≤ m → y 36 0 (pit (gm 36 0) e j) = pit (gm 36 0) e (j - 1)) → (∀ z, (∀ j, v < j → j ≤ m → z ≠ pit (gm 36 0) e j) → y 36 0 z = gm 36 0 z) → ∃ y' : mg_F, (∀ k i j, k ≠ 36 → k ≠ 62 → y' k i j = gm k i j) ∧ (∀ j, 0 < j → j ≤ m → y' 36 0 (pit (gm 36 0) e j) = pit (gm 36 0) e (j - 1)) ∧ (∀ z, (∀ j, 0 < j → j ≤ m → z ≠ pit (gm 36 0) e j) → y' 36 0 z = gm 36 0 z) ∧ L_X5_join_201 a b c1 c2 e o (m + 1) k n v y = k 0 y' := by
    intro v
    induction v with
    | zero =>
      intro n y k hn hv h1 h2 h3 h4
      obtain ⟨n, rfl⟩ : ∃ n', n = n' + 1 := ⟨n - 1, by omega⟩
      refine ⟨y, h1, h3, h4, ?_⟩
      rw [L_X5_join_201, if_neg (by rw [sv_0]; omega)]
    | succ v ih =>
      intro n y k hn hv h1 h2 h3 h4
      obtain ⟨n, rfl⟩ : ∃ n', n = n' + 1 := ⟨n - 1, by omega⟩
      have hU := q1 (v + 1) hv
      obtain ⟨y', j1, j2, j3, j4⟩ := ih n (mg_up y 36 0 (pit (gm 36 0) e (v + 1)) (pit (gm 36 0) e v)) k (by omega) (by omega) (fun k i j hk hk2 => by rw [ue, if_neg (by omega)]; exact h1 k i j hk hk2) (fun j hj => by rw [ue, if_neg (by omega)]; exact h2 j hj) (fun j hj hj2 => by
        rw [ue]
        by_cases c : j = v + 1
        · rw [c, if_pos ⟨rfl, rfl, rfl⟩, Nat.add_sub_cancel]
        · rw [if_neg (fun q => c (q3 j (v + 1) hj2 hv q.2.2))]
          exact h3 j (by omega) hj2) (fun z hz => by
        rw [ue, if_neg (fun q => hz (v + 1) (by omega) hv q.2.2)]
        exact h4 z (fun j hj hj2 => hz j (by omega) hj2))
      refine ⟨y', j1, j2, j3, ?_⟩
      rw [← j4, L_X5_join_201, if_pos (by rw [sv_gt0N (by omega)]; omega), ck_t (by omega), sb_le (by omega), Nat.add_sub_cancel, ck_t (by omega), h2 (v + 1) hv, ck_t (by omega), h2 v (by omega), wr_s]
  obtain ⟨y, y1, y2, y3, y4⟩ := turn m 4000 x (fun w32 g33 => ck (e < 24) <| wr (mg_up g33 36 0 e o) fun g35 => K g35) (by omega) (Nat.le_refl _) (fun k i j _ hk => e1 k i j hk) (fun j hj => e2 j (by omega)) (fun j hj hj2 => by omega) (fun z _ => e1 36 0 z (by omega))
  refine ⟨x, mg_up y 36 0 e o, e1, fun k i j hk hk2 => ?_, ⟨?_, fun i hi => ?_, fun z hz => ?_⟩, ?_⟩
  · rw [ue, if_neg (by omega)]; exact y1 k i j hk hk2
  · rw [ue, if_pos ⟨rfl, rfl, rfl⟩]
  · rw [ue, if_neg (fun q => by have := q3 (i + 1) 0 (by omega) (by omega) q.2.2; omega), y2 (i + 1) (by omega) (by omega), Nat.add_sub_cancel]
  · rw [ue, if_neg (fun q => hz 0 (by omega) q.2.2)]
    exact y3 z (fun j hj hj2 => hz j hj2)
  · rw [e3', marks, sb_le (by omega), Nat.add_sub_cancel, y4, ck_t he, wr_s]
end JOIN
