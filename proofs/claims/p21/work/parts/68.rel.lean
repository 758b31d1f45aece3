/-! ===== the relation of class (gc) and reference (gm), part by part ===== -/
def lk (gm : mg_F) (a b : Nat) : Prop := gm 35 0 (24 * a + b) = 1
def sFR (B : mg_F × mg_F) (gc gm : mg_F) : Prop := (∀ k i j, (k = 5 ∨ 30 ≤ k) → gc k i j = B.1 k i j) ∧ (∀ k i j, ¬ (k = 5 ∨ 30 ≤ k) → gm k i j = B.2 k i j)
def sG (gc gm : mg_F) : Prop := gc 4 0 6 = gm 5 0 1 ∧ gm 5 0 1 < 2 ∧ gc 0 0 1 = gm 5 0 0 ∧ 2 ≤ gm 5 0 0 ∧ gm 5 0 0 < 25 ∧ sv (gc 0 0 2) = sv (gm 5 0 4)
def sK (gc gm : mg_F) : Prop := (∀ a b, a < 24 → b < 24 → gm 35 0 (24 * a + b) = if (gc 10 0 a).testBit b = true then 1 else 0) ∧ (∀ a, a < 24 → gc 10 0 a < 16777216) ∧ (∀ a b, a < 24 → b < 24 → gm 35 0 (24 * a + b) = 1 → gm 35 0 (24 * b + a) = 1 ∧ a ≠ b ∧ a < gm 5 0 0 ∧ b < gm 5 0 0)
def sH (gc gm : mg_F) : Prop := gc 4 0 7 = gm 5 0 2 ∧ gc 4 0 8 = gm 5 0 3 ∧ gc 4 0 9 = gm 5 0 15 ∧ gm 5 0 2 < 3 ∧ gm 5 0 3 < 5
def sF (gc gm : mg_F) : Prop := ∀ s, s < gm 5 0 0 → gc 3 s 2 = gm 36 0 s ∧ gc 3 s 3 = gm 37 0 s ∧ gc 3 s 4 = gm 41 0 s ∧ gc 3 s 5 = gm 38 0 s ∧ gc 3 s 6 = gm 39 0 s ∧ gc 3 s 7 = gm 40 0 s ∧ gc 3 s 8 = gm 42 0 s ∧ gc 3 s 11 = gm 44 0 s ∧ (gm 36 0 s < gm 5 0 0 ∨ gm 36 0 s = 4294967294) ∧ gm 37 0 s < 2 ∧ gm 38 0 s < 2 ∧ gm 39 0 s < 2 ∧ gm 41 0 s ≤ 1000
def sQ (gc gm : mg_F) : Prop := ∀ s, s < gm 5 0 0 → gc 2 s 2 = gm 46 0 s ∧ gm 46 0 s ≤ 24 ∧ (∀ i, i < gm 46 0 s → gc 16 s i = gm 47 0 (24 * s + i) ∧ gc 17 s i = gm 48 0 (24 * s + i) ∧ gm 47 0 (24 * s + i) < gm 5 0 0 ∧ gm 48 0 (24 * s + i) ≤ 1000) ∧ (∀ i j, i < gm 46 0 s → j < gm 46 0 s → gm 47 0 (24 * s + i) = gm 47 0 (24 * s + j) → i = j)
def sN (gc gm : mg_F) : Prop := ∀ a b, a < 24 → b < 24 → gc 21 a b = gm 49 0 (24 * a + b) ∧ gc 22 a b = gm 50 0 (24 * a + b)
def sL (gc gm : mg_F) : Prop := gc 1 0 5 = gm 5 0 21 ∧ gm 5 0 21 ≤ 1024 ∧ ∀ i, i < gm 5 0 21 → gc 11 0 i = gm 53 0 i ∧ gm 52 0 i = 24 * gc 12 0 i + gc 13 0 i ∧ gc 12 0 i < 24 ∧ gc 13 0 i < 24 ∧ gc 14 0 i = gm 55 0 i ∧ gc 15 0 i = gm 54 0 i ∧ gm 54 0 i ≤ 1000 ∧ gm 53 0 i < 2
def sC (gc gm : mg_F) : Prop := gc 1 1 5 = gm 5 0 26 ∧ gm 5 0 26 ≤ 60 ∧ ∀ i, i < gm 5 0 26 → gc 11 1 i = gm 58 0 i ∧ gm 57 0 i = 24 * gc 12 1 i + gc 13 1 i ∧ gc 12 1 i < 24 ∧ gc 13 1 i < 24 ∧ gc 14 1 i = gm 60 0 i ∧ gc 15 1 i = gm 59 0 i ∧ gm 59 0 i ≤ 1000 ∧ gm 58 0 i < 3
def sA (B : mg_F × mg_F) (gc gm : mg_F) : Prop := sFR B gc gm ∧ sG gc gm ∧ sK gc gm ∧ sH gc gm ∧ sF gc gm ∧ sQ gc gm ∧ sN gc gm ∧ sL gc gm ∧ sC gc gm
theorem sFR_c {B : mg_F × mg_F} {gc gm : mg_F} (h : sFR B gc gm) {k i j v : Nat} (hk : ¬ (k = 5 ∨ 30 ≤ k)) : sFR B (mg_up gc k i j v) gm :=
  ⟨fun k' i' j' hk' => by rw [ue, if_neg (by omega)]; exact h.1 k' i' j' hk', h.2⟩
theorem sFR_m {B : mg_F × mg_F} {gc gm : mg_F} (h : sFR B gc gm) {k i j v : Nat} (hk : k = 5 ∨ 30 ≤ k) : sFR B gc (mg_up gm k i j v) :=
  ⟨h.1, fun k' i' j' hk' => by rw [ue, if_neg (by omega)]; exact h.2 k' i' j' hk'⟩
theorem way_inj {a b a' b' : Nat} (hb : b < 24) (hb' : b' < 24) (h : 24 * a + b = 24 * a' + b') : a = a' ∧ b = b' := by omega
theorem p_f2 {B : mg_F × mg_F} {gc gm : mg_F} {s v : Nat} (h : sA B gc gm) (hv : v < gm 5 0 0 ∨ v = 4294967294) : sA B (mg_up gc 3 s 2 v) (mg_up gm 36 0 s v) := by
  obtain ⟨h0, hG, hK, hH, hF, hQ, hN, hL, hC⟩ := h
  refine ⟨sFR_m (sFR_c h0 (by omega)) (by omega), hG, hK, hH, ?_, hQ, hN, hL, hC⟩
  intro t ht
  have := hF t ht
  by_cases c : t = s
  · subst c; simp [ue]; grind
  · simp [ue, c]; exact this
theorem p_f3 {B : mg_F × mg_F} {gc gm : mg_F} {s v : Nat} (h : sA B gc gm) (hv : v < 2) : sA B (mg_up gc 3 s 3 v) (mg_up gm 37 0 s v) := by
  obtain ⟨h0, hG, hK, hH, hF, hQ, hN, hL, hC⟩ := h
  refine ⟨sFR_m (sFR_c h0 (by omega)) (by omega), hG, hK, hH, ?_, hQ, hN, hL, hC⟩
  intro t ht
  have := hF t ht
  by_cases c : t = s
  · subst c; simp [ue]; grind
  · simp [ue, c]; exact this
theorem p_f4 {B : mg_F × mg_F} {gc gm : mg_F} {s v : Nat} (h : sA B gc gm) (hv : v ≤ 1000) : sA B (mg_up gc 3 s 4 v) (mg_up gm 41 0 s v) := by
  obtain ⟨h0, hG, hK, hH, hF, hQ, hN, hL, hC⟩ := h
  refine ⟨sFR_m (sFR_c h0 (by omega)) (by omega), hG, hK, hH, ?_, hQ, hN, hL, hC⟩
  intro t ht
  have := hF t ht
  by_cases c : t = s
  · subst c; simp [ue]; grind
  · simp [ue, c]; exact this
theorem p_f5 {B : mg_F × mg_F} {gc gm : mg_F} {s v : Nat} (h : sA B gc gm) (hv : v < 2) : sA B (mg_up gc 3 s 5 v) (mg_up gm 38 0 s v) := by
  obtain ⟨h0, hG, hK, hH, hF, hQ, hN, hL, hC⟩ := h
  refine ⟨sFR_m (sFR_c h0 (by omega)) (by omega), hG, hK, hH, ?_, hQ, hN, hL, hC⟩
  intro t ht
  have := hF t ht
  by_cases c : t = s
  · subst c; simp [ue]; grind
  · simp [ue, c]; exact this
theorem p_f6 {B : mg_F × mg_F} {gc gm : mg_F} {s v : Nat} (h : sA B gc gm) (hv : v < 2) : sA B (mg_up gc 3 s 6 v) (mg_up gm 39 0 s v) := by
  obtain ⟨h0, hG, hK, hH, hF, hQ, hN, hL, hC⟩ := h
  refine ⟨sFR_m (sFR_c h0 (by omega)) (by omega), hG, hK, hH, ?_, hQ, hN, hL, hC⟩
  intro t ht
  have := hF t ht
  by_cases c : t = s
  · subst c; simp [ue]; grind
  · simp [ue, c]; exact this
theorem p_f7 {B : mg_F × mg_F} {gc gm : mg_F} {s v : Nat} (h : sA B gc gm) (hv : True) : sA B (mg_up gc 3 s 7 v) (mg_up gm 40 0 s v) := by
  obtain ⟨h0, hG, hK, hH, hF, hQ, hN, hL, hC⟩ := h
  refine ⟨sFR_m (sFR_c h0 (by omega)) (by omega), hG, hK, hH, ?_, hQ, hN, hL, hC⟩
  intro t ht
  have := hF t ht
  by_cases c : t = s
  · subst c; simp [ue]; grind
  · simp [ue, c]; exact this
theorem p_f8 {B : mg_F × mg_F} {gc gm : mg_F} {s v : Nat} (h : sA B gc gm) (hv : True) : sA B (mg_up gc 3 s 8 v) (mg_up gm 42 0 s v) := by
  obtain ⟨h0, hG, hK, hH, hF, hQ, hN, hL, hC⟩ := h
  refine ⟨sFR_m (sFR_c h0 (by omega)) (by omega), hG, hK, hH, ?_, hQ, hN, hL, hC⟩
  intro t ht
  have := hF t ht
  by_cases c : t = s
  · subst c; simp [ue]; grind
  · simp [ue, c]; exact this
theorem p_f11 {B : mg_F × mg_F} {gc gm : mg_F} {s v : Nat} (h : sA B gc gm) (hv : True) : sA B (mg_up gc 3 s 11 v) (mg_up gm 44 0 s v) := by
  obtain ⟨h0, hG, hK, hH, hF, hQ, hN, hL, hC⟩ := h
  refine ⟨sFR_m (sFR_c h0 (by omega)) (by omega), hG, hK, hH, ?_, hQ, hN, hL, hC⟩
  intro t ht
  have := hF t ht
  by_cases c : t = s
  · subst c; simp [ue]; grind
  · simp [ue, c]; exact this
theorem p_begun {B : mg_F × mg_F} {gc gm : mg_F} {v : Nat} (h : sA B gc gm) : sA B (mg_up gc 4 0 9 v) (mg_up gm 5 0 15 v) := by
  obtain ⟨h0, hG, hK, hH, hF, hQ, hN, hL, hC⟩ := h
  refine ⟨sFR_m (sFR_c h0 (by omega)) (by omega), hG, hK, ?_, hF, hQ, hN, hL, hC⟩
  obtain ⟨a1, a2, a3, a4⟩ := hH
  exact ⟨a1, a2, rfl, a4⟩
/-- cells that nothing speaks of -/
theorem p_irr {B : mg_F × mg_F} {gc gm gc' gm' : mg_F} (h : sA B gc gm) (h1 : ∀ k i j, ¬ (k = 3 ∧ (j = 9 ∨ j = 10)) → gc' k i j = gc k i j) (h2 : ∀ k i j, k ≠ 43 → k ≠ 61 → k ≠ 62 → gm' k i j = gm k i j) : sA B gc' gm' := by
  obtain ⟨h0, hG, hK, hH, hF, hQ, hN, hL, hC⟩ := h
  refine ⟨⟨fun k i j hk => ?_, fun k i j hk => ?_⟩, ?_, ?_, ?_, ?_, ?_, ?_, ?_, ?_⟩
  · rw [h1 k i j (by omega)]; exact h0.1 k i j hk
  · rw [h2 k i j (by omega) (by omega) (by omega)]; exact h0.2 k i j hk
  · simpa [sG, h1, h2] using hG
  · simpa [sK, h1, h2] using hK
  · simpa [sH, h1, h2] using hH
  · simpa [sF, h1, h2] using hF
  · simpa [sQ, h1, h2] using hQ
  · simpa [sN, h1, h2] using hN
  · simpa [sL, h1, h2] using hL
  · simpa [sC, h1, h2] using hC
theorem p_tk {B : mg_F × mg_F} {gc gm : mg_F} {a b v : Nat} (hb : b < 24) (h : sA B gc gm) : sA B (mg_up gc 22 a b v) (mg_up gm 50 0 (24 * a + b) v) := by
  obtain ⟨h0, hG, hK, hH, hF, hQ, hN, hL, hC⟩ := h
  refine ⟨sFR_m (sFR_c h0 (by omega)) (by omega), hG, hK, hH, hF, hQ, ?_, hL, hC⟩
  intro x y hx hy
  have := hN x y hx hy
  refine ⟨this.1, ?_⟩
  rw [ue, ue]
  by_cases c : x = a ∧ y = b
  · rw [if_pos ⟨rfl, c⟩, if_pos ⟨rfl, rfl, by rw [c.1, c.2]⟩]
  · rw [if_neg (fun q => c q.2), if_neg (fun q => c (way_inj hy hb q.2.2))]; exact this.2
theorem p_wn {B : mg_F × mg_F} {gc gm : mg_F} {a b v : Nat} (hb : b < 24) (h : sA B gc gm) : sA B (mg_up gc 21 a b v) (mg_up gm 49 0 (24 * a + b) v) := by
  obtain ⟨h0, hG, hK, hH, hF, hQ, hN, hL, hC⟩ := h
  refine ⟨sFR_m (sFR_c h0 (by omega)) (by omega), hG, hK, hH, hF, hQ, ?_, hL, hC⟩
  intro x y hx hy
  have := hN x y hx hy
  refine ⟨?_, this.2⟩
  rw [ue, ue]
  by_cases c : x = a ∧ y = b
  · rw [if_pos ⟨rfl, c⟩, if_pos ⟨rfl, rfl, by rw [c.1, c.2]⟩]
  · rw [if_neg (fun q => c q.2), if_neg (fun q => c (way_inj hy hb q.2.2))]; exact this.1
theorem p_send {B : mg_F × mg_F} {gc gm : mg_F} {k a b d e : Nat} (ha : a < 24) (hb : b < 24) (hk : k < 3) (he : e ≤ 1000) (h : sA B gc gm) : sA B (ladd gc 1 k a b d e) (msend gm (24 * a + b) k e d) := by
  have h' := h
  obtain ⟨h0, hG, hK, hH, hF, hQ, hN, hL, hC⟩ := h
  obtain ⟨c1, c2, c3⟩ := hC
  unfold ladd msend
  have hcap : mg_cap 1 = 60 := rfl
  rw [hcap, c1]
  by_cases hz : gm 5 0 26 = 60
  · rw [if_pos hz, if_pos hz]; exact h'
  · rw [if_neg hz, if_neg hz]
    refine ⟨?_, hG, hK, hH, hF, hQ, hN, hL, ?_⟩
    · refine sFR_m (sFR_m (sFR_m (sFR_m (sFR_m ?_ (by omega)) (by omega)) (by omega)) (by omega)) (by omega)
      exact sFR_c (sFR_c (sFR_c (sFR_c (sFR_c (sFR_c h0 (by omega)) (by omega)) (by omega)) (by omega)) (by omega)) (by omega)
    · refine ⟨by simp [ue], by simp [ue]; omega, fun i hi => ?_⟩
      simp [ue] at hi
      by_cases c : i = gm 5 0 26
      · subst c; simp [ue]; omega
      · have := c3 i (by omega)
        simp [ue, c]; exact this
theorem p_fs {B : mg_F × mg_F} {gc gm : mg_F} {a b : Nat} (hb : b < 24) (h : sA B gc gm) : fs (fun i => gc 12 0 i == a && gc 13 0 i == b) (gc 1 0 5) 0 = fs (fun i => gm 52 0 i == 24 * a + b) (gm 5 0 21) 0 := by
  obtain ⟨h0, hG, hK, hH, hF, hQ, hN, hL, hC⟩ := h
  obtain ⟨l1, l2, l3⟩ := hL
  rw [l1]
  refine fs_congr (fun i hi => ?_)
  obtain ⟨_, e, _, h13, _⟩ := l3 i hi
  rw [e]
  by_cases c : gc 12 0 i = a ∧ gc 13 0 i = b
  · rw [c.1, c.2]; simp
  · have : ¬ (24 * gc 12 0 i + gc 13 0 i = 24 * a + b) := fun q => c (way_inj h13 hb q)
    rw [show (24 * gc 12 0 i + gc 13 0 i == 24 * a + b) = false by simpa using this]
    simpa using c
theorem p_sf {B : mg_F × mg_F} {gc gm : mg_F} {a b : Nat} (ha : a < 24) (hb : b < 24) (h : sA B gc gm) : sA B (cpf gc a b) (msf gm (24 * a + b)) := by
  unfold cpf msf
  rw [p_fs hb h]
  by_cases c : fs (fun i => gm 52 0 i == 24 * a + b) (gm 5 0 21) 0 = 4294967294
  · rw [if_pos c, if_pos c]; exact h
  · rw [if_neg c, if_neg c]
    have f1 := fs_spec (fun i => gm 52 0 i == 24 * a + b) (gm 5 0 21) 0
    have hl := h.2.2.2.2.2.2.2.1.2.2
    generalize fs (fun i => gm 52 0 i == 24 * a + b) (gm 5 0 21) 0 = x at *
    obtain ⟨l1, _, _, _, l5, l6, l7, l8⟩ := hl x (by omega)
    rw [l1, l5, l6]
    exact p_send ha hb (by omega) l7 h
/-- the letter laid into an outbox -/
theorem p_let {B : mg_F × mg_F} {gc gm : mg_F} {k a b e : Nat} (ha : a < 24) (hb : b < 24) (hk : k < 2) (he : e ≤ 1000) (hl : gm 5 0 21 < 1024) (h : sA B gc gm) : sA B (mg_up (ladd gc 0 k a b (gc 21 a b) e) 21 a b (gc 21 a b + 1)) (mlet gm (24 * a + b) k e) := by
  have hn := (h.2.2.2.2.2.2.1 a b ha hb).1
  rw [hn]
  refine p_wn hb ?_
  obtain ⟨h0, hG, hK, hH, hF, hQ, hN, hL, hC⟩ := h
  obtain ⟨c1, c2, c3⟩ := hL
  unfold ladd
  have hcap : mg_cap 0 = 1024 := rfl
  rw [hcap, c1, if_neg (by omega)]
  refine ⟨?_, hG, hK, hH, hF, hQ, hN, ?_, hC⟩
  · refine sFR_m (sFR_m (sFR_m (sFR_m (sFR_m ?_ (by omega)) (by omega)) (by omega)) (by omega)) (by omega)
    exact sFR_c (sFR_c (sFR_c (sFR_c (sFR_c (sFR_c h0 (by omega)) (by omega)) (by omega)) (by omega)) (by omega)) (by omega)
  · refine ⟨by simp [ue], by simp [ue]; omega, fun i hi => ?_⟩
    simp [ue] at hi
    by_cases c : i = gm 5 0 21
    · subst c; simp [ue]; omega
    · have := c3 i (by omega)
      simp [ue, c]; exact this
theorem p_dc {B : mg_F × mg_F} {gc gm : mg_F} {a : Nat} (ha : a < gm 5 0 26) (h : sA B gc gm) : sA B (lrem gc 1 a) (mdc gm a) := by
  obtain ⟨h0, hG, hK, hH, hF, hQ, hN, hL, hC⟩ := h
  obtain ⟨c1, c2, c3⟩ := hC
  refine ⟨⟨fun k i j hk => ?_, fun k i j hk => ?_⟩, hG, hK, hH, hF, hQ, hN, hL, ?_⟩
  · unfold lrem
    rw [ue, if_neg (by omega), ure, if_neg (by omega), ure, if_neg (by omega), ure, if_neg (by omega), ure, if_neg (by omega), ure, if_neg (by omega)]
    exact h0.1 k i j hk
  · unfold mdc
    rw [if_neg (by omega), if_neg (by omega)]
    exact h0.2 k i j hk
  · refine ⟨by simp [lrem, mdc, ue, c1], by simp [mdc]; omega, fun i hi => ?_⟩
    have hi' : i < gm 5 0 26 - 1 := by simpa [mdc] using hi
    unfold lrem mdc
    simp only [ue, ure, mg_cpy, c1]
    by_cases c : a ≤ i
    · have := c3 (i + 1) (by omega)
      have e1 : a ≤ i ∧ i < a + (gm 5 0 26 - a - 1) := by omega
      have e2 : a + 1 + (i - a) = i + 1 := by omega
      simp [c, hi', e1, e2]; exact this
    · have := c3 i (by omega)
      simp [c]; exact this
theorem p_dl {B : mg_F × mg_F} {gc gm : mg_F} {a : Nat} (ha : a < gm 5 0 21) (h : sA B gc gm) : sA B (lrem gc 0 a) (mdl gm a) := by
  obtain ⟨h0, hG, hK, hH, hF, hQ, hN, hL, hC⟩ := h
  obtain ⟨c1, c2, c3⟩ := hL
  refine ⟨⟨fun k i j hk => ?_, fun k i j hk => ?_⟩, hG, hK, hH, hF, hQ, hN, ?_, hC⟩
  · unfold lrem
    rw [ue, if_neg (by omega), ure, if_neg (by omega), ure, if_neg (by omega), ure, if_neg (by omega), ure, if_neg (by omega), ure, if_neg (by omega)]
    exact h0.1 k i j hk
  · unfold mdl
    rw [if_neg (by omega), if_neg (by omega)]
    exact h0.2 k i j hk
  · refine ⟨by simp [lrem, mdl, ue, c1], by simp [mdl]; omega, fun i hi => ?_⟩
    have hi' : i < gm 5 0 21 - 1 := by simpa [mdl] using hi
    unfold lrem mdl
    simp only [ue, ure, mg_cpy, c1]
    by_cases c : a ≤ i
    · have := c3 (i + 1) (by omega)
      have e1 : a ≤ i ∧ i < a + (gm 5 0 21 - a - 1) := by omega
      have e2 : a + 1 + (i - a) = i + 1 := by omega
      simp [c, hi', e1, e2]; exact this
    · have := c3 i (by omega)
      simp [c]; exact this
theorem p_qfs {B : mg_F × mg_F} {gc gm : mg_F} {s a : Nat} (hs : s < gm 5 0 0) (h : sA B gc gm) : fs (fun i => gc 16 s i == a) (gc 2 s 2) 0 = fs (fun i => gm 47 0 (24 * s + i) == a) (gm 46 0 s) 0 := by
  obtain ⟨q1, _, q3, _⟩ := h.2.2.2.2.2.1 s hs
  rw [q1]
  refine fs_congr (fun i hi => ?_)
  rw [(q3 i hi).1]
theorem q_room {B : mg_F × mg_F} {gc gm : mg_F} {s a : Nat} (hs : s < gm 5 0 0) (ha : a < gm 5 0 0) (h : sA B gc gm) (hf : fs (fun i => gm 47 0 (24 * s + i) == a) (gm 46 0 s) 0 = 4294967294) : gm 46 0 s < 24 := by
  have hn := h.2.1.2.2.2.2.1
  obtain ⟨q1, q2, q3, q4⟩ := h.2.2.2.2.2.1 s hs
  have f1 := fs_spec (fun i => gm 47 0 (24 * s + i) == a) (gm 46 0 s) 0
  have hno : ∀ i, i < gm 46 0 s → gm 47 0 (24 * s + i) ≠ a := by
    rcases f1 with ⟨_, f⟩ | ⟨_, f, _⟩
    · intro i hi; simpa using f i (by omega) (by omega)
    · rw [hf] at f; omega
  have := pigeon 24 (gm 46 0 s + 1) (fun i => if i = gm 46 0 s then a else gm 47 0 (24 * s + i)) (fun i hi => by
    show (if i = gm 46 0 s then a else gm 47 0 (24 * s + i)) < 24
    split
    · omega
    · have := (q3 i (by omega)).2.2.1; omega) (fun i j hi hj e => by
    have e' : (if i = gm 46 0 s then a else gm 47 0 (24 * s + i)) = (if j = gm 46 0 s then a else gm 47 0 (24 * s + j)) := e
    by_cases ci : i = gm 46 0 s <;> by_cases cj : j = gm 46 0 s
    · omega
    · rw [if_pos ci, if_neg cj] at e'; exact absurd e'.symm (hno j (by omega))
    · rw [if_neg ci, if_pos cj] at e'; exact absurd e' (hno i (by omega))
    · rw [if_neg ci, if_neg cj] at e'; exact q4 i j (by omega) (by omega) e')
  omega
theorem p_come {B : mg_F × mg_F} {gc gm : mg_F} {s a b : Nat} (hs : s < gm 5 0 0) (ha : a < gm 5 0 0) (hb : b ≤ 1000) (h : sA B gc gm) : sA B (qadm gc s a b) (mcome gm s a b) := by
  have hr := q_room hs ha h
  have hn := h.2.1.2.2.2.2.1
  unfold qadm mcome
  rw [p_qfs hs h]
  have f1 := fs_spec (fun i => gm 47 0 (24 * s + i) == a) (gm 46 0 s) 0
  obtain ⟨h0, hG, hK, hH, hF, hQ, hN, hL, hC⟩ := h
  obtain ⟨q1, q2, q3, q4⟩ := hQ s hs
  generalize fs (fun i => gm 47 0 (24 * s + i) == a) (gm 46 0 s) 0 = x at *
  by_cases c : x = 4294967294
  · rw [if_pos c, if_pos c]
    have hroom := hr c
    have hno : ∀ i, i < gm 46 0 s → gm 47 0 (24 * s + i) ≠ a := by
      rcases f1 with ⟨_, f⟩ | ⟨_, f, _⟩
      · intro i hi; simpa using f i (by omega) (by omega)
      · omega
    unfold qadd
    rw [q1]
    refine ⟨?_, hG, hK, hH, hF, ?_, hN, hL, hC⟩
    · exact sFR_m (sFR_m (sFR_m (sFR_c (sFR_c (sFR_c h0 (by omega)) (by omega)) (by omega)) (by omega)) (by omega)) (by omega)
    · intro t ht
      have ht' : t < gm 5 0 0 := ht
      obtain ⟨t1, t2, t3, t4⟩ := hQ t ht'
      by_cases ct : t = s
      · subst ct
        refine ⟨by simp [ue], by simp [ue]; omega, fun i hi => ?_, fun i j hi hj => ?_⟩
        · simp [ue] at hi
          by_cases ci : i = gm 46 0 t
          · subst ci; simp [ue]; omega
          · have := t3 i (by omega)
            simp [ue, ci]; exact this
        · simp [ue] at hi hj
          by_cases ci : i = gm 46 0 t <;> by_cases cj : j = gm 46 0 t
          · intro _; omega
          · simp [ue, ci, cj]; intro e; exact absurd e.symm (hno j (by omega))
          · simp [ue, ci, cj]; intro e; exact absurd e (hno i (by omega))
          · simp [ue, ci, cj]; exact q4 i j (by omega) (by omega)
      · have e1 : ∀ i, i < gm 46 0 t → ¬ (24 * t + i = 24 * s + gm 46 0 s) := fun i hi => by omega
        refine ⟨by simp [ue, ct]; exact t1, by simp [ue, ct]; exact t2, fun i hi => ?_, fun i j hi hj => ?_⟩
        · simp [ue, ct] at hi
          have := t3 i hi
          simp [ue, ct, e1 i hi]; exact this
        · simp [ue, ct] at hi hj
          simp [ue, e1 i hi, e1 j hj]; exact t4 i j hi hj
  · rw [if_neg c, if_neg c]
    have hx : x < gm 46 0 s := by omega
    obtain ⟨x1, x2, x3, x4⟩ := q3 x hx
    rw [x2]
    refine ⟨sFR_m (sFR_c h0 (by omega)) (by omega), hG, hK, hH, hF, ?_, hN, hL, hC⟩
    intro t ht
    have ht' : t < gm 5 0 0 := ht
    obtain ⟨t1, t2, t3, t4⟩ := hQ t ht'
    refine ⟨t1, t2, fun i hi => ?_, t4⟩
    have hi' : i < gm 46 0 t := hi
    have := t3 i hi'
    by_cases ct : t = s ∧ i = x
    · obtain ⟨rfl, rfl⟩ := ct
      simp [ue]; omega
    · have e1 : ¬ (24 * t + i = 24 * s + x) := fun q => ct (by omega)
      simp [ue, e1, ct]; exact this
theorem p_lv {B : mg_F × mg_F} {gc gm : mg_F} {s a : Nat} (hs : s < gm 5 0 0) (ha : a < gm 46 0 s) (h : sA B gc gm) : sA B (qsrv gc s a) (mlv gm s a) := by
  obtain ⟨h0, hG, hK, hH, hF, hQ, hN, hL, hC⟩ := h
  obtain ⟨q1, q2, q3, q4⟩ := hQ s hs
  refine ⟨⟨fun k i j hk => ?_, fun k i j hk => ?_⟩, hG, hK, hH, hF, ?_, hN, hL, hC⟩
  · unfold qsrv
    rw [if_neg (by omega), if_neg (by omega), if_neg (by omega)]
    exact h0.1 k i j hk
  · unfold mlv
    rw [if_neg (by omega), if_neg (by omega), if_neg (by omega)]
    exact h0.2 k i j hk
  · intro t ht
    have ht' : t < gm 5 0 0 := ht
    obtain ⟨t1, t2, t3, t4⟩ := hQ t ht'
    by_cases ct : t = s
    · subst ct
      have e0 : mlv gm t a 46 0 t = gm 46 0 t - 1 := by simp [mlv]
      have e47 : ∀ i, i < gm 46 0 t - 1 → mlv gm t a 47 0 (24 * t + i) = if a ≤ i then gm 47 0 (24 * t + (i + 1)) else gm 47 0 (24 * t + i) := fun i hi => by
        unfold mlv
        by_cases ca : a ≤ i
        · simp [ca, hi]; rfl
        · simp [ca]
      have e48 : ∀ i, i < gm 46 0 t - 1 → mlv gm t a 48 0 (24 * t + i) = min ((if a ≤ i then gm 48 0 (24 * t + (i + 1)) else gm 48 0 (24 * t + i)) + 1) 1000 := fun i hi => by
        unfold mlv
        by_cases ca : a ≤ i
        · simp [ca, hi]; rfl
        · simp [ca, hi]
      have e16 : ∀ i, i < gm 46 0 t - 1 → qsrv gc t a 16 t i = if a ≤ i then gc 16 t (i + 1) else gc 16 t i := fun i hi => by
        unfold qsrv mg_cpy
        rw [t1]
        by_cases ca : a ≤ i
        · have e1 : a ≤ i ∧ i < a + (gm 46 0 t - a - 1) := by omega
          have e2 : a + 1 + (i - a) = i + 1 := by omega
          simp [ca, e1, e2]
        · simp [ca]
      have e17 : ∀ i, i < gm 46 0 t - 1 → qsrv gc t a 17 t i = min ((if a ≤ i then gc 17 t (i + 1) else gc 17 t i) + 1) 1000 := fun i hi => by
        unfold qsrv mg_cpy
        rw [t1]
        by_cases ca : a ≤ i
        · have e1 : a ≤ i ∧ i < a + (gm 46 0 t - a - 1) := by omega
          have e2 : a + 1 + (i - a) = i + 1 := by omega
          simp [ca, e1, e2, hi]
        · simp [ca, hi]
      refine ⟨by rw [e0]; simp [qsrv, t1], by rw [e0]; omega, fun i hi => ?_, fun i j hi hj => ?_⟩
      · rw [e0] at hi
        rw [e16 i hi, e17 i hi, e47 i hi, e48 i hi]
        show _ ∧ _ ∧ _ < gm 5 0 0 ∧ _
        by_cases ca : a ≤ i
        · obtain ⟨u1, u2, u3, u4⟩ := t3 (i + 1) (by omega)
          rw [if_pos ca, if_pos ca, if_pos ca, if_pos ca, u1, u2]
          exact ⟨rfl, rfl, u3, by omega⟩
        · obtain ⟨u1, u2, u3, u4⟩ := t3 i (by omega)
          rw [if_neg ca, if_neg ca, if_neg ca, if_neg ca, u1, u2]
          exact ⟨rfl, rfl, u3, by omega⟩
      · rw [e0] at hi hj
        rw [e47 i hi, e47 j hj]
        intro e
        by_cases ci : a ≤ i <;> by_cases cj : a ≤ j
        · rw [if_pos ci, if_pos cj] at e; have := t4 _ _ (by omega) (by omega) e; omega
        · rw [if_pos ci, if_neg cj] at e; have := t4 _ _ (by omega) (by omega) e; omega
        · rw [if_neg ci, if_pos cj] at e; have := t4 _ _ (by omega) (by omega) e; omega
        · rw [if_neg ci, if_neg cj] at e; have := t4 _ _ (by omega) (by omega) e; omega
    · have e46 : mlv gm s a 46 0 t = gm 46 0 t := by simp [mlv, ct]
      have e47 : ∀ i, i < gm 46 0 t → mlv gm s a 47 0 (24 * t + i) = gm 47 0 (24 * t + i) := fun i hi => by
        unfold mlv; rw [if_neg (by omega), if_neg (by omega), if_neg (by omega)]
      have e48 : ∀ i, i < gm 46 0 t → mlv gm s a 48 0 (24 * t + i) = gm 48 0 (24 * t + i) := fun i hi => by
        unfold mlv; rw [if_neg (by omega), if_neg (by omega), if_neg (by omega)]
      have e2 : ∀ k j, (k = 2 ∨ k = 16 ∨ k = 17) → qsrv gc s a k t j = gc k t j := fun k j _ => by
        unfold qsrv; rw [if_neg (fun q => ct q.2.1), if_neg (fun q => ct q.2), if_neg (fun q => ct q.2)]
      refine ⟨by rw [e2 _ _ (by omega), e46]; exact t1, by rw [e46]; exact t2, fun i hi => ?_, fun i j hi hj => ?_⟩
      · rw [e46] at hi
        rw [e2 _ _ (by omega), e2 _ _ (by omega), e47 i hi, e48 i hi]
        exact t3 i hi
      · rw [e46] at hi hj
        rw [e47 i hi, e47 j hj]
        exact t4 i j hi hj
