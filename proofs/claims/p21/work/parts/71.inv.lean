/-! ===== what the reference's numbers keep while open ===== -/
def bk (w : Nat) : Nat := 24 * (w % 24) + w / 24
def unt (gm : mg_F) (k : Nat) : Prop := gm 53 0 k = 1 ∧ gm 50 0 (gm 52 0 k) ≤ gm 55 0 k
def IQ (gm : mg_F) : Prop := ∀ s i, s < gm 5 0 0 → i < gm 46 0 s → gm 47 0 (24 * s + i) = s ∨ gm 35 0 (24 * s + gm 47 0 (24 * s + i)) = 1
def IP (gm : mg_F) : Prop := ∀ s, s < gm 5 0 0 → gm 36 0 s = 4294967294 ∨ gm 36 0 s = s ∨ (gm 36 0 s < 24 ∧ gm 35 0 (24 * s + gm 36 0 s) = 1)
def IM (gm : mg_F) : Prop := ∀ s, s < gm 5 0 0 → gm 38 0 s = 1 → gm 36 0 s = s
def IL (gm : mg_F) : Prop := ∀ k, k < gm 5 0 21 → gm 52 0 k < 576 ∧ gm 35 0 (gm 52 0 k) = 1 ∧ gm 53 0 k < 2
def INu (N : Nat) (lo : Nat → Nat) (gm : mg_F) : Prop := ∀ w, w < 576 → lo w ≤ gm 50 0 w ∧ gm 50 0 w ≤ lo w + 1 ∧ gm 50 0 w ≤ gm 49 0 w ∧ gm 49 0 w ≤ N ∧ ∀ x, (lo w ≤ x ∧ x < gm 49 0 w) ↔ ∃ k, k < gm 5 0 21 ∧ gm 52 0 k = w ∧ gm 55 0 k = x
def IO (gm : mg_F) : Prop := ∀ i j, i < j → j < gm 5 0 21 → gm 52 0 i = gm 52 0 j → gm 55 0 i < gm 55 0 j
def CP (lo : Nat → Nat) (gm : mg_F) (w kd num : Nat) : Prop := gm 35 0 w = 1 ∧ (kd = 2 → num < gm 50 0 (bk w)) ∧ (kd ≠ 2 → num ≤ lo w ∧ (num = gm 50 0 w → ∃ l, l < gm 5 0 21 ∧ gm 52 0 l = w ∧ gm 55 0 l = num ∧ gm 53 0 l = kd))
def IC (lo : Nat → Nat) (gm : mg_F) : Prop := ∀ k, k < gm 5 0 26 → gm 57 0 k < 576 ∧ CP lo gm (gm 57 0 k) (gm 58 0 k) (gm 60 0 k)
def IR (gm : mg_F) : Prop := ∃ (s : Nat) (d : Nat → Nat), s < gm 5 0 0 ∧ (∀ x, x < gm 5 0 0 → gm 36 0 x ≠ 4294967294 → x ≠ s → d (gm 36 0 x) < d x) ∧ ((gm 36 0 s = s ∧ ∀ k, k < gm 5 0 21 → ¬ unt gm k) ∨ (gm 36 0 s ≠ s ∧ gm 36 0 s < 24 ∧ ∃ k, k < gm 5 0 21 ∧ unt gm k ∧ gm 52 0 k = 24 * s + gm 36 0 s ∧ ∀ k', k' < gm 5 0 21 → unt gm k' → k' = k))
def IV (N : Nat) (lo : Nat → Nat) (gm : mg_F) : Prop := (gm 5 0 21 ≤ N ∧ ∀ s, s < gm 5 0 0 → gm 40 0 s ≤ N) ∧ IQ gm ∧ IP gm ∧ IM gm ∧ IL gm ∧ INu N lo gm ∧ IO gm ∧ IC lo gm ∧ IR gm
theorem IV_mono {N N' : Nat} {lo : Nat → Nat} {gm : mg_F} (h : IV N lo gm) (hN : N ≤ N') : IV N' lo gm := by
  obtain ⟨h0, hQ, hP, hM, hL, hN2, hO, hC, hR⟩ := h
  refine ⟨⟨by omega, fun s hs => Nat.le_trans (h0.2 s hs) hN⟩, hQ, hP, hM, hL, fun w hw => ?_, hO, hC, hR⟩
  obtain ⟨a1, a2, a3, a4, a5⟩ := hN2 w hw
  exact ⟨a1, a2, a3, by omega, a5⟩
theorem IV_dc {N a : Nat} {lo : Nat → Nat} {gm : mg_F} (ha : a < gm 5 0 26) (h : IV N lo gm) : IV N lo (mdc gm a) := by
  obtain ⟨h0, hQ, hP, hM, hL, hN, hO, hC, hR⟩ := h
  refine ⟨h0, hQ, hP, hM, hL, hN, hO, ?_, hR⟩
  intro k hk
  have hk' : k < gm 5 0 26 - 1 := by simpa [mdc] using hk
  have e : ∀ κ, (κ = 57 ∨ κ = 58 ∨ κ = 59 ∨ κ = 60) → mdc gm a κ 0 k = gm κ 0 (if a ≤ k then k + 1 else k) := by
    intro κ hκ
    unfold mdc
    rw [if_neg (by omega)]
    by_cases c : a ≤ k
    · rw [if_pos ⟨hκ, rfl, c, hk'⟩, if_pos c]
    · rw [if_neg (by omega), if_neg c]
  rw [e 57 (by omega), e 58 (by omega), e 60 (by omega)]
  exact hC (if a ≤ k then k + 1 else k) (by split <;> omega)
theorem IV_send {N w kd rk num : Nat} {lo : Nat → Nat} {gm : mg_F} (hw : w < 576) (hc : CP lo gm w kd num) (h : IV N lo gm) : IV N lo (msend gm w kd rk num) := by
  have h' := h
  obtain ⟨h0, hQ, hP, hM, hL, hN, hO, hC, hR⟩ := h
  unfold msend
  by_cases hz : gm 5 0 26 = 60
  · rw [if_pos hz]; exact h'
  · rw [if_neg hz]
    refine ⟨h0, hQ, hP, hM, hL, hN, hO, ?_, hR⟩
    intro k hk
    have hk' : k < gm 5 0 26 + 1 := by simpa [ue] using hk
    by_cases c : k = gm 5 0 26
    · subst c
      simp only [ue]
      simp
      exact ⟨hw, hc⟩
    · have := hC k (by omega)
      simp only [ue]
      simp [c]
      exact this
/-- the first letter of a way bears the least number -/
theorem first_lo {N w x : Nat} {lo : Nat → Nat} {gm : mg_F} (hN : INu N lo gm) (hO : IO gm) (hw : w < 576) (hx : x < gm 5 0 21) (hxw : gm 52 0 x = w) (hf : ∀ i, i < x → gm 52 0 i ≠ w) : gm 55 0 x = lo w := by
  obtain ⟨a1, a2, a3, a4, a5⟩ := hN w hw
  have b := (a5 (gm 55 0 x)).mpr ⟨x, hx, hxw, rfl⟩
  obtain ⟨k, k1, k2, k3⟩ := (a5 (lo w)).mp ⟨Nat.le_refl _, by omega⟩
  by_cases c : k < x
  · exact absurd k2 (hf k c)
  · by_cases c2 : x < k
    · have := hO x k c2 k1 (by rw [hxw, k2]); omega
    · have : k = x := by omega
      rw [← this]; exact k3
theorem IV_sf {N w : Nat} {lo : Nat → Nat} {gm : mg_F} (hw : w < 576) (h : IV N lo gm) : IV N lo (msf gm w) := by
  have h' := h
  obtain ⟨h0, hQ, hP, hM, hL, hN, hO, hC, hR⟩ := h
  unfold msf
  have f1 := fs_spec (fun i => gm 52 0 i == w) (gm 5 0 21) 0
  generalize fs (fun i => gm 52 0 i == w) (gm 5 0 21) 0 = x at *
  by_cases c : x = 4294967294
  · rw [if_pos c]; exact h'
  · rw [if_neg c]
    rcases f1 with ⟨f, _⟩ | ⟨_, f2, f3, f4⟩
    · exact absurd f c
    · have hx : x < gm 5 0 21 := by omega
      have hxw : gm 52 0 x = w := by simpa using f3
      have hlo := first_lo hN hO hw hx hxw (fun i hi => by simpa using f4 i (by omega) hi)
      obtain ⟨l1, l2, l3⟩ := hL x hx
      obtain ⟨a1, a2, a3, a4, a5⟩ := hN w hw
      refine IV_send hw ⟨by rw [← hxw]; exact l2, fun q => by omega, fun _ => ⟨by omega, fun _ => ⟨x, hx, hxw, rfl, rfl⟩⟩⟩ h'
theorem IV_lv {N s a : Nat} {lo : Nat → Nat} {gm : mg_F} (hn : gm 5 0 0 < 25) (hq : ∀ t, t < gm 5 0 0 → gm 46 0 t ≤ 24) (hs : s < gm 5 0 0) (ha : a < gm 46 0 s) (h : IV N lo gm) : IV N lo (mlv gm s a) := by
  obtain ⟨h0, hQ, hP, hM, hL, hN, hO, hC, hR⟩ := h
  refine ⟨h0, ?_, hP, hM, hL, hN, hO, hC, hR⟩
  intro t i ht hi
  have ht' : t < gm 5 0 0 := ht
  show mlv gm s a 47 0 (24 * t + i) = t ∨ gm 35 0 (24 * t + mlv gm s a 47 0 (24 * t + i)) = 1
  by_cases c : t = s
  · subst c
    have hi' : i < gm 46 0 t - 1 := by simpa [mlv] using hi
    have e : mlv gm t a 47 0 (24 * t + i) = gm 47 0 (24 * t + (if a ≤ i then i + 1 else i)) := by
      unfold mlv
      by_cases ca : a ≤ i
      · simp [ca, hi']; rfl
      · simp [ca]
    rw [e]
    exact hQ t _ ht' (by split <;> omega)
  · have hi' : i < gm 46 0 t := by simpa [mlv, c] using hi
    have e : mlv gm s a 47 0 (24 * t + i) = gm 47 0 (24 * t + i) := by
      have := hq t ht'
      have := hq s hs
      unfold mlv
      rw [if_neg (by omega), if_neg (by omega), if_neg (by omega)]
    rw [e]
    exact hQ t i ht' hi'
theorem IV_come {N s a b : Nat} {lo : Nat → Nat} {gm : mg_F} (hn : gm 5 0 0 < 25) (hq : ∀ t, t < gm 5 0 0 → gm 46 0 t ≤ 24) (hs : s < gm 5 0 0) (ha : a = s ∨ gm 35 0 (24 * s + a) = 1) (hr : fs (fun i => gm 47 0 (24 * s + i) == a) (gm 46 0 s) 0 = 4294967294 → gm 46 0 s < 24) (h : IV N lo gm) : IV N lo (mcome gm s a b) := by
  have h' := h
  obtain ⟨h0, hQ, hP, hM, hL, hN, hO, hC, hR⟩ := h
  unfold mcome
  by_cases c : fs (fun i => gm 47 0 (24 * s + i) == a) (gm 46 0 s) 0 = 4294967294
  · have hroom := hr c
    rw [if_pos c]
    refine ⟨h0, ?_, hP, hM, hL, hN, hO, hC, hR⟩
    intro t i ht hi
    have ht' : t < gm 5 0 0 := ht
    by_cases ct : t = s
    · subst ct
      have hi' : i < gm 46 0 t + 1 := by simpa [ue] using hi
      by_cases ci : i = gm 46 0 t
      · subst ci; simp [ue]; exact ha
      · simp [ue, ci]; exact hQ t i ht' (by omega)
    · have hi' : i < gm 46 0 t := by simpa [ue, ct] using hi
      have := hq t ht'
      have e1 : ¬ (24 * t + i = 24 * s + gm 46 0 s) := by omega
      simp [ue, e1]; exact hQ t i ht' hi'
  · rw [if_neg c]
    exact ⟨h0, hQ, hP, hM, hL, hN, hO, hC, hR⟩
theorem mlet_52 {w b c : Nat} {gm : mg_F} (κ k v : Nat) (hκ : κ = 52 ∨ κ = 53 ∨ κ = 54 ∨ κ = 55) (hk : k < gm 5 0 21) : mlet gm w b c κ 0 k = gm κ 0 k := by
  unfold mlet
  simp only [ue]
  rw [if_neg (by omega), if_neg (by omega), if_neg (by omega), if_neg (by omega), if_neg (by omega), if_neg (by omega)]
/-- a letter more, numbers alone -/
theorem INu_let {N w b c : Nat} {lo : Nat → Nat} {gm : mg_F} (hw : w < 576) (h : INu N lo gm) : INu (N + 1) lo (mlet gm w b c) := by
  have hN := h
  intro w' hw'
  obtain ⟨a1, a2, a3, a4, a5⟩ := hN w' hw'
  have e50 : mlet gm w b c 50 0 w' = gm 50 0 w' := by simp [mlet, ue]
  have e49 : mlet gm w b c 49 0 w' = if w' = w then gm 49 0 w + 1 else gm 49 0 w' := by simp [mlet, ue]
  have e21 : mlet gm w b c 5 0 21 = gm 5 0 21 + 1 := by simp [mlet, ue]
  have n52 : mlet gm w b c 52 0 (gm 5 0 21) = w := by simp [mlet, ue]
  have n55 : mlet gm w b c 55 0 (gm 5 0 21) = gm 49 0 w := by simp [mlet, ue]
  rw [e50, e49, e21]
  refine ⟨a1, a2, ?_, ?_, fun x => ?_⟩
  · by_cases cw : w' = w
    · rw [if_pos cw]; subst cw; omega
    · rw [if_neg cw]; exact a3
  · by_cases cw : w' = w
    · rw [if_pos cw]; subst cw; omega
    · rw [if_neg cw]; omega
  · constructor
    · intro hx
      by_cases cw : w' = w ∧ x = gm 49 0 w
      · exact ⟨gm 5 0 21, by omega, by rw [n52, cw.1], by rw [n55, cw.2]⟩
      · have hx2 : lo w' ≤ x ∧ x < gm 49 0 w' := by
          by_cases c2 : w' = w
          · rw [if_pos c2] at hx; subst c2; omega
          · rw [if_neg c2] at hx; exact hx
        obtain ⟨k, k1, k2, k3⟩ := (a5 x).mp hx2
        exact ⟨k, by omega, by rw [mlet_52 52 k 0 (by omega) k1]; exact k2, by rw [mlet_52 55 k 0 (by omega) k1]; exact k3⟩
    · intro ⟨k, k1, k2, k3⟩
      by_cases ck : k = gm 5 0 21
      · subst ck
        rw [n52] at k2
        rw [n55] at k3
        subst k2
        rw [if_pos rfl]
        omega
      · rw [mlet_52 52 k 0 (by omega) (by omega)] at k2
        rw [mlet_52 55 k 0 (by omega) (by omega)] at k3
        have := (a5 x).mpr ⟨k, by omega, k2, k3⟩
        by_cases c2 : w' = w
        · rw [if_pos c2]; subst c2; omega
        · rw [if_neg c2]; exact this
theorem IO_let {N w b c : Nat} {lo : Nat → Nat} {gm : mg_F} (hw : w < 576) (h : INu N lo gm) (hO : IO gm) : IO (mlet gm w b c) := by
  have hN := h
  intro i j hij hj e
  have e21 : mlet gm w b c 5 0 21 = gm 5 0 21 + 1 := by simp [mlet, ue]
  have n52 : mlet gm w b c 52 0 (gm 5 0 21) = w := by simp [mlet, ue]
  have n55 : mlet gm w b c 55 0 (gm 5 0 21) = gm 49 0 w := by simp [mlet, ue]
  rw [e21] at hj
  rw [mlet_52 52 i 0 (by omega) (by omega)] at e
  rw [mlet_52 55 i 0 (by omega) (by omega)]
  by_cases cj : j = gm 5 0 21
  · subst cj
    rw [n52] at e
    rw [n55]
    have := ((hN w hw).2.2.2.2 (gm 55 0 i)).mpr ⟨i, by omega, e, rfl⟩
    omega
  · rw [mlet_52 52 j 0 (by omega) (by omega)] at e
    rw [mlet_52 55 j 0 (by omega) (by omega)]
    exact hO i j hij (by omega) e
theorem IC_let {w b c : Nat} {lo : Nat → Nat} {gm : mg_F} (hC : IC lo gm) : IC lo (mlet gm w b c) := by
  have e21 : mlet gm w b c 5 0 21 = gm 5 0 21 + 1 := by simp [mlet, ue]
  intro k hk
  obtain ⟨c0, c1, c2, c3⟩ := hC k hk
  refine ⟨c0, c1, c2, fun q => ⟨(c3 q).1, fun q2 => ?_⟩⟩
  obtain ⟨l, l1, l2, l3, l4⟩ := (c3 q).2 q2
  exact ⟨l, by rw [e21]; omega, by rw [mlet_52 52 l 0 (by omega) l1]; exact l2, by rw [mlet_52 55 l 0 (by omega) l1]; exact l3, by rw [mlet_52 53 l 0 (by omega) l1]; exact l4⟩
theorem IL_let {w b c : Nat} {gm : mg_F} (hw : w < 576) (hl : gm 35 0 w = 1) (hb : b < 2) (hL : IL gm) : IL (mlet gm w b c) := by
  have e21 : mlet gm w b c 5 0 21 = gm 5 0 21 + 1 := by simp [mlet, ue]
  have n52 : mlet gm w b c 52 0 (gm 5 0 21) = w := by simp [mlet, ue]
  have n53 : mlet gm w b c 53 0 (gm 5 0 21) = b := by simp [mlet, ue]
  intro k hk
  rw [e21] at hk
  by_cases ck : k = gm 5 0 21
  · subst ck; rw [n52, n53]; exact ⟨hw, hl, hb⟩
  · rw [mlet_52 52 k 0 (by omega) (by omega), mlet_52 53 k 0 (by omega) (by omega)]
    exact hL k (by omega)
theorem unt_let {w b c k : Nat} {gm : mg_F} (hk : k < gm 5 0 21) : unt (mlet gm w b c) k ↔ unt gm k := by
  unfold unt
  rw [mlet_52 52 k 0 (by omega) hk, mlet_52 53 k 0 (by omega) hk, mlet_52 55 k 0 (by omega) hk]
  have e50 : mlet gm w b c 50 0 (gm 52 0 k) = gm 50 0 (gm 52 0 k) := by simp [mlet, ue]
  rw [e50]
theorem IV_let {N w c : Nat} {lo : Nat → Nat} {gm : mg_F} (hw : w < 576) (hl : gm 35 0 w = 1) (h : IV N lo gm) : IV (N + 1) lo (mlet gm w 0 c) := by
  obtain ⟨h0, hQ, hP, hM, hL, hN, hO, hC, hR⟩ := h
  have e21 : mlet gm w 0 c 5 0 21 = gm 5 0 21 + 1 := by simp [mlet, ue]
  have n53 : mlet gm w 0 c 53 0 (gm 5 0 21) = 0 := by simp [mlet, ue]
  have nu : ¬ unt (mlet gm w 0 c) (gm 5 0 21) := fun q => by have := q.1; rw [n53] at this; cases this
  refine ⟨⟨by rw [e21]; omega, fun s hs => Nat.le_trans (h0.2 s hs) (by omega)⟩, hQ, hP, hM, IL_let hw hl (by omega) hL, INu_let hw hN, IO_let hw hN hO, IC_let hC, ?_⟩
  obtain ⟨s, d, r1, r2, r3⟩ := hR
  refine ⟨s, d, r1, r2, ?_⟩
  rcases r3 with ⟨q1, q2⟩ | ⟨q1, q2, k, q3, q4, q5, q6⟩
  · left; refine ⟨q1, fun k hk => ?_⟩
    rw [e21] at hk
    by_cases ck : k = gm 5 0 21
    · rw [ck]; exact nu
    · rw [unt_let (by omega)]; exact q2 k (by omega)
  · right; refine ⟨q1, q2, k, by rw [e21]; omega, (unt_let q3).mpr q4, by rw [mlet_52 52 k 0 (by omega) q3]; exact q5, fun k' hk' hu => ?_⟩
    rw [e21] at hk'
    by_cases ck : k' = gm 5 0 21
    · rw [ck] at hu; exact absurd hu nu
    · exact q6 k' (by omega) ((unt_let (by omega)).mp hu)
/-- the right goes out -/
theorem IV_pass {N s t : Nat} {lo : Nat → Nat} {gm : mg_F} (hn : gm 5 0 0 < 25) (hs : s < gm 5 0 0) (ht : t < 24) (hst : t ≠ s) (hl : gm 35 0 (24 * s + t) = 1) (hp : gm 36 0 s = s) (hpm : gm 38 0 s ≠ 1) (h : IV N lo gm) : IV (N + 1) lo (mlet (mg_up gm 36 0 s t) (24 * s + t) 1 0) := by
  obtain ⟨h0, hQ, hP, hM, hL, hN, hO, hC, hR⟩ := h
  have hw : 24 * s + t < 576 := by omega
  have f : ∀ k i j, ¬ k = 36 → mg_up gm 36 0 s t k i j = gm k i j := fun k i j hk => by rw [ue, if_neg (fun q => hk q.1)]
  have u : ∀ k, unt (mg_up gm 36 0 s t) k ↔ unt gm k := fun k => Iff.rfl
  have hN' : INu N lo (mg_up gm 36 0 s t) := hN
  have hO' : IO (mg_up gm 36 0 s t) := hO
  have hC' : IC lo (mg_up gm 36 0 s t) := hC
  have hL' : IL (mg_up gm 36 0 s t) := hL
  have e21 : mlet (mg_up gm 36 0 s t) (24 * s + t) 1 0 5 0 21 = gm 5 0 21 + 1 := by simp [mlet, ue]
  have e36 : ∀ x, mlet (mg_up gm 36 0 s t) (24 * s + t) 1 0 36 0 x = if x = s then t else gm 36 0 x := fun x => by simp [mlet, ue]
  have n52 : mlet (mg_up gm 36 0 s t) (24 * s + t) 1 0 52 0 (gm 5 0 21) = 24 * s + t := by simp [mlet, ue]
  have n53 : mlet (mg_up gm 36 0 s t) (24 * s + t) 1 0 53 0 (gm 5 0 21) = 1 := by simp [mlet, ue]
  have n55 : mlet (mg_up gm 36 0 s t) (24 * s + t) 1 0 55 0 (gm 5 0 21) = gm 49 0 (24 * s + t) := by simp [mlet, ue]
  have e50 : mlet (mg_up gm 36 0 s t) (24 * s + t) 1 0 50 0 (24 * s + t) = gm 50 0 (24 * s + t) := by simp [mlet, ue]
  refine ⟨⟨by rw [e21]; omega, fun x hx => Nat.le_trans (h0.2 x hx) (by omega)⟩, hQ, fun x hx => ?_, fun x hx hpx => ?_, IL_let hw hl (by omega) hL', INu_let hw hN', IO_let hw hN' hO', IC_let hC', ?_⟩
  · have hx' : x < gm 5 0 0 := hx
    rw [e36]
    by_cases c : x = s
    · rw [if_pos c, c]; right; right; exact ⟨ht, hl⟩
    · rw [if_neg c]; exact hP x hx'
  · have hx' : x < gm 5 0 0 := hx
    have hpx' : gm 38 0 x = 1 := hpx
    rw [e36]
    by_cases c : x = s
    · rw [c] at hpx'; exact absurd hpx' hpm
    · rw [if_neg c]; exact hM x hx' hpx'
  · obtain ⟨s', d, r1, r2, r3⟩ := hR
    have hss : s' = s := by
      apply Classical.byContradiction
      intro hne
      have := r2 s hs (by omega) (fun q => hne q.symm)
      rw [hp] at this; omega
    subst hss
    rcases r3 with ⟨q1, q2⟩ | ⟨q1, _⟩
    · refine ⟨s', d, r1, fun x hx hx2 hx3 => ?_, Or.inr ⟨?_, ?_, gm 5 0 21, by rw [e21]; omega, ⟨n53, ?_⟩, ?_, fun k' hk' hu => ?_⟩⟩
      · have hx' : x < gm 5 0 0 := hx
        rw [e36, if_neg hx3] at hx2 ⊢
        exact r2 x hx' hx2 hx3
      · rw [e36, if_pos rfl]; exact hst
      · rw [e36, if_pos rfl]; exact ht
      · rw [n52, n55, e50]
        exact (hN _ hw).2.2.1
      · rw [n52, e36, if_pos rfl]
      · rw [e21] at hk'
        apply Classical.byContradiction
        intro hne
        have : unt (mg_up gm 36 0 s' t) k' := (unt_let (gm := mg_up gm 36 0 s' t) (by rw [f 5 0 21 (by omega)]; omega)).mp hu
        exact q2 k' (by omega) ((u k').mp this)
    · exact absurd hp q1
