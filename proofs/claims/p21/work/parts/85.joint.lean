/-! ===== one state for both, the start ===== -/
theorem TT_re {B : mg_F × mg_F} {N : Nat} {gc gm gc' gm' : mg_F} (h : TT B N gc gm) (h1 : ∀ k i j, ¬ (k = 5 ∨ 30 ≤ k) → gc' k i j = gc k i j) (h2 : ∀ k i j, (k = 5 ∨ 30 ≤ k) → gm' k i j = gm k i j) : TT (gc', gm') N gc' gm' := by
  obtain ⟨t1, t2, t3, t4, t5⟩ := h
  have fr : sFR (gc', gm') gc' gm' := ⟨fun _ _ _ _ => rfl, fun _ _ _ _ => rfl⟩
  have uG : sG gc' gm' := by simpa [sG, h1, h2] using t2
  have uK : sK gc' gm' := by simpa [sK, h1, h2] using t3
  have hAJ : AJ gm' = AJ gm := by funext a b; unfold AJ; rw [h2 35 0 _ (by omega)]
  refine ⟨fr, uG, uK, fun q => ?_, fun q => ?_⟩
  · rw [h2 5 0 1 (by omega)] at q
    obtain ⟨⟨a0, aG, aK, aH, aF, aQ, aN, aL, aC⟩, lo, hI⟩ := t4 q
    refine ⟨⟨fr, uG, uK, ?_, ?_, ?_, ?_, ?_, ?_⟩, lo, ?_⟩
    · simpa [sH, h1, h2] using aH
    · simpa [sF, h1, h2] using aF
    · simpa [sQ, h1, h2] using aQ
    · simpa [sN, h1, h2] using aN
    · simpa [sL, h1, h2] using aL
    · simpa [sC, h1, h2] using aC
    · simpa [IV, IQ, IP, IM, IL, INu, IO, IC, CP, IR, unt, h2] using hI
  · rw [h2 5 0 1 (by omega)] at q
    have := t5 q
    unfold BLD at this ⊢
    rw [hAJ, h2 5 0 0 (by omega), h2 5 0 4 (by omega), h1 0 0 2 (by omega)]
    exact this
theorem JSN {P4 P5 : mg_F → mo} {g : mg_F} {N : Nat} (hs : ∀ B gc gm, TT B N gc gm → SN B (N + 2) (P4 gc) (P5 gm)) (h : TT (g, g) N g g) : ∃ r1 g1 r2 g2, P4 g = some (r1, g1) ∧ P5 g1 = some (r2, g2) ∧ TT (g2, g2) (N + 2) g2 g2 := by
  obtain ⟨r1, g1, _, gx, e1, _, t1⟩ := hs (g, g) g g h
  have a1 : ∀ k i j, (k = 5 ∨ 30 ≤ k) → g1 k i j = g k i j := t1.1.1
  have h2 := TT_re (gc' := g) (gm' := g1) h (fun _ _ _ _ => rfl) a1
  obtain ⟨r1', g1', r2, g2, e1', e2, t2⟩ := hs (g, g1) g g1 h2
  rw [e1] at e1'
  cases e1'
  have a2 : ∀ k i j, ¬ (k = 5 ∨ 30 ≤ k) → g2 k i j = g1 k i j := t2.1.2
  exact ⟨r1, g1, r2, g2, e1, e2, TT_re (gc' := g2) (gm' := g2) t2 a2 (fun _ _ _ _ => rfl)⟩
theorem JSM {P4 P5 : mg_F → mo} {g : mg_F} {N : Nat} (hs : ∀ B gc gm, TT B N gc gm → SM B (N + 2) (P4 gc) (P5 gm)) (h : TT (g, g) N g g) : ∃ r1 g1 r2 g2, P4 g = some (r1, g1) ∧ P5 g1 = some (r2, g2) ∧ sv r1 = sv r2 ∧ TT (g2, g2) (N + 2) g2 g2 := by
  obtain ⟨r1, g1, _, gx, e1, _, _, t1⟩ := hs (g, g) g g h
  have a1 : ∀ k i j, (k = 5 ∨ 30 ≤ k) → g1 k i j = g k i j := t1.1.1
  have h2 := TT_re (gc' := g) (gm' := g1) h (fun _ _ _ _ => rfl) a1
  obtain ⟨r1', g1', r2, g2, e1', e2, hr, t2⟩ := hs (g, g1) g g1 h2
  rw [e1] at e1'
  cases e1'
  have a2 : ∀ k i j, ¬ (k = 5 ∨ 30 ≤ k) → g2 k i j = g1 k i j := t2.1.2
  exact ⟨r1, g1, r2, g2, e1, e2, hr, TT_re (gc' := g2) (gm' := g2) t2 a2 (fun _ _ _ _ => rfl)⟩
theorem st_35 : ∀ a, a < 24 → ∀ b, b < 24 → qms6 35 0 (24 * a + b) = if (qms6 10 0 a).testBit b = true then 1 else 0 := by decide +kernel
theorem st_10 : ∀ a, a < 24 → qms6 10 0 a < 16777216 := by decide +kernel
theorem st_sy : ∀ a, a < 24 → ∀ b, b < 24 → qms6 35 0 (24 * a + b) = 1 → qms6 35 0 (24 * b + a) = 1 ∧ a ≠ b ∧ a < 2 ∧ b < 2 := by decide +kernel
theorem st_nn : ∀ a, a < 24 → ∀ b, b < 24 → qms6 21 a b = qms6 49 0 (24 * a + b) ∧ qms6 22 a b = qms6 50 0 (24 * a + b) := by decide +kernel
theorem st_49 : ∀ w, w < 576 → qms6 49 0 w = 0 ∧ qms6 50 0 w = 0 := by decide +kernel
theorem st_f : ∀ s, s < 2 → qms6 3 s 2 = qms6 36 0 s ∧ qms6 3 s 3 = qms6 37 0 s ∧ qms6 3 s 4 = qms6 41 0 s ∧ qms6 3 s 5 = qms6 38 0 s ∧ qms6 3 s 6 = qms6 39 0 s ∧ qms6 3 s 7 = qms6 40 0 s ∧ qms6 3 s 8 = qms6 42 0 s ∧ qms6 3 s 11 = qms6 44 0 s ∧ (qms6 36 0 s < 2 ∨ qms6 36 0 s = 4294967294) ∧ qms6 37 0 s < 2 ∧ qms6 38 0 s < 2 ∧ qms6 39 0 s < 2 ∧ qms6 41 0 s ≤ 1000 := by decide +kernel
theorem st_q : ∀ s, s < 2 → qms6 2 s 2 = 0 ∧ qms6 46 0 s = 0 ∧ qms6 38 0 s = 0 ∧ qms6 40 0 s = 0 ∧ qms6 36 0 s = 0 := by decide +kernel
theorem st_g : qms6 4 0 6 = 1 ∧ qms6 5 0 1 = 1 ∧ qms6 0 0 1 = 2 ∧ qms6 5 0 0 = 2 ∧ qms6 0 0 2 = qms6 5 0 4 ∧ qms6 4 0 7 = qms6 5 0 2 ∧ qms6 4 0 8 = qms6 5 0 3 ∧ qms6 4 0 9 = qms6 5 0 15 ∧ qms6 5 0 2 < 3 ∧ qms6 5 0 3 < 5 ∧ qms6 1 0 5 = 0 ∧ qms6 5 0 21 = 0 ∧ qms6 1 1 5 = 0 ∧ qms6 5 0 26 = 0 ∧ qms6 35 0 24 = 1 := by decide +kernel
theorem TT_start : TT (qms6, qms6) 0 qms6 qms6 := by
  obtain ⟨a1, a2, a3, a4, a5, a6, a7, a8, a9, a10, a11, a12, a13, a14, a15⟩ := st_g
  have fr : sFR (qms6, qms6) qms6 qms6 := ⟨fun _ _ _ _ => rfl, fun _ _ _ _ => rfl⟩
  have uG : sG qms6 qms6 := ⟨by rw [a1, a2], by rw [a2]; omega, by rw [a3, a4], by rw [a4]; omega, by rw [a4]; omega, by rw [a5]⟩
  have uK : sK qms6 qms6 := ⟨fun a b ha hb => st_35 a ha b hb, st_10, fun a b ha hb q => by rw [a4]; exact st_sy a ha b hb q⟩
  have hA : sA (qms6, qms6) qms6 qms6 := by
    refine ⟨fr, uG, uK, ⟨a6, a7, a8, a9, a10⟩, fun s hs => ?_, fun s hs => ?_, fun a b ha hb => st_nn a ha b hb, ⟨by rw [a11, a12], by rw [a12]; omega, fun i hi => by rw [a12] at hi; omega⟩, ⟨by rw [a13, a14], by rw [a14]; omega, fun i hi => by rw [a14] at hi; omega⟩⟩
    · rw [a4] at hs ⊢; exact st_f s hs
    · rw [a4] at hs
      obtain ⟨q1, q2, _⟩ := st_q s hs
      rw [q1, q2]
      exact ⟨rfl, by omega, fun i hi => by omega, fun i j hi => by omega⟩
  have hI : IV 0 (fun _ => 0) qms6 := by
    refine ⟨⟨by rw [a12]; omega, fun s hs => ?_⟩, fun s i hs hi => ?_, fun s hs => ?_, fun s hs hp => ?_, fun k hk => ?_, fun w hw => ?_, fun i j hij hj => ?_, fun k hk => ?_, ?_⟩
    · rw [a4] at hs; rw [(st_q s hs).2.2.2.1]; omega
    · rw [a4] at hs; rw [(st_q s hs).2.1] at hi; omega
    · rw [a4] at hs
      have q := (st_q s hs).2.2.2.2
      by_cases c : s = 0
      · right; left; rw [q, c]
      · right; right
        have : s = 1 := by omega
        rw [q, this]; exact ⟨by omega, a15⟩
    · rw [a4] at hs; rw [(st_q s hs).2.2.1] at hp; omega
    · rw [a12] at hk; omega
    · rw [(st_49 w hw).1, (st_49 w hw).2, a12]
      exact ⟨Nat.le_refl _, by omega, Nat.le_refl _, Nat.le_refl _, fun x' => ⟨fun q => by omega, fun ⟨k, k1, _⟩ => by omega⟩⟩
    · rw [a12] at hj; omega
    · rw [a14] at hk; omega
    · refine ⟨0, fun x => x, by rw [a4]; omega, fun x hx _ hx0 => ?_, Or.inl ⟨(st_q 0 (by omega)).2.2.2.2, fun k hk => by rw [a12] at hk; omega⟩⟩
      rw [a4] at hx
      show qms6 36 0 x < x
      rw [(st_q x hx).2.2.2.2]; omega
  exact TT_o hA hI a2
