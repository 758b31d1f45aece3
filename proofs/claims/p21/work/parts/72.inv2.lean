/-! ===== what deliver does to the reference's numbers ===== -/
theorem IV_tk0 {N w l : Nat} {lo : Nat → Nat} {gm : mg_F} (hw : w < 576) (hl : l < gm 5 0 21) (h1 : gm 52 0 l = w) (h2 : gm 55 0 l = gm 50 0 w) (h3 : gm 53 0 l = 0) (hlo : gm 50 0 w ≤ lo w) (h : IV N lo gm) : IV N lo (mg_up gm 50 0 w (gm 50 0 w + 1)) := by
  obtain ⟨h0, hQ, hP, hM, hL, hN, hO, hC, hR⟩ := h
  have e50 : ∀ x, mg_up gm 50 0 w (gm 50 0 w + 1) 50 0 x = if x = w then gm 50 0 w + 1 else gm 50 0 x := fun x => by simp [ue]
  have ge50 : ∀ x, gm 50 0 x ≤ mg_up gm 50 0 w (gm 50 0 w + 1) 50 0 x := fun x => by
    rw [e50]; split
    · rename_i c; rw [c]; omega
    · exact Nat.le_refl _
  have hu : ∀ k, k < gm 5 0 21 → (unt (mg_up gm 50 0 w (gm 50 0 w + 1)) k ↔ unt gm k) := by
    intro k hk
    show (gm 53 0 k = 1 ∧ mg_up gm 50 0 w (gm 50 0 w + 1) 50 0 (gm 52 0 k) ≤ gm 55 0 k) ↔ (gm 53 0 k = 1 ∧ gm 50 0 (gm 52 0 k) ≤ gm 55 0 k)
    rw [e50]
    by_cases c : gm 52 0 k = w
    · rw [if_pos c, c]
      constructor
      · intro q; exact ⟨q.1, by omega⟩
      · intro q
        refine ⟨q.1, ?_⟩
        have hne : k ≠ l := fun e => by rw [e, h3] at q; cases q.1
        have hnn : gm 55 0 k ≠ gm 50 0 w := fun e => by
          by_cases ck : k < l
          · have := hO k l ck hl (by rw [c, h1]); omega
          · have := hO l k (by omega) hk (by rw [c, h1]); omega
        omega
    · rw [if_neg c]
  refine ⟨h0, hQ, hP, hM, hL, fun x hx => ?_, hO, fun k hk => ?_, ?_⟩
  · obtain ⟨a1, a2, a3, a4, a5⟩ := hN x hx
    rw [e50]
    show _ ∧ _ ∧ _ ≤ gm 49 0 x ∧ gm 49 0 x ≤ N ∧ _
    by_cases c : x = w
    · rw [if_pos c]
      subst c
      have := (a5 (gm 50 0 x)).mpr ⟨l, hl, h1, h2⟩
      exact ⟨by omega, by omega, by omega, a4, a5⟩
    · rw [if_neg c]; exact ⟨a1, a2, a3, a4, a5⟩
  · obtain ⟨c0, c1, c2, c3⟩ := hC k hk
    refine ⟨c0, c1, fun q => Nat.lt_of_lt_of_le (c2 q) (ge50 _), fun q => ⟨(c3 q).1, fun q2 => ?_⟩⟩
    have q3 := (c3 q).1
    have q4 : gm 60 0 k = mg_up gm 50 0 w (gm 50 0 w + 1) 50 0 (gm 57 0 k) := q2
    rw [e50] at q4
    by_cases c : gm 57 0 k = w
    · rw [if_pos c] at q4; rw [c] at q3
      have := (hN w hw).1
      have q5 : gm 60 0 k ≤ lo w := q3
      omega
    · rw [if_neg c] at q4
      exact (c3 q).2 q4
  · obtain ⟨s, d, r1, r2, r3⟩ := hR
    refine ⟨s, d, r1, r2, ?_⟩
    rcases r3 with ⟨q1, q2⟩ | ⟨q1, q2, k, q3, q4, q5, q6⟩
    · left; exact ⟨q1, fun k hk => by rw [hu k hk]; exact q2 k hk⟩
    · right; exact ⟨q1, q2, k, q3, (hu k q3).mpr q4, q5, fun k' hk' hu' => q6 k' hk' ((hu k' hk').mp hu')⟩
/-- the right is taken -/
theorem IV_right {N a t l : Nat} {lo : Nat → Nat} {gm : mg_F} (hn : gm 5 0 0 < 25) (ht : t < gm 5 0 0) (ha : a < 24) (hl : l < gm 5 0 21) (h1 : gm 52 0 l = 24 * a + t) (h2 : gm 55 0 l = gm 50 0 (24 * a + t)) (h3 : gm 53 0 l = 1) (hlo : gm 50 0 (24 * a + t) ≤ lo (24 * a + t)) (h : IV N lo gm) : IV N lo (mg_up (mg_up (mg_up gm 50 0 (24 * a + t) (gm 50 0 (24 * a + t) + 1)) 36 0 t t) 37 0 t 0) := by
  obtain ⟨h0, hQ, hP, hM, hL, hN, hO, hC, hR⟩ := h
  have hw : 24 * a + t < 576 := by omega
  generalize hwe : 24 * a + t = w at *
  have e50 : ∀ x, (mg_up (mg_up (mg_up gm 50 0 w (gm 50 0 w + 1)) 36 0 t t) 37 0 t 0) 50 0 x = if x = w then gm 50 0 w + 1 else gm 50 0 x := fun x => by simp [ue]
  have e36 : ∀ x, (mg_up (mg_up (mg_up gm 50 0 w (gm 50 0 w + 1)) 36 0 t t) 37 0 t 0) 36 0 x = if x = t then t else gm 36 0 x := fun x => by simp [ue]
  have ge50 : ∀ x, gm 50 0 x ≤ (mg_up (mg_up (mg_up gm 50 0 w (gm 50 0 w + 1)) 36 0 t t) 37 0 t 0) 50 0 x := fun x => by
    rw [e50]; split
    · rename_i c; rw [c]; omega
    · exact Nat.le_refl _
  have hun : unt gm l := ⟨h3, by rw [h1, h2]; exact Nat.le_refl _⟩
  have hu : ∀ k, k < gm 5 0 21 → ¬ k = l → (unt (mg_up (mg_up (mg_up gm 50 0 w (gm 50 0 w + 1)) 36 0 t t) 37 0 t 0) k → unt gm k) := by
    intro k hk hne q
    have q' : gm 53 0 k = 1 ∧ (mg_up (mg_up (mg_up gm 50 0 w (gm 50 0 w + 1)) 36 0 t t) 37 0 t 0) 50 0 (gm 52 0 k) ≤ gm 55 0 k := q
    exact ⟨q'.1, Nat.le_trans (ge50 _) q'.2⟩
  refine ⟨h0, hQ, fun x hx => ?_, fun x hx hpx => ?_, hL, fun x hx => ?_, hO, fun k hk => ?_, ?_⟩
  · rw [e36]
    by_cases c : x = t
    · rw [if_pos c, c]; right; left; rfl
    · rw [if_neg c]; exact hP x hx
  · rw [e36]
    by_cases c : x = t
    · rw [if_pos c, c]
    · rw [if_neg c]; exact hM x hx hpx
  · obtain ⟨a1, a2, a3, a4, a5⟩ := hN x hx
    rw [e50]
    show _ ∧ _ ∧ _ ≤ gm 49 0 x ∧ gm 49 0 x ≤ N ∧ _
    by_cases c : x = w
    · rw [if_pos c]
      subst c
      have := (a5 (gm 50 0 x)).mpr ⟨l, hl, h1, h2⟩
      exact ⟨by omega, by omega, by omega, a4, a5⟩
    · rw [if_neg c]; exact ⟨a1, a2, a3, a4, a5⟩
  · obtain ⟨c0, c1, c2, c3⟩ := hC k hk
    refine ⟨c0, c1, fun q => Nat.lt_of_lt_of_le (c2 q) (ge50 _), fun q => ⟨(c3 q).1, fun q2 => ?_⟩⟩
    have q3 := (c3 q).1
    have q4 : gm 60 0 k = (mg_up (mg_up (mg_up gm 50 0 w (gm 50 0 w + 1)) 36 0 t t) 37 0 t 0) 50 0 (gm 57 0 k) := q2
    rw [e50] at q4
    by_cases c : gm 57 0 k = w
    · rw [if_pos c] at q4; rw [c] at q3
      have := (hN w hw).1
      have q5 : gm 60 0 k ≤ lo w := q3
      omega
    · rw [if_neg c] at q4
      exact (c3 q).2 q4
  · obtain ⟨s, d, r1, r2, r3⟩ := hR
    rcases r3 with ⟨q1, q2⟩ | ⟨q1, q2, k, q3, q4, q5, q6⟩
    · exact absurd hun (q2 l hl)
    · have hkl : l = k := q6 l hl hun
      rw [← hkl, h1, ← hwe] at q5
      have hsa : a = s ∧ t = gm 36 0 s := way_inj (by omega) q2 q5
      obtain ⟨e1, e2⟩ := hsa
      refine ⟨t, fun x => if x = t then 0 else d x + 1, ht, fun x hx hx2 hx3 => ?_, Or.inl ⟨by rw [e36, if_pos rfl], fun k' hk' hu' => ?_⟩⟩
      · show (if _ = t then 0 else _) < (if x = t then 0 else d x + 1)
        rw [e36, if_neg hx3] at hx2 ⊢
        rw [if_neg hx3]
        by_cases c : x = s
        · rw [c, ← e2, if_pos rfl]; omega
        · have := r2 x hx hx2 c
          split <;> omega
      · by_cases c : k' = l
        · subst c
          have q' : gm 53 0 k' = 1 ∧ (mg_up (mg_up (mg_up gm 50 0 w (gm 50 0 w + 1)) 36 0 t t) 37 0 t 0) 50 0 (gm 52 0 k') ≤ gm 55 0 k' := hu'
          rw [e50, h1, if_pos rfl] at q'
          omega
        · have := q6 k' hk' (hu k' hk' c hu')
          exact c (this.trans hkl.symm)
/-- a letter whose receipt has come goes out -/
theorem IV_dl {N w k0 : Nat} {lo : Nat → Nat} {gm : mg_F} (hw : w < 576) (hk0 : k0 < gm 5 0 21) (h1 : gm 52 0 k0 = w) (hf : ∀ i, i < k0 → gm 52 0 i ≠ w) (h2 : gm 55 0 k0 < gm 50 0 w) (h : IV N lo gm) : ∃ lo', IV N lo' (mdl gm k0) := by
  obtain ⟨h0, hQ, hP, hM, hL, hN, hO, hC, hR⟩ := h
  have hlo := first_lo hN hO hw hk0 h1 hf
  have e21 : mdl gm k0 5 0 21 = gm 5 0 21 - 1 := by simp [mdl]
  have sh : ∀ κ k, (κ = 52 ∨ κ = 53 ∨ κ = 54 ∨ κ = 55) → k < gm 5 0 21 - 1 → mdl gm k0 κ 0 k = gm κ 0 (if k0 ≤ k then k + 1 else k) := by
    intro κ k hκ hk
    unfold mdl
    rw [if_neg (by omega)]
    by_cases c : k0 ≤ k
    · rw [if_pos ⟨hκ, rfl, c, hk⟩, if_pos c]
    · rw [if_neg (by omega), if_neg c]
  have inv : ∀ k, k < gm 5 0 21 → k ≠ k0 → ∃ k', k' < gm 5 0 21 - 1 ∧ (if k0 ≤ k' then k' + 1 else k') = k := by
    intro k hk hne
    by_cases c : k < k0
    · exact ⟨k, by omega, by rw [if_neg (by omega)]⟩
    · exact ⟨k - 1, by omega, by rw [if_pos (by omega)]; omega⟩
  have hu : ∀ k, k < gm 5 0 21 - 1 → (unt (mdl gm k0) k ↔ unt gm (if k0 ≤ k then k + 1 else k)) := by
    intro k hk
    have e50 : ∀ x, mdl gm k0 50 0 x = gm 50 0 x := fun x => rfl
    unfold unt
    rw [sh 52 k (by omega) hk, sh 53 k (by omega) hk, sh 55 k (by omega) hk, e50]
  have hk0u : ¬ unt gm k0 := fun q => by have := q.2; rw [h1] at this; omega
  obtain ⟨a1, a2, a3, a4, a5⟩ := hN w hw
  refine ⟨fun x => if x = w then lo w + 1 else lo x, ⟨by rw [e21]; omega, h0.2⟩, hQ, hP, hM, fun k hk => ?_, fun x hx => ?_, fun i j hij hj e => ?_, fun k hk => ?_, ?_⟩
  · rw [e21] at hk
    rw [sh 52 k (by omega) hk, sh 53 k (by omega) hk]
    exact hL _ (by split <;> omega)
  · obtain ⟨b1, b2, b3, b4, b5⟩ := hN x hx
    show (if x = w then lo w + 1 else lo x) ≤ gm 50 0 x ∧ gm 50 0 x ≤ (if x = w then lo w + 1 else lo x) + 1 ∧ gm 50 0 x ≤ gm 49 0 x ∧ gm 49 0 x ≤ N ∧ ∀ y, ((if x = w then lo w + 1 else lo x) ≤ y ∧ y < gm 49 0 x) ↔ _
    by_cases c : x = w
    · subst c
      rw [if_pos rfl]
      refine ⟨by omega, by omega, b3, b4, fun y => ⟨fun hy => ?_, fun hy => ?_⟩⟩
      · obtain ⟨k, k1, k2, k3⟩ := (b5 y).mp ⟨by omega, hy.2⟩
        have hne : k ≠ k0 := fun q => by subst q; omega
        obtain ⟨k', k4, k5⟩ := inv k k1 hne
        refine ⟨k', by rw [e21]; exact k4, ?_, ?_⟩
        · rw [sh 52 k' (by omega) k4, k5]; exact k2
        · rw [sh 55 k' (by omega) k4, k5]; exact k3
      · obtain ⟨k, k1, k2, k3⟩ := hy
        rw [e21] at k1
        rw [sh 52 k (by omega) k1] at k2
        rw [sh 55 k (by omega) k1] at k3
        have := (b5 y).mpr ⟨_, (by split <;> omega), k2, k3⟩
        have hne : y ≠ lo x := by
          intro q
          rw [← k3, ← hlo] at q
          by_cases cc : (if k0 ≤ k then k + 1 else k) < k0
          · exact hf _ cc k2
          · have hlt : k0 < (if k0 ≤ k then k + 1 else k) := by
              by_cases c3 : k0 ≤ k
              · rw [if_pos c3]; omega
              · rw [if_neg c3] at cc; omega
            have := hO k0 _ hlt (by split <;> omega) (by rw [h1, k2])
            omega
        omega
    · rw [if_neg c]
      refine ⟨b1, b2, b3, b4, fun y => ⟨fun hy => ?_, fun hy => ?_⟩⟩
      · obtain ⟨k, k1, k2, k3⟩ := (b5 y).mp hy
        have hne : k ≠ k0 := fun q => by subst q; exact c (k2.symm.trans h1)
        obtain ⟨k', k4, k5⟩ := inv k k1 hne
        refine ⟨k', by rw [e21]; exact k4, ?_, ?_⟩
        · rw [sh 52 k' (by omega) k4, k5]; exact k2
        · rw [sh 55 k' (by omega) k4, k5]; exact k3
      · obtain ⟨k, k1, k2, k3⟩ := hy
        rw [e21] at k1
        rw [sh 52 k (by omega) k1] at k2
        rw [sh 55 k (by omega) k1] at k3
        exact (b5 y).mpr ⟨_, (by split <;> omega), k2, k3⟩
  · rw [e21] at hj
    rw [sh 52 i (by omega) (by omega), sh 52 j (by omega) hj] at e
    rw [sh 55 i (by omega) (by omega), sh 55 j (by omega) hj]
    refine hO _ _ ?_ ?_ e
    · split <;> split <;> omega
    · split <;> omega
  · obtain ⟨c0, c1, c2, c3⟩ := hC k hk
    refine ⟨c0, c1, c2, fun q => ?_⟩
    have q3 : gm 60 0 k ≤ lo (gm 57 0 k) := (c3 q).1
    refine ⟨?_, fun q2 => ?_⟩
    · show gm 60 0 k ≤ (if gm 57 0 k = w then lo w + 1 else lo (gm 57 0 k))
      split
      · rename_i c; rw [c] at q3; omega
      · exact q3
    · have q4 : gm 60 0 k = gm 50 0 (gm 57 0 k) := q2
      obtain ⟨l, l1, l2, l3, l4⟩ := (c3 q).2 q4
      have hne : l ≠ k0 := fun qq => by
        subst qq
        have e : gm 57 0 k = w := l2.symm.trans h1
        rw [e] at q4
        have l3' : gm 55 0 l = gm 60 0 k := l3
        omega
      obtain ⟨k', k4, k5⟩ := inv l l1 hne
      refine ⟨k', by rw [e21]; exact k4, ?_, ?_, ?_⟩
      · rw [sh 52 k' (by omega) k4, k5]; exact l2
      · rw [sh 55 k' (by omega) k4, k5]; exact l3
      · rw [sh 53 k' (by omega) k4, k5]; exact l4
  · obtain ⟨s, d, r1, r2, r3⟩ := hR
    refine ⟨s, d, r1, r2, ?_⟩
    rcases r3 with ⟨q1, q2⟩ | ⟨q1, q2, k, q3, q4, q5, q6⟩
    · left; refine ⟨q1, fun k hk => ?_⟩
      rw [e21] at hk
      rw [hu k hk]
      exact q2 _ (by split <;> omega)
    · right
      have hne : k ≠ k0 := fun qq => by subst qq; exact hk0u q4
      obtain ⟨k', k4, k5⟩ := inv k q3 hne
      refine ⟨q1, q2, k', by rw [e21]; exact k4, ?_, ?_, fun j hj hju => ?_⟩
      · rw [hu k' k4, k5]; exact q4
      · rw [sh 52 k' (by omega) k4, k5]; exact q5
      · rw [e21] at hj
        rw [hu j hj] at hju
        have := q6 _ (by split <;> omega) hju
        rw [← k5] at this
        by_cases c1 : k0 ≤ j <;> by_cases c2 : k0 ≤ k'
        · rw [if_pos c1, if_pos c2] at this; omega
        · rw [if_pos c1, if_neg c2] at this; omega
        · rw [if_neg c1, if_pos c2] at this; omega
        · rw [if_neg c1, if_neg c2] at this; omega
