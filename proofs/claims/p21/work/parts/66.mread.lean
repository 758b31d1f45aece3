/-! ===== pure: what the reference's methods answer and make ===== -/
theorem m_stn {a : Nat} {g : mg_F} (ha : a < 4294967296) (hn : g 5 0 0 < 25) : P_X5_isStation a g = some (if a < g 5 0 0 then 1 else 0, g) := by
  unfold P_X5_isStation
  have e1 := sv_om ha
  have e2 := sv_om (a := g 5 0 0) (by omega)
  (repeat' split) <;> first | rfl | omega
theorem m_up {a : Nat} {g : mg_F} (ha : a < 4294967296) (hn : g 5 0 0 < 25) (ho : g 5 0 1 < 2) (hd : g 5 0 1 = 1 → a < g 5 0 0 → g 39 0 a < 2) : P_X5_isUp a g = some (if g 5 0 1 = 1 ∧ a < g 5 0 0 ∧ g 39 0 a = 0 then 1 else 0, g) := by
  unfold P_X5_isUp
  rw [m_stn ha hn, bd_s]
  have e0 := sv_om (a := g 5 0 1) (by omega)
  by_cases h0 : g 5 0 1 = 1
  · rw [if_neg (by omega)]
    by_cases h : a < g 5 0 0
    · have e2 := sv_om (a := g 39 0 a) (by have := hd h0 h; omega)
      rw [if_pos h, if_neg (by rw [sv_l1]; omega), ck_t (by omega)]
      by_cases h2 : g 39 0 a = 0
      · rw [if_pos (by rw [h2, sv_0]), if_pos ⟨h0, h, h2⟩]
      · rw [if_neg (by omega), if_neg (fun q => h2 q.2.2)]
    · rw [if_neg h, if_pos sv_0, if_neg (fun q => h q.2.1)]
  · rw [if_pos (by omega), if_neg (fun q => h0 q.1)]
/-- NONE of a search as the reference says it -/
def fm (x : Nat) : Nat := if x = 4294967294 then 4294967295 else x
theorem m_pl {s a : Nat} {g : mg_F} (hs : s < 24) (hl : g 46 0 s ≤ 24) (ha : a < 4294967296) (hw : ∀ i, i < g 46 0 s → g 47 0 (24 * s + i) < 4294967296) (hd : ∀ i j, i < g 46 0 s → j < g 46 0 s → g 47 0 (24 * s + i) = g 47 0 (24 * s + j) → i = j) : P_X5_placeOf s a g = some (fm (fs (fun i => g 47 0 (24 * s + i) == a) (g 46 0 s) 0), g) := by
  unfold P_X5_placeOf
  obtain ⟨x, h1, h2⟩ := lp_ex (L := fun n x v => L_X5_placeOf_5 s a (fun w9 w10 g11 => some (w9, g11)) n x v g) (K := fun x => some (x, g)) (I := fun v x => (x = 4294967295 ∧ ∀ i, i < v → g 47 0 (24 * s + i) ≠ a) ∨ (x < v ∧ g 47 0 (24 * s + x) = a)) (N := g 46 0 s) (by
    intro n x v hv hI
    refine ⟨if g 47 0 (24 * s + v) = a then v else x, ?_, ?_⟩
    · show L_X5_placeOf_5 s a _ (n + 1) x v g = L_X5_placeOf_5 s a _ n _ (v + 1) g
      rw [L_X5_placeOf_5]
      unfold P_X5_entry
      rw [ck_t hs, if_pos ((sv_ltN (by omega) (by omega)).mpr hv), bd_s, ck_t (by omega), jn_s]
      simp only [sv_eqN (hw v hv) ha]
      by_cases c : g 47 0 (24 * s + v) = a
      · rw [if_pos c, if_pos c]
      · rw [if_neg c, if_neg c]
    · by_cases c : g 47 0 (24 * s + v) = a
      · rw [if_pos c]; right; exact ⟨by omega, c⟩
      · rw [if_neg c]
        rcases hI with ⟨e, q⟩ | ⟨q1, q2⟩
        · left; refine ⟨e, fun i hi => ?_⟩
          by_cases hiv : i = v
          · rw [hiv]; exact c
          · exact q i (by omega)
        · right; exact ⟨by omega, q2⟩) (by
    intro n x hI
    show L_X5_placeOf_5 s a _ (n + 1) x (g 46 0 s) g = _
    rw [L_X5_placeOf_5]
    rw [ck_t hs, if_neg (by omega)]) (g 46 0 s) 4000 4294967295 0 (by omega) (by omega) (Or.inl ⟨rfl, fun i hi => by omega⟩)
  have h2' : L_X5_placeOf_5 s a (fun w9 w10 g11 => some (w9, g11)) 4000 4294967295 0 g = some (x, g) := h2
  rw [h2']
  rcases h1 with ⟨e, q⟩ | ⟨q1, q2⟩
  · rw [fs_none (fun i hi => by simpa using q i hi), e]; rfl
  · rw [fs_at (r := x) q1 (by simpa using q2) (fun i hi => by
      have : g 47 0 (24 * s + i) ≠ a := fun h => by have := hd i x (by omega) q1 (h.trans q2.symm); omega
      simpa using this)]
    unfold fm; rw [if_neg (by omega)]
theorem m_fl {w : Nat} {g : mg_F} (hl : g 5 0 21 ≤ 1024) (ha : w < 4294967296) (hw : ∀ i, i < g 5 0 21 → g 52 0 i < 4294967296) : P_X5_firstLetter w g = some (fm (fs (fun i => g 52 0 i == w) (g 5 0 21) 0), g) := by
  unfold P_X5_firstLetter
  have key : ∀ m n x, m < n → m ≤ g 5 0 21 → ((x = 4294967295 ∧ ∀ i, m ≤ i → i < g 5 0 21 → g 52 0 i ≠ w) ∨ (m ≤ x ∧ x < g 5 0 21 ∧ g 52 0 x = w ∧ ∀ i, m ≤ i → i < x → g 52 0 i ≠ w)) → L_X5_firstLetter_9 w (fun w8 w9 g10 => some (w8, g10)) n x (sb m 1) g = some (fm (fs (fun i => g 52 0 i == w) (g 5 0 21) 0), g) := by
    intro m
    induction m with
    | zero =>
      intro n x hn hm hI
      obtain ⟨n, rfl⟩ : ∃ n', n = n' + 1 := ⟨n - 1, by omega⟩
      rw [L_X5_firstLetter_9, if_pos (by show sv (sb 0 1) < 0; decide +kernel)]
      rcases hI with ⟨e, q⟩ | ⟨q1, q2, q3, q4⟩
      · rw [fs_none (fun i hi => by simpa using q i (by omega) hi), e]; rfl
      · rw [fs_at (r := x) q2 (by simpa using q3) (fun i hi => by simpa using q4 i (by omega) hi)]
        unfold fm; rw [if_neg (by omega)]
    | succ m ih =>
      intro n x hn hm hI
      obtain ⟨n, rfl⟩ : ∃ n', n = n' + 1 := ⟨n - 1, by omega⟩
      rw [sb_le (by omega), Nat.add_sub_cancel]
      rw [L_X5_firstLetter_9, if_neg (by rw [sv_lt0N (by omega)]; omega), ck_t (by omega), jn_s]
      simp only [sv_eqN (hw m (by omega)) ha]
      by_cases c : g 52 0 m = w
      · rw [if_pos c]
        exact ih n m (by omega) (by omega) (Or.inr ⟨by omega, by omega, c, fun i h1 h2 => by omega⟩)
      · rw [if_neg c]
        refine ih n x (by omega) (by omega) ?_
        rcases hI with ⟨e, q⟩ | ⟨q1, q2, q3, q4⟩
        · left; refine ⟨e, fun i h1 h2 => ?_⟩
          by_cases hi : i = m
          · rw [hi]; exact c
          · exact q i (by omega) h2
        · right; refine ⟨by omega, q2, q3, fun i h1 h2 => ?_⟩
          by_cases hi : i = m
          · rw [hi]; exact c
          · exact q4 i (by omega) h2
  exact key (g 5 0 21) 4000 4294967295 (by omega) (by omega) (Or.inl ⟨rfl, fun i h1 h2 => by omega⟩)
theorem m_first {s : Nat} {g : mg_F} (hs : s < 24) (h0 : 0 < g 46 0 s) (hl : g 46 0 s ≤ 24) (hw : ∀ i, i < g 46 0 s → g 47 0 (24 * s + i) < 4294967296) (hd : ∀ i j, i < g 46 0 s → j < g 46 0 s → g 47 0 (24 * s + i) = g 47 0 (24 * s + j) → i = j) (hw2 : ∀ i, i < g 46 0 s → g 48 0 (24 * s + i) < 2147483648) (hr : g 5 0 2 < 3) (hg : g 5 0 3 < 2147483648) (hrow : g 40 0 s < 2147483648) : P_X5_firstOf s g = some (fpl s (g 5 0 2) (g 5 0 3) (g 40 0 s) (g 46 0 s) (fun i => g 47 0 (24 * s + i)) (fun i => g 48 0 (24 * s + i)), g) := by
  unfold P_X5_firstOf fpl
  rw [m_pl hs hl (by omega) hw hd, bd_s, if_neg (show ¬ g 46 0 s = 0 by omega)]
  have f1 := fs_spec (fun i => g 47 0 (24 * s + i) == s) (g 46 0 s) 0
  generalize fs (fun i => g 47 0 (24 * s + i) == s) (g 46 0 s) 0 = x at *
  simp only [sv_eqN (a := g 5 0 2) (b := 1) (by omega) (by omega)]
  by_cases c1 : g 5 0 2 = 1
  · rw [if_pos c1, if_pos c1]
    by_cases c2 : x = 4294967294
    · have e : fm x = 4294967295 := by unfold fm; rw [if_pos c2]
      rw [e, if_pos (by decide +kernel), if_neg (by decide +kernel), if_neg (by omega), if_neg (by omega)]
    · have e : fm x = x := by unfold fm; rw [if_neg c2]
      rw [e, if_neg (by rw [sv_lt0N (by omega)]; omega), ck_t hs]
      simp only [sv_ltN hrow hg, sv_eqN (a := g 46 0 s) (b := 1) (by omega) (by omega), sv_eq0N (a := x) (by omega)]
      by_cases c3 : g 40 0 s < g 5 0 3
      · rw [if_pos c3, if_pos ⟨c2, Or.inl c3⟩]
      · rw [if_neg c3]
        by_cases c4 : g 46 0 s = 1
        · rw [if_pos c4, if_pos ⟨c2, Or.inr c4⟩]
        · rw [if_neg c4, if_neg (show ¬ (x ≠ 4294967294 ∧ (g 40 0 s < g 5 0 3 ∨ g 46 0 s = 1)) by omega)]
          by_cases c5 : x = 0
          · rw [if_pos c5, if_pos c5]
          · rw [if_neg c5, if_neg c5]
  · rw [if_neg c1, if_neg c1]
    by_cases c2 : g 5 0 2 = 2
    · rw [if_pos c2]
      obtain ⟨y, h1, h2⟩ := lp_ex (L := fun n x' v => L_X5_firstOf_59 s (fm x) (fun w9 w10 g11 => some (w9, g11)) n x' v g) (K := fun x => some (x, g)) (I := fun v x => 1 ≤ v ∧ x = gp (fun i => g 48 0 (24 * s + i)) (v - 1) 1 0) (N := g 46 0 s) (by
        intro n x v hv hI
        obtain ⟨hv1, hx⟩ := hI
        have hx2 : x < g 46 0 s := by rw [hx]; exact gp_lt _ _ _ _ _ h0 (by omega)
        refine ⟨if g 48 0 (24 * s + x) < g 48 0 (24 * s + v) then v else x, ?_, by omega, ?_⟩
        · show L_X5_firstOf_59 s _ _ (n + 1) x v g = L_X5_firstOf_59 s _ _ n _ (v + 1) g
          rw [L_X5_firstOf_59]
          unfold P_X5_entry
          rw [ck_t hs, if_pos ((sv_ltN (by omega) (by omega)).mpr hv), if_pos (by rw [c2]), bd_s, ck_t (by omega), bd_s, ck_t (by omega), jn_s]
          simp only [sv_ltN (hw2 x hx2) (hw2 v hv)]
          by_cases c : g 48 0 (24 * s + x) < g 48 0 (24 * s + v)
          · rw [if_pos c, if_pos c]
          · rw [if_neg c, if_neg c]
        · obtain ⟨v, rfl⟩ : ∃ v', v = v' + 1 := ⟨v - 1, by omega⟩
          show _ = gp _ (v + 1) 1 0
          rw [gp_s, hx]
          simp only [Nat.add_sub_cancel, Nat.add_comm 1 v]) (by
        intro n x hI
        show L_X5_firstOf_59 s _ _ (n + 1) x (g 46 0 s) g = _
        rw [L_X5_firstOf_59]
        rw [ck_t hs, if_neg (by omega)]) (g 46 0 s - 1) 4000 0 1 (by omega) (by omega) ⟨by omega, rfl⟩
      have h2' : L_X5_firstOf_59 s (fm x) (fun w9 w10 g11 => some (w9, g11)) 4000 0 1 g = some (y, g) := h2
      rw [h2', h1.2]
    · rw [if_neg c2]
      rw [show (4000 : Nat) = 3999 + 1 from rfl, L_X5_firstOf_59, ck_t hs]
      rw [if_neg (show ¬ sv (g 5 0 2) = sv 2 by rw [sv_eqN (by omega) (by omega)]; exact c2)]
      split <;> rfl
theorem m_gr {s : Nat} {g : mg_F} (hs : s < 24) (h0 : 0 < g 46 0 s) (hl : g 46 0 s ≤ 24) (hw2 : ∀ i, i < g 46 0 s → g 48 0 (24 * s + i) < 2147483648) : P_X5_greatest s g = some (g 48 0 (24 * s + gp (fun i => g 48 0 (24 * s + i)) (g 46 0 s - 1) 1 0), g) := by
  unfold P_X5_greatest
  obtain ⟨y, h1, h2⟩ := lp_ex (L := fun n x' v => L_X5_greatest_4 s (fun w9 w10 g11 => some (w9, g11)) n x' v g) (K := fun x => some (x, g)) (I := fun v x => x < 2147483648 ∧ (∀ i, i < v → g 48 0 (24 * s + i) ≤ x) ∧ (x = 0 ∨ ∃ i, i < v ∧ g 48 0 (24 * s + i) = x)) (N := g 46 0 s) (by
    intro n x v hv hI
    obtain ⟨hx, hI1, hI2⟩ := hI
    have hwv := hw2 v hv
    refine ⟨if x < g 48 0 (24 * s + v) then g 48 0 (24 * s + v) else x, ?_, by split <;> assumption, fun i hi => ?_, ?_⟩
    · show L_X5_greatest_4 s _ (n + 1) x v g = L_X5_greatest_4 s _ n _ (v + 1) g
      rw [L_X5_greatest_4]
      unfold P_X5_entry
      rw [ck_t hs, if_pos ((sv_ltN (by omega) (by omega)).mpr hv), bd_s, ck_t (by omega), jn_s, bd_s, ck_t (by omega)]
      simp only [sv_ltN hx hwv]
      by_cases c : x < g 48 0 (24 * s + v)
      · rw [if_pos c, if_pos c]
      · rw [if_neg c, if_neg c]
    · by_cases hiv : i = v
      · rw [hiv]; split <;> omega
      · have := hI1 i (by omega)
        split <;> omega
    · by_cases c : x < g 48 0 (24 * s + v)
      · rw [if_pos c]; right; exact ⟨v, by omega, rfl⟩
      · rw [if_neg c]
        rcases hI2 with e | ⟨i, hi, e⟩
        · left; exact e
        · right; exact ⟨i, by omega, e⟩) (by
    intro n x hI
    show L_X5_greatest_4 s _ (n + 1) x (g 46 0 s) g = _
    rw [L_X5_greatest_4]
    rw [ck_t hs, if_neg (by omega)]) (g 46 0 s) 4000 0 0 (by omega) (by omega) ⟨by omega, fun i hi => by omega, Or.inl rfl⟩
  have h2' : L_X5_greatest_4 s (fun w9 w10 g11 => some (w9, g11)) 4000 0 0 g = some (y, g) := h2
  rw [h2']
  have hm := gp_max (fun i => g 48 0 (24 * s + i)) (g 46 0 s - 1)
  have hlt := gp_lt (fun i => g 48 0 (24 * s + i)) (g 46 0 s) (g 46 0 s - 1) 1 0 h0 (by omega)
  have a1 := h1.2.1 _ hlt
  have a2 : y ≤ g 48 0 (24 * s + gp (fun i => g 48 0 (24 * s + i)) (g 46 0 s - 1) 1 0) := by
    rcases h1.2.2 with e | ⟨i, hi, e⟩
    · rw [e]; exact Nat.zero_le _
    · rw [← e]; exact hm i (by omega)
  rw [Nat.le_antisymm a2 a1]
