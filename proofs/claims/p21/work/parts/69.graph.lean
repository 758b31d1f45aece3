/-! ===== pure: counting, reachability, growing sets ===== -/
def cnt (p : Nat → Bool) : Nat → Nat
  | 0 => 0
  | n + 1 => cnt p n + (if p n = true then 1 else 0)
theorem cnt_le (p : Nat → Bool) : ∀ n, cnt p n ≤ n := by
  intro n
  induction n with
  | zero => exact Nat.le_refl _
  | succ n ih => rw [cnt]; split <;> omega
theorem cnt_mono {p q : Nat → Bool} : ∀ n, (∀ i, i < n → p i = true → q i = true) → cnt p n ≤ cnt q n := by
  intro n
  induction n with
  | zero => intro _; exact Nat.le_refl _
  | succ n ih =>
    intro h
    have h1 := ih (fun i hi => h i (by omega))
    rw [cnt, cnt]
    by_cases c : p n = true
    · rw [if_pos c, if_pos (h n (by omega) c)]; omega
    · rw [if_neg c]; split <;> omega
theorem cnt_lt {p q : Nat → Bool} : ∀ n w, (∀ i, i < n → p i = true → q i = true) → w < n → q w = true → p w = false → cnt p n < cnt q n := by
  intro n
  induction n with
  | zero => intro w _ h; omega
  | succ n ih =>
    intro w h hw h1 h2
    rw [cnt, cnt]
    by_cases c : w = n
    · subst c
      have := cnt_mono w (fun i hi => h i (by omega))
      rw [if_pos h1, if_neg (by simp [h2])]; omega
    · have := ih w (fun i hi => h i (by omega)) (by omega) h1 h2
      by_cases c : p n = true
      · rw [if_pos c, if_pos (h n (by omega) c)]; omega
      · rw [if_neg c]; split <;> omega
theorem cnt_full {p : Nat → Bool} : ∀ n, n ≤ cnt p n → ∀ i, i < n → p i = true := by
  intro n
  induction n with
  | zero => intro _ i hi; omega
  | succ n ih =>
    intro h i hi
    rw [cnt] at h
    have := cnt_le p n
    by_cases c : p n = true
    · rw [if_pos c] at h
      by_cases ci : i = n
      · rw [ci]; exact c
      · exact ih (by omega) i (by omega)
    · rw [if_neg c] at h; omega
theorem cnt_congr {p q : Nat → Bool} {n : Nat} (h : ∀ i, i < n → p i = q i) : cnt p n = cnt q n :=
  Nat.le_antisymm (cnt_mono n (fun i hi e => by rw [← h i hi]; exact e)) (cnt_mono n (fun i hi e => by rw [h i hi]; exact e))
theorem cnt_pos {p : Nat → Bool} {n w : Nat} (hw : w < n) (h : p w = true) : 1 ≤ cnt p n := by
  have h1 : cnt (fun _ => false) n < cnt p n := cnt_lt n w (fun i hi e => by cases e) hw h rfl
  omega
/-- one may be reached from the other -/
def rch (A : Nat → Nat → Prop) (x y : Nat) : Prop := ∀ c : Nat → Nat, (∀ a b, A a b → c a = c b) → c x = c y
theorem rch_refl {A : Nat → Nat → Prop} {x : Nat} : rch A x x := fun _ _ => rfl
theorem rch_trans {A : Nat → Nat → Prop} {x y z : Nat} (h : rch A x y) (h2 : rch A y z) : rch A x z := fun c hc => (h c hc).trans (h2 c hc)
theorem rch_symm {A : Nat → Nat → Prop} {x y : Nat} (h : rch A x y) : rch A y x := fun c hc => (h c hc).symm
theorem rch_step {A : Nat → Nat → Prop} {x y : Nat} (h : A x y) : rch A x y := fun c hc => hc _ _ h
/-- closed under links -/
def clo (A : Nat → Nat → Prop) (S : Nat → Bool) : Prop := ∀ a b, A a b → S a = true → S b = true
theorem clo_rch {A : Nat → Nat → Prop} {S : Nat → Bool} (hs : ∀ a b, A a b → A b a) (h : clo A S) {x y : Nat} (hr : rch A x y) (hx : S x = true) : S y = true := by
  have := hr (fun i => if S i = true then 1 else 0) (fun a b hab => by
    show (if S a = true then 1 else 0) = (if S b = true then 1 else 0)
    by_cases c : S a = true
    · rw [if_pos c, if_pos (h a b hab c)]
    · rw [if_neg c, if_neg (fun q => c (h b a (hs a b hab) q))])
  have t : (if S x = true then 1 else 0) = (if S y = true then 1 else 0) := this
  rw [if_pos hx] at t
  by_cases c : S y = true
  · exact c
  · rw [if_neg c] at t; omega
theorem grow {A : Nat → Nat → Prop} {S S' : Nat → Bool} {n r : Nat} (hA : ∀ a b, A a b → b < n) (h1 : ∀ i, S i = true → S' i = true) (h2 : ∀ a b, A a b → S a = true → S' b = true) (h3 : clo A S → ∀ i, S' i = true → S i = true) (h : clo A S ∨ r ≤ cnt S n) : clo A S' ∨ r + 1 ≤ cnt S' n := by
  by_cases c : clo A S
  · left
    intro a b hab ha
    exact h1 b (c a b hab (h3 c a ha))
  · right
    have hr : r ≤ cnt S n := by
      rcases h with h | h
      · exact absurd h c
      · exact h
    have : ∃ a b, A a b ∧ S a = true ∧ S b = false := by
      apply Classical.byContradiction
      intro hn
      apply c
      intro a b hab ha
      apply Classical.byContradiction
      intro hb
      exact hn ⟨a, b, hab, ha, by simpa using hb⟩
    obtain ⟨a, b, hab, ha, hb⟩ := this
    have := cnt_lt n b (fun i _ => h1 i) (hA a b hab) (h2 a b hab ha) hb
    omega
/-- the parts: the reference's labels -/
def LBL (n : Nat) (A : Nat → Nat → Prop) (L : Nat → Nat) : Prop := (∀ x, x < n → L x ≤ x ∧ rch A x (L x)) ∧ (∀ a b, A a b → L a = L b)
theorem LBL_iff {n : Nat} {A : Nat → Nat → Prop} {L : Nat → Nat} (h : LBL n A L) {x y : Nat} (hx : x < n) (hy : y < n) : L x = L y ↔ rch A x y := by
  constructor
  · intro e
    refine rch_trans (h.1 x hx).2 ?_
    rw [e]
    exact rch_symm (h.1 y hy).2
  · intro hr
    exact hr L h.2
theorem LBL_uniq {n : Nat} {A : Nat → Nat → Prop} {L L' : Nat → Nat} (h : LBL n A L) (h' : LBL n A L') {x : Nat} (hx : x < n) : L x = L' x := by
  have a1 := (h.1 x hx).1
  have a2 := (h'.1 x hx).1
  have e1 : L' (L x) = L' x := ((h.1 x hx).2 L' h'.2).symm
  have e2 : L (L' x) = L x := ((h'.1 x hx).2 L h.2).symm
  have b1 := (h'.1 (L x) (by omega)).1
  have b2 := (h.1 (L' x) (by omega)).1
  omega
theorem LBL_idem {n : Nat} {A : Nat → Nat → Prop} {L : Nat → Nat} (h : LBL n A L) {x : Nat} (hx : x < n) : L (L x) = L x := ((h.1 x hx).2 L h.2).symm
/-- all is one part -/
theorem LBL_one {n : Nat} {A : Nat → Nat → Prop} {L : Nat → Nat} (h : LBL n A L) (hn : 0 < n) (h1 : cnt (fun s => L s == s) n ≤ 1) {x y : Nat} (hx : x < n) (hy : y < n) : rch A x y := by
  have key : ∀ z, z < n → L z = 0 := by
    intro z hz
    apply Classical.byContradiction
    intro hne
    have a1 := (h.1 z hz).1
    have : cnt (fun s => s == 0) n < cnt (fun s => L s == s) n := by
      refine cnt_lt n (L z) (fun i hi e => ?_) (by omega) (by simp [LBL_idem h hz]) (by simpa using hne)
      have e0 : i = 0 := by simpa using e
      subst e0
      have := (h.1 0 hn).1
      simp; omega
    have := cnt_pos (p := fun s => s == 0) hn (by rfl)
    omega
  exact (LBL_iff h hx hy).mp ((key x hx).trans (key y hy).symm)
/-- a link between two parts makes one part of two -/
theorem LBL_add {n : Nat} {A : Nat → Nat → Prop} {L : Nat → Nat} {a b : Nat} (h : LBL n A L) (ha : a < n) (hb : b < n) (hne : L a ≠ L b) : ∃ L', LBL n (fun x y => A x y ∨ (x = a ∧ y = b) ∨ (x = b ∧ y = a)) L' ∧ cnt (fun s => L' s == s) n + 1 = cnt (fun s => L s == s) n := by
  have up : ∀ {x y}, rch A x y → rch (fun x y => A x y ∨ (x = a ∧ y = b) ∨ (x = b ∧ y = a)) x y := fun hr c hc => hr c (fun p q hpq => hc p q (Or.inl hpq))
  have hab : rch (fun x y => A x y ∨ (x = a ∧ y = b) ∨ (x = b ∧ y = a)) a b := rch_step (Or.inr (Or.inl ⟨rfl, rfl⟩))
  have hl : rch (fun x y => A x y ∨ (x = a ∧ y = b) ∨ (x = b ∧ y = a)) (max (L a) (L b)) (min (L a) (L b)) := by
    have e : rch (fun x y => A x y ∨ (x = a ∧ y = b) ∨ (x = b ∧ y = a)) (L a) (L b) := rch_trans (rch_symm (up (h.1 a ha).2)) (rch_trans hab (up (h.1 b hb).2))
    by_cases c : L a ≤ L b
    · rw [Nat.max_eq_right c, Nat.min_eq_left c]; exact rch_symm e
    · rw [Nat.max_eq_left (by omega), Nat.min_eq_right (by omega)]; exact e
  have hA := h.1 a ha
  have hB := h.1 b hb
  have iA := LBL_idem h ha
  have iB := LBL_idem h hb
  refine ⟨fun x => if L x = max (L a) (L b) then min (L a) (L b) else L x, ⟨fun x hx => ?_, fun p q hpq => ?_⟩, ?_⟩
  · have hX := h.1 x hx
    show (if L x = max (L a) (L b) then min (L a) (L b) else L x) ≤ x ∧ rch _ x (if L x = max (L a) (L b) then min (L a) (L b) else L x)
    by_cases c : L x = max (L a) (L b)
    · rw [if_pos c]
      refine ⟨by omega, ?_⟩
      have := up hX.2
      rw [c] at this
      exact rch_trans this hl
    · rw [if_neg c]; exact ⟨hX.1, up hX.2⟩
  · show (if L p = max (L a) (L b) then min (L a) (L b) else L p) = (if L q = max (L a) (L b) then min (L a) (L b) else L q)
    rcases hpq with e | ⟨rfl, rfl⟩ | ⟨rfl, rfl⟩
    · rw [h.2 p q e]
    · by_cases c : L p ≤ L q
      · rw [Nat.max_eq_right c, Nat.min_eq_left c, if_neg hne, if_pos rfl]
      · rw [Nat.max_eq_left (by omega), Nat.min_eq_right (by omega), if_pos rfl, if_neg (fun q => hne q.symm)]
    · by_cases c : L q ≤ L p
      · rw [Nat.max_eq_right c, Nat.min_eq_left c, if_pos rfl, if_neg hne]
      · rw [Nat.max_eq_left (by omega), Nat.min_eq_right (by omega), if_neg (fun q => hne q.symm), if_pos rfl]
  · have key : ∀ m M, M < n → L M = M → m < M → (∀ x, x < n → L x = x → True) → ∀ k, k ≤ n → cnt (fun s => (if L s = M then m else L s) == s) k + (if M < k then 1 else 0) = cnt (fun s => L s == s) k := by
      intro m M hM1 hM2 hm _ k
      induction k with
      | zero => intro _; simp [cnt]
      | succ k ih =>
        intro hk
        have ih' := ih (by omega)
        rw [cnt, cnt]
        have hLk := (h.1 k (by omega)).1
        by_cases c : L k = M
        · by_cases ck : k = M
          · subst ck
            simp [c] at ih' ⊢
            have : ¬ m = k := by omega
            simp [this]
            omega
          · have e1 : ¬ m = k := by omega
            have e2 : ¬ M = k := fun q => ck q.symm
            simp [c, e1, e2]
            have : (if M < k + 1 then 1 else 0) = (if M < k then 1 else 0) := by
              by_cases cc : M < k
              · rw [if_pos cc, if_pos (by omega)]
              · rw [if_neg cc, if_neg (by omega)]
            omega
        · have ck : ¬ k = M := fun q => by subst q; exact c hM2
          simp [c]
          have : (if M < k + 1 then 1 else 0) = (if M < k then 1 else 0) := by
            by_cases cc : M < k
            · rw [if_pos cc, if_pos (by omega)]
            · rw [if_neg cc, if_neg (by omega)]
          omega
    have hM : max (L a) (L b) < n := by omega
    have hMM : L (max (L a) (L b)) = max (L a) (L b) := by
      by_cases c : L a ≤ L b
      · rw [Nat.max_eq_right c]; exact iB
      · rw [Nat.max_eq_left (by omega)]; exact iA
    have := key (min (L a) (L b)) (max (L a) (L b)) hM hMM (by omega) (fun _ _ _ => trivial) n (Nat.le_refl _)
    rw [if_pos hM] at this
    exact this
