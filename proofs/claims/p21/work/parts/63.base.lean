/-! ===== pure: numbers, cells, loops ===== -/
theorem sv_nat {a : Nat} (h : a < 2147483648) : sv a = (a : Int) := by
  unfold sv; rw [mg_sI (by omega)]; unfold mg_sg; rw [if_pos h]
theorem sv_big {a : Nat} (h : ¬ a < 2147483648) (h2 : a < 4294967296) : sv a = (a : Int) - 4294967296 := by
  unfold sv; rw [mg_sI h2]; unfold mg_sg; rw [if_neg h]
theorem sv_eqN {a b : Nat} (ha : a < 4294967296) (hb : b < 4294967296) : (sv a = sv b) ↔ a = b := by
  by_cases h1 : a < 2147483648 <;> by_cases h2 : b < 2147483648
  · rw [sv_nat h1, sv_nat h2]; omega
  · rw [sv_nat h1, sv_big h2 hb]; omega
  · rw [sv_big h1 ha, sv_nat h2]; omega
  · rw [sv_big h1 ha, sv_big h2 hb]; omega
theorem sv_ltN {a b : Nat} (ha : a < 2147483648) (hb : b < 2147483648) : (sv a < sv b) ↔ a < b := by
  rw [sv_nat ha, sv_nat hb]; omega
theorem sv_eq0N {a : Nat} (ha : a < 4294967296) : (sv a = 0) ↔ a = 0 := by
  rw [← sv_0, sv_eqN ha (by omega)]
theorem sv_lt0N {a : Nat} (ha : a < 4294967296) : (sv a < 0) ↔ 2147483648 ≤ a := by
  by_cases h1 : a < 2147483648
  · rw [sv_nat h1]; omega
  · rw [sv_big h1 ha]; omega
theorem sv_gt0N {a : Nat} (ha : a < 2147483648) : (0 < sv a) ↔ 0 < a := by
  rw [sv_nat ha]; omega
theorem sb_le {a b : Nat} (h : b ≤ a) : sb a b = a - b := by unfold sb; rw [if_pos h]
theorem ue (g : mg_F) (k i j v k' i' j' : Nat) : mg_up g k i j v k' i' j' = if k' = k ∧ i' = i ∧ j' = j then v else g k' i' j' := by
  unfold mg_up mg_upr mg_us
  by_cases h : k' = k ∧ i' = i
  · rw [if_pos h]; obtain ⟨rfl, rfl⟩ := h; simp
  · rw [if_neg h, if_neg (fun q => h ⟨q.1, q.2.1⟩)]
theorem ure (g : mg_F) (k i : Nat) (r : Nat → Nat) (k' i' j' : Nat) : mg_upr g k i r k' i' j' = if k' = k ∧ i' = i then r j' else g k' i' j' := by
  unfold mg_upr
  split <;> rfl
theorem ck_t {p : Prop} [Decidable p] {o : mo} (h : p) : ck p o = o := if_pos h
theorem bd_s {r : Nat} {g : mg_F} {k : Nat → mg_F → mo} : bd (some (r, g)) k = k r g := rfl
theorem wr_s {g : mg_F} {k : mg_F → mo} : wr g k = k g := rfl
theorem jn_s {α : Type} {k : α → mg_F → mo} {f : (α → mg_F → mo) → mo} : jn k f = f k := rfl
/-- a search: the first place from v on, of m places, or NONE -/
def fs (p : Nat → Bool) : Nat → Nat → Nat
  | 0, _ => 4294967294
  | k + 1, v => if p v = true then v else fs p k (v + 1)
theorem fs_spec (p : Nat → Bool) : ∀ m v : Nat, (fs p m v = 4294967294 ∧ ∀ i, v ≤ i → i < v + m → p i = false) ∨ (v ≤ fs p m v ∧ fs p m v < v + m ∧ p (fs p m v) = true ∧ ∀ i, v ≤ i → i < fs p m v → p i = false) := by
  intro m
  induction m with
  | zero => intro v; left; exact ⟨rfl, fun i h1 h2 => by omega⟩
  | succ m ih =>
    intro v
    unfold fs
    by_cases h : p v = true
    · rw [if_pos h]; right; exact ⟨Nat.le_refl _, by omega, h, fun i h1 h2 => by omega⟩
    · rw [if_neg h]
      have hf : p v = false := by simpa using h
      rcases ih (v + 1) with ⟨e, q⟩ | ⟨q1, q2, q3, q4⟩
      · left; refine ⟨e, fun i h1 h2 => ?_⟩
        by_cases hi : i = v
        · rw [hi]; exact hf
        · exact q i (by omega) (by omega)
      · right; refine ⟨by omega, by omega, q3, fun i h1 h2 => ?_⟩
        by_cases hi : i = v
        · rw [hi]; exact hf
        · exact q4 i (by omega) (by omega)
theorem fs_none {p : Nat → Bool} {N : Nat} (h : ∀ i, i < N → p i = false) : fs p N 0 = 4294967294 := by
  rcases fs_spec p N 0 with ⟨e, _⟩ | ⟨_, q2, q3, _⟩
  · exact e
  · rw [h _ (by omega)] at q3; cases q3
theorem fs_at {p : Nat → Bool} {N r : Nat} (h0 : r < N) (h1 : p r = true) (h : ∀ i, i < r → p i = false) : fs p N 0 = r := by
  rcases fs_spec p N 0 with ⟨_, q⟩ | ⟨_, q2, q3, q4⟩
  · rw [q r (by omega) (by omega)] at h1; cases h1
  · by_cases c : fs p N 0 < r
    · rw [h _ c] at q3; cases q3
    · by_cases c2 : r < fs p N 0
      · rw [q4 r (by omega) c2] at h1; cases h1
      · omega
theorem fs_congr {p p' : Nat → Bool} {N : Nat} (h : ∀ i, i < N → p i = p' i) : fs p N 0 = fs p' N 0 := by
  rcases fs_spec p' N 0 with ⟨e, q⟩ | ⟨_, q2, q3, q4⟩
  · rw [e]; exact fs_none (fun i hi => by rw [h i hi]; exact q i (by omega) (by omega))
  · exact fs_at (by omega) (by rw [h _ (by omega)]; exact q3) (fun i hi => by rw [h i (by omega)]; exact q4 i (by omega) hi)
/-- loops that search -/
theorem lp_fs {L : Nat → Nat → mo} {K : mo} {p : Nat → Bool} {N : Nat} {g : mg_F} (hN : N < 4294967294) (h1 : ∀ n v, v < N → p v = true → L (n + 1) v = some (v, g)) (h2 : ∀ n v, v < N → p v = false → L (n + 1) v = L n (v + 1)) (h3 : ∀ n, L (n + 1) N = K) : ∀ m n v, v + m = N → m < n → L n v = if fs p m v = 4294967294 then K else some (fs p m v, g) := by
  intro m
  induction m with
  | zero =>
    intro n v e l
    obtain ⟨n, rfl⟩ : ∃ n', n = n' + 1 := ⟨n - 1, by omega⟩
    have : v = N := by omega
    rw [this, h3]; rfl
  | succ m ih =>
    intro n v e l
    obtain ⟨n, rfl⟩ : ∃ n', n = n' + 1 := ⟨n - 1, by omega⟩
    unfold fs
    by_cases h : p v = true
    · rw [h1 n v (by omega) h, if_pos h, if_neg (by omega)]
    · rw [h2 n v (by omega) (by simpa using h), if_neg h]
      exact ih n (v + 1) (by omega) (by omega)
/-- loops that go on -/
theorem lp_ex {α : Type} {L : Nat → α → Nat → mo} {K : α → mo} {I : Nat → α → Prop} {N : Nat} (hs : ∀ n x v, v < N → I v x → ∃ x', L (n + 1) x v = L n x' (v + 1) ∧ I (v + 1) x') (he : ∀ n x, I N x → L (n + 1) x N = K x) : ∀ m n x v, v + m = N → m < n → I v x → ∃ x', I N x' ∧ L n x v = K x' := by
  intro m
  induction m with
  | zero =>
    intro n x v e l hI
    obtain ⟨n, rfl⟩ : ∃ n', n = n' + 1 := ⟨n - 1, by omega⟩
    have : v = N := by omega
    subst this
    exact ⟨x, hI, he n x hI⟩
  | succ m ih =>
    intro n x v e l hI
    obtain ⟨n, rfl⟩ : ∃ n', n = n' + 1 := ⟨n - 1, by omega⟩
    obtain ⟨x', e1, hI'⟩ := hs n x v (by omega) hI
    obtain ⟨x2, q1, q2⟩ := ih n x' (v + 1) (by omega) (by omega) hI'
    exact ⟨x2, q1, e1.trans q2⟩
/-- distinct numbers below n are at most n -/
theorem pigeon : ∀ (n m : Nat) (f : Nat → Nat), (∀ i, i < m → f i < n) → (∀ i j, i < m → j < m → f i = f j → i = j) → m ≤ n := by
  intro n
  induction n with
  | zero => intro m f h _; cases m with
    | zero => omega
    | succ m => exact absurd (h 0 (by omega)) (by omega)
  | succ n ih =>
    intro m f h inj
    cases m with
    | zero => omega
    | succ m =>
      have key : m ≤ n := by
        by_cases c : ∃ i, i < m + 1 ∧ f i = n
        · obtain ⟨i0, hi0, e0⟩ := c
          refine ih m (fun i => if i = i0 then f m else f i) (fun i hi => ?_) (fun i j hi hj e => ?_)
          · show (if i = i0 then f m else f i) < n
            by_cases ci : i = i0
            · rw [if_pos ci]
              have := h m (by omega)
              have : f m ≠ n := fun q => by have := inj m i0 (by omega) hi0 (q.trans e0.symm); omega
              omega
            · rw [if_neg ci]
              have := h i (by omega)
              have : f i ≠ n := fun q => ci (inj i i0 (by omega) hi0 (q.trans e0.symm))
              omega
          · have e' : (if i = i0 then f m else f i) = (if j = i0 then f m else f j) := e
            by_cases ci : i = i0 <;> by_cases cj : j = i0
            · omega
            · rw [if_pos ci, if_neg cj] at e'; have := inj m j (by omega) (by omega) e'; omega
            · rw [if_neg ci, if_pos cj] at e'; have := inj i m (by omega) (by omega) e'; omega
            · rw [if_neg ci, if_neg cj] at e'; exact inj i j (by omega) (by omega) e'
        · refine ih m f (fun i hi => ?_) (fun i j hi hj => inj i j (by omega) (by omega))
          have := h i (by omega)
          have : f i ≠ n := fun q => c ⟨i, by omega, q⟩
          omega
      omega
/-- may grind be used -/
theorem grind_try (f : Nat → Nat) (h : ∀ i, i < 5 → f i = i + 1) : f 3 = 4 := by grind
