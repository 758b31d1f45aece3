/-! ===== trees: turned pointers, pointers laid from a holder ===== -/
theorem PF_ex {p : Nat → Nat} {e m o : Nat} (hm : m < 24) (inj : ∀ i j, i ≤ m → j ≤ m → pit p e i = pit p e j → i = j) : ∃ f, PF p e m o f := by
  refine ⟨fun x => if fs (fun j => pit p e j == x) (m + 1) 0 = 4294967294 then p x else if fs (fun j => pit p e j == x) (m + 1) 0 = 0 then o else pit p e (fs (fun j => pit p e j == x) (m + 1) 0 - 1), ?_, fun i hi => ?_, fun x hx => ?_⟩
  · have onF : fs (fun j => pit p e j == e) (m + 1) 0 = 0 := fs_at (by omega) (by simp [pit]) (fun j hj => by omega)
    show (if _ then _ else if _ then _ else _) = o
    rw [onF, if_neg (by omega), if_pos rfl]
  · have onF : fs (fun j => pit p e j == pit p e (i + 1)) (m + 1) 0 = i + 1 := by
      refine fs_at (by omega) (by simp) (fun j hj => ?_)
      have : pit p e j ≠ pit p e (i + 1) := fun q => by have := inj j (i + 1) (by omega) (by omega) q; omega
      simpa using this
    show (if _ then _ else if _ then _ else _) = _
    rw [onF, if_neg (by omega), if_neg (by omega), Nat.add_sub_cancel]
  · have offF : fs (fun j => pit p e j == x) (m + 1) 0 = 4294967294 := by
      refine fs_none (fun i hi => ?_)
      have : pit p e i ≠ x := fun q => hx i (by omega) q.symm
      simpa using this
    show (if _ then _ else _) = _
    rw [offF, if_pos rfl]
theorem PF_edge {n : Nat} {A : Nat → Nat → Prop} {p f : Nat → Nat} {e m o : Nat} (hn : n < 25) (h : PF p e m o f) (q2 : p (pit p e m) = 4294967294) (hA : ∀ x y, A x y → x < n ∧ y < n) (he : ∀ x y, A x y → p x = y ∨ p y = x) : ∀ x y, A x y → f x = y ∨ f y = x := by
  obtain ⟨f1, f2, f3⟩ := h
  have key : ∀ x y, x < n → y < n → p x = y → f x = y ∨ f y = x := by
    intro x y hx hy q
    by_cases c : ∃ i, i ≤ m ∧ x = pit p e i
    · obtain ⟨i, hi, rfl⟩ := c
      by_cases ci : i = m
      · rw [ci, q2] at q; omega
      · right
        have : f (pit p e (i + 1)) = pit p e i := f2 i (by omega)
        rw [← q]; exact this
    · left
      rw [f3 x (fun i hi q' => c ⟨i, hi, q'⟩)]; exact q
  intro x y hxy
  have hh := hA x y hxy
  rcases he x y hxy with q | q
  · exact key x y hh.1 hh.2 q
  · exact (key y x hh.2 hh.1 q).symm
/-- the turned pointers fall too -/
theorem PF_fall {n e o m : Nat} {p f d Lb : Nat → Nat} (hn : n < 25) (hoo : o < n) (hne : Lb e ≠ Lb o) (hm : m < n) (q1 : ∀ i, i ≤ m → pit p e i < n ∧ Lb (pit p e i) = Lb e) (inj : ∀ i j, i ≤ m → j ≤ m → pit p e i = pit p e j → i = j) (hp : ∀ x, x < n → p x = 4294967294 ∨ (p x < n ∧ Lb (p x) = Lb x ∧ d (p x) < d x)) (h : PF p e m o f) : ∃ d' : Nat → Nat, ∀ x, x < n → f x ≠ 4294967294 → d' (f x) < d' x := by
  obtain ⟨f1, f2, f3⟩ := h
  obtain ⟨D, hD⟩ := dbound d 24
  have onF : ∀ i, i ≤ m → fs (fun j => pit p e j == pit p e i) (m + 1) 0 = i := fun i hi => by
    refine fs_at (by omega) (by simp) (fun j hj => ?_)
    have : pit p e j ≠ pit p e i := fun q => by have := inj j i (by omega) hi q; omega
    simpa using this
  have offF : ∀ x, (∀ i, i ≤ m → x ≠ pit p e i) → fs (fun j => pit p e j == x) (m + 1) 0 = 4294967294 := fun x hx => by
    refine fs_none (fun i hi => ?_)
    have : pit p e i ≠ x := fun q => hx i (by omega) q.symm
    simpa using this
  have ong : ∀ i, i ≤ m → (if fs (fun j => pit p e j == pit p e i) (m + 1) 0 = 4294967294 then (if Lb (pit p e i) = Lb e then D + 30 + d (pit p e i) else d (pit p e i)) else D + 1 + fs (fun j => pit p e j == pit p e i) (m + 1) 0) = D + 1 + i := fun i hi => by
    rw [onF i hi, if_neg (by omega)]
  have offg : ∀ x, (∀ i, i ≤ m → x ≠ pit p e i) → (if fs (fun j => pit p e j == x) (m + 1) 0 = 4294967294 then (if Lb x = Lb e then D + 30 + d x else d x) else D + 1 + fs (fun j => pit p e j == x) (m + 1) 0) = if Lb x = Lb e then D + 30 + d x else d x := fun x hx => by
    rw [offF x hx, if_pos rfl]
  have onp : ∀ x, (∃ i, i ≤ m ∧ x = pit p e i) ∨ (∀ i, i ≤ m → x ≠ pit p e i) := fun x => by
    by_cases c : ∃ i, i ≤ m ∧ x = pit p e i
    · left; exact c
    · right; intro i hi q; exact c ⟨i, hi, q⟩
  refine ⟨fun x => if fs (fun j => pit p e j == x) (m + 1) 0 = 4294967294 then (if Lb x = Lb e then D + 30 + d x else d x) else D + 1 + fs (fun j => pit p e j == x) (m + 1) 0, fun x hx hx2 => ?_⟩
  show (if fs (fun j => pit p e j == f x) (m + 1) 0 = 4294967294 then _ else _) < (if fs (fun j => pit p e j == x) (m + 1) 0 = 4294967294 then _ else _)
  rcases onp x with ⟨i, hi, rfl⟩ | c
  · rw [ong i hi]
    cases i with
    | zero =>
      rw [show f (pit p e 0) = o from f1]
      have oo : ∀ i, i ≤ m → o ≠ pit p e i := fun i hi q => hne (by rw [q]; exact (q1 i hi).2.symm)
      rw [offg o oo, if_neg (fun q => hne q.symm)]
      have := hD o (by omega)
      omega
    | succ i =>
      rw [f2 i (by omega), ong i (by omega)]
      omega
  · rw [f3 x c] at hx2 ⊢
    rw [offg x c]
    have hy : p x < n ∧ Lb (p x) = Lb x ∧ d (p x) < d x := by
      rcases hp x hx with q | q
      · exact absurd q hx2
      · exact q
    rcases onp (p x) with ⟨i, hi, hii⟩ | c2
    · have hLx : Lb x = Lb e := by rw [← hy.2.1, hii]; exact (q1 i hi).2
      rw [hii, ong i hi, if_pos hLx]
      omega
    · rw [offg _ c2, hy.2.1]
      by_cases c3 : Lb x = Lb e
      · rw [if_pos c3, if_pos c3]; have := hy.2.2; omega
      · rw [if_neg c3, if_neg c3]; exact hy.2.2
/-- pointers laid from a holder -/
def JP (n : Nat) (A : Nat → Nat → Prop) (h : Nat) (P : Nat → Nat) : Prop := P h = h ∧ ∃ e : Nat → Nat, ∀ y, y < n → y ≠ h → P y ≠ 4294967294 → (P y < n ∧ A y (P y) ∧ P (P y) ≠ 4294967294 ∧ e (P y) < e y)
theorem JP_step {n h s t : Nat} {A : Nat → Nat → Prop} {P : Nat → Nat} (hn : n < 25) (hh : h < n) (hs : s < n) (ht : t < n) (hA : A t s) (h1 : P s ≠ 4294967294) (h2 : P t = 4294967294) (hJ : JP n A h P) : JP n A h (fun y => if y = t then s else P y) := by
  obtain ⟨j1, e, j2⟩ := hJ
  have hth : t ≠ h := fun q => by rw [q, j1] at h2; omega
  have hst : s ≠ t := fun q => h1 (by rw [q]; exact h2)
  refine ⟨by show (if h = t then s else P h) = h; rw [if_neg (fun q => hth q.symm)]; exact j1, fun y => if y = t then e s + 1 else e y, fun y hy hyh hyp => ?_⟩
  show (if y = t then s else P y) < n ∧ A y (if y = t then s else P y) ∧ (if (if y = t then s else P y) = t then s else P (if y = t then s else P y)) ≠ 4294967294 ∧ (if (if y = t then s else P y) = t then e s + 1 else e (if y = t then s else P y)) < (if y = t then e s + 1 else e y)
  by_cases c : y = t
  · rw [if_pos c, if_pos c, if_neg hst, if_neg hst, c]
    exact ⟨hs, hA, h1, by omega⟩
  · have hyp' : P y ≠ 4294967294 := by
      have t' : (if y = t then s else P y) ≠ 4294967294 := hyp
      rw [if_neg c] at t'; exact t'
    obtain ⟨k1, k2, k3, k4⟩ := j2 y hy hyh hyp'
    have hpt : P y ≠ t := fun q => k3 (by rw [q]; exact h2)
    rw [if_neg c, if_neg c, if_neg hpt, if_neg hpt]
    exact ⟨k1, k2, k3, k4⟩
theorem JP_lt {n h : Nat} {A : Nat → Nat → Prop} {P : Nat → Nat} (hh : h < n) (hn : n < 25) (hJ : JP n A h P) {y : Nat} (hy : y < n) : P y < 4294967296 := by
  obtain ⟨j1, e, j2⟩ := hJ
  by_cases c : y = h
  · rw [c, j1]; omega
  · by_cases c2 : P y = 4294967294
    · omega
    · have := (j2 y hy c c2).1; omega
theorem JP_rch {n h : Nat} {A : Nat → Nat → Prop} {P : Nat → Nat} (hJ : JP n A h P) {y : Nat} (hy : y < n) (hp : P y ≠ 4294967294) : rch A h y := by
  obtain ⟨j1, e, j2⟩ := hJ
  have key : ∀ D y, e y < D → y < n → P y ≠ 4294967294 → rch A h y := by
    intro D
    induction D with
    | zero => intro y h; omega
    | succ D ih =>
      intro y hD hy hp
      by_cases c : y = h
      · rw [c]; exact rch_refl
      · obtain ⟨k1, k2, k3, k4⟩ := j2 y hy c hp
        exact rch_trans (ih (P y) (by omega) k1 k3) (rch_symm (rch_step k2))
  exact key (e y + 1) y (by omega) hy hp
/-- a round: what was reached stays, its neighbours are reached -/
def JR (n : Nat) (A : Nat → Nat → Prop) (h : Nat) (P P' : Nat → Nat) : Prop := JP n A h P' ∧ (∀ y, y < n → P y ≠ 4294967294 → P' y = P y) ∧ (∀ s t, A s t → P s ≠ 4294967294 → P' t ≠ 4294967294)
theorem JR_grow {n h r : Nat} {A : Nat → Nat → Prop} {P P' : Nat → Nat} (hh : h < n) (hn : n < 25) (hA : ∀ a b, A a b → a < n ∧ b < n) (hsym : ∀ a b, A a b → A b a) (hJ0 : JP n A h P) (hR : JR n A h P P') (hc : clo A (fun y => decide (y < n ∧ P y ≠ 4294967294)) ∨ r ≤ cnt (fun y => decide (y < n ∧ P y ≠ 4294967294)) n) : clo A (fun y => decide (y < n ∧ P' y ≠ 4294967294)) ∨ r + 1 ≤ cnt (fun y => decide (y < n ∧ P' y ≠ 4294967294)) n := by
  obtain ⟨r1, r2, r3⟩ := hR
  refine grow (S := fun y => decide (y < n ∧ P y ≠ 4294967294)) (fun a b h => (hA a b h).2) (fun i hi => ?_) (fun a b hab ha => ?_) (fun hcl i hi => ?_) hc
  · have hi' : i < n ∧ P i ≠ 4294967294 := by simpa using hi
    have := r2 i hi'.1 hi'.2
    simp only [decide_eq_true_eq]
    rw [this]; exact hi'
  · have ha' : a < n ∧ P a ≠ 4294967294 := by simpa using ha
    simp only [decide_eq_true_eq]
    exact ⟨(hA a b hab).2, r3 a b hab ha'.2⟩
  · have hi' : i < n ∧ P' i ≠ 4294967294 := by simpa using hi
    refine clo_rch hsym hcl (JP_rch r1 hi'.1 hi'.2) ?_
    simp only [decide_eq_true_eq]
    exact ⟨hh, by rw [hJ0.1]; omega⟩
theorem JP_all {n h : Nat} {A : Nat → Nat → Prop} {P : Nat → Nat} (hh : h < n) (hn : n < 25) (hsym : ∀ a b, A a b → A b a) (hcon : ∀ y, y < n → rch A h y) (hJ : JP n A h P) (hc : clo A (fun y => decide (y < n ∧ P y ≠ 4294967294)) ∨ n + 1 ≤ cnt (fun y => decide (y < n ∧ P y ≠ 4294967294)) n) : ∀ y, y < n → P y ≠ 4294967294 := by
  have hcl : clo A (fun y => decide (y < n ∧ P y ≠ 4294967294)) := by
    rcases hc with q | q
    · exact q
    · have := cnt_le (fun y => decide (y < n ∧ P y ≠ 4294967294)) n; omega
  intro y hy
  have := clo_rch hsym hcl (hcon y hy) (by
    simp only [decide_eq_true_eq]
    exact ⟨hh, by rw [hJ.1]; omega⟩)
  have t : y < n ∧ P y ≠ 4294967294 := by simpa using this
  exact t.2
theorem JP_uniq {n h : Nat} {A : Nat → Nat → Prop} {P f : Nat → Nat} (hf : ∀ x y, A x y → f x = y ∨ f y = x) (hfh : f h = h) (hJ : JP n A h P) (hall : ∀ y, y < n → P y ≠ 4294967294) : ∀ y, y < n → P y = f y := by
  obtain ⟨j1, e, j2⟩ := hJ
  have key : ∀ D y, e y < D → y < n → P y = f y := by
    intro D
    induction D with
    | zero => intro y h; omega
    | succ D ih =>
      intro y hD hy
      by_cases c : y = h
      · rw [c, j1, hfh]
      · obtain ⟨k1, k2, k3, k4⟩ := j2 y hy c (hall y hy)
        rcases hf y (P y) k2 with q | q
        · exact q.symm
        · by_cases c2 : P y = h
          · rw [c2, hfh] at q; exact absurd q.symm c
          · have hi := ih (P y) (by omega) k1
            have k5 := (j2 (P y) k1 c2 k3).2.2.2
            rw [hi, q] at k5
            omega
  intro y hy
  exact key (e y + 1) y (by omega) hy
section POINT
variable {g : mg_F} {n h : Nat} {A : Nat → Nat → Prop}
theorem q_pnt {x : mg_F} {s : Nat} (hA : ∀ a b, A a b ↔ (a < 24 ∧ b < 24 ∧ (g 10 0 a).testBit b = true)) (hN : ∀ a, a < 24 → g 10 0 a < 16777216) (hn : g 0 0 1 = n) (hn2 : n < 25) (hh : h < n) (hAn : ∀ a b, A a b → a < n ∧ b < n) (hsym : ∀ a b, A a b → A b a) (hx : ∀ k i j, ¬ (k = 3 ∧ j = 2) → x k i j = g k i j) (hJ : JP n A h (fun y => x 3 y 2)) (hs : s < n) (hsp : x 3 s 2 ≠ 4294967294) : ∃ x', P_X4_pointNeighboursTo s x = some (0, x') ∧ (∀ k i j, ¬ (k = 3 ∧ j = 2) → x' k i j = g k i j) ∧ JP n A h (fun y => x' 3 y 2) ∧ (∀ y, y < n → x 3 y 2 ≠ 4294967294 → x' 3 y 2 = x 3 y 2) ∧ (∀ t, A s t → x' 3 t 2 ≠ 4294967294) := by
  unfold P_X4_pointNeighboursTo
  obtain ⟨x', ⟨i1, i2, i3, i4⟩, e2⟩ := lp_ex (L := fun m x v => L_X4_pointNeighboursTo_2 s (fun w12 g13 => some (0, g13)) m v x) (K := fun x => some (0, x)) (I := fun v x' => (∀ k i j, ¬ (k = 3 ∧ j = 2) → x' k i j = g k i j) ∧ JP n A h (fun y => x' 3 y 2) ∧ (∀ y, y < n → x 3 y 2 ≠ 4294967294 → x' 3 y 2 = x 3 y 2) ∧ (∀ t, t < v → A s t → x' 3 t 2 ≠ 4294967294)) (N := n) (by
    intro m y v hv hI
    obtain ⟨i1, i2, i3, i4⟩ := hI
    have e0 : y 0 0 1 = n := by rw [i1 0 0 1 (by omega)]; exact hn
    have e10 : y 10 0 s = g 10 0 s := i1 10 0 s (by omega)
    have hlt := JP_lt hh hn2 i2 hv
    have hys : y 3 s 2 ≠ 4294967294 := by rw [i3 s hs hsp]; exact hsp
    by_cases c : (g 10 0 s).testBit v = true
    · have hA1 : A s v := (hA s v).mpr ⟨by omega, by omega, c⟩
      by_cases c2 : y 3 v 2 = 4294967294
      · refine ⟨mg_up y 3 v 2 s, ?_, fun k i j hk => by rw [ue, if_neg (by omega)]; exact i1 k i j hk, ?_, fun z hz hzp => ?_, fun t ht hst => ?_⟩
        · show L_X4_pointNeighboursTo_2 s _ (m + 1) v y = _
          rw [L_X4_pointNeighboursTo_2, e0, if_pos ((sv_ltN (by omega) (by omega)).mpr hv), q_lkd (by omega) (by omega) (by rw [e10]; have := hN s (by omega); omega), bd_s, jn_s, e10, if_pos c, if_neg sv10, ck_t (by omega), if_pos (by rw [c2]), wr_s]
        · have := JP_step hn2 hh hs hv (hsym s v hA1) hys c2 i2
          have ef : (fun z => mg_up y 3 v 2 s 3 z 2) = fun z => if z = v then s else y 3 z 2 := by
            funext z; rw [ue]
            by_cases cz : z = v
            · rw [if_pos ⟨rfl, cz, rfl⟩, if_pos cz]
            · rw [if_neg (fun q => cz q.2.1), if_neg cz]
          rw [ef]; exact this
        · rw [ue, if_neg (fun q => by
            have := i3 z hz hzp
            rw [q.2.1, c2] at this
            rw [q.2.1] at hzp
            exact hzp this.symm)]
          exact i3 z hz hzp
        · rw [ue]
          by_cases ct : t = v
          · rw [if_pos ⟨rfl, ct, rfl⟩]; omega
          · rw [if_neg (fun q => ct q.2.1)]; exact i4 t (by omega) hst
      · refine ⟨y, ?_, i1, i2, i3, fun t ht hst => ?_⟩
        · show L_X4_pointNeighboursTo_2 s _ (m + 1) v y = _
          rw [L_X4_pointNeighboursTo_2, e0, if_pos ((sv_ltN (by omega) (by omega)).mpr hv), q_lkd (by omega) (by omega) (by rw [e10]; have := hN s (by omega); omega), bd_s, jn_s, e10, if_pos c, if_neg sv10, ck_t (by omega), if_neg (by rw [sv_eqN hlt (by omega)]; exact c2)]
        · by_cases ct : t = v
          · rw [ct]; exact c2
          · exact i4 t (by omega) hst
    · refine ⟨y, ?_, i1, i2, i3, fun t ht hst => ?_⟩
      · show L_X4_pointNeighboursTo_2 s _ (m + 1) v y = _
        rw [L_X4_pointNeighboursTo_2, e0, if_pos ((sv_ltN (by omega) (by omega)).mpr hv), q_lkd (by omega) (by omega) (by rw [e10]; have := hN s (by omega); omega), bd_s, jn_s, e10, if_neg c, if_pos sv_0]
      · by_cases ct : t = v
        · rw [ct] at hst; exact absurd ((hA s v).mp hst).2.2 c
        · exact i4 t (by omega) hst) (by
    intro m y hI
    have e0 : y 0 0 1 = n := by rw [hI.1 0 0 1 (by omega)]; exact hn
    show L_X4_pointNeighboursTo_2 s _ (m + 1) n y = _
    rw [L_X4_pointNeighboursTo_2, e0, if_neg (by omega)]) n 4000 x 0 (by omega) (by omega) ⟨hx, hJ, fun _ _ _ => rfl, fun t ht => by omega⟩
  exact ⟨x', e2, i1, i2, i3, fun t ht => i4 t (hAn s t ht).2 ht⟩
theorem q_pall (hA : ∀ a b, A a b ↔ (a < 24 ∧ b < 24 ∧ (g 10 0 a).testBit b = true)) (hN : ∀ a, a < 24 → g 10 0 a < 16777216) (hn : g 0 0 1 = n) (hn2 : n < 25) (hh : h < n) (hAn : ∀ a b, A a b → a < n ∧ b < n) (hsym : ∀ a b, A a b → A b a) (hcon : ∀ y, y < n → rch A h y) (h0 : ∀ y, y < n → g 3 y 2 = 4294967294) : ∃ x', P_X4_pointAllTo h g = some (0, x') ∧ (∀ k i j, ¬ (k = 3 ∧ j = 2) → x' k i j = g k i j) ∧ JP n A h (fun y => x' 3 y 2) ∧ (∀ y, y < n → x' 3 y 2 ≠ 4294967294) := by
  unfold P_X4_pointAllTo
  rw [ck_t (by omega), wr_s]
  have rnd : ∀ (x : mg_F) (r : Nat) (k : Nat → mg_F → mo), (∀ k i j, ¬ (k = 3 ∧ j = 2) → x k i j = g k i j) → JP n A h (fun y => x 3 y 2) → ∃ x', (∀ k i j, ¬ (k = 3 ∧ j = 2) → x' k i j = g k i j) ∧ JR n A h (fun y => x 3 y 2) (fun y => x' 3 y 2) ∧ L_X4_pointAllTo_25 h r k 4000 0 x = k n x' := by
    intro x r k hx hJ
    obtain ⟨x', ⟨i1, i2, i3, i4⟩, e2⟩ := lp_ex (L := fun m x v => L_X4_pointAllTo_25 h r k m v x) (K := fun x => k n x) (I := fun v x' => (∀ k i j, ¬ (k = 3 ∧ j = 2) → x' k i j = g k i j) ∧ JP n A h (fun y => x' 3 y 2) ∧ (∀ y, y < n → x 3 y 2 ≠ 4294967294 → x' 3 y 2 = x 3 y 2) ∧ (∀ s t, s < v → A s t → x 3 s 2 ≠ 4294967294 → x' 3 t 2 ≠ 4294967294)) (N := n) (by
      intro m y v hv hI
      obtain ⟨i1, i2, i3, i4⟩ := hI
      have e0 : y 0 0 1 = n := by rw [i1 0 0 1 (by omega)]; exact hn
      have hlt := JP_lt hh hn2 i2 hv
      by_cases c2 : y 3 v 2 = 4294967294
      · refine ⟨y, ?_, i1, i2, i3, fun s t hs hst hsp => ?_⟩
        · show L_X4_pointAllTo_25 h r k (m + 1) v y = _
          rw [L_X4_pointAllTo_25, e0, if_pos ((sv_ltN (by omega) (by omega)).mpr hv), ck_t (by omega), jn_s, if_pos (by rw [c2])]
        · by_cases cs : s = v
          · rw [cs] at hsp
            have := i3 v hv hsp
            rw [c2] at this; exact absurd this.symm hsp
          · exact i4 s t (by omega) hst hsp
      · obtain ⟨y', k0, k1, k2, k3, k4⟩ := q_pnt hA hN hn hn2 hh hAn hsym i1 i2 hv c2
        refine ⟨y', ?_, k1, k2, fun z hz hzp => ?_, fun s t hs hst hsp => ?_⟩
        · show L_X4_pointAllTo_25 h r k (m + 1) v y = _
          rw [L_X4_pointAllTo_25, e0, if_pos ((sv_ltN (by omega) (by omega)).mpr hv), ck_t (by omega), jn_s, if_neg (by rw [sv_eqN hlt (by omega)]; exact c2), k0, bd_s]
        · rw [k3 z hz (by rw [i3 z hz hzp]; exact hzp), i3 z hz hzp]
        · by_cases cs : s = v
          · rw [cs] at hst; exact k4 t hst
          · have t1 := i4 s t (by omega) hst hsp
            rw [k3 t (hAn s t hst).2 t1]; exact t1) (by
      intro m y hI
      have e0 : y 0 0 1 = n := by rw [hI.1 0 0 1 (by omega)]; exact hn
      show L_X4_pointAllTo_25 h r k (m + 1) n y = _
      rw [L_X4_pointAllTo_25, e0, if_neg (by omega)]) n 4000 x 0 (by omega) (by omega) ⟨hx, hJ, fun _ _ _ => rfl, fun s t hs => by omega⟩
    exact ⟨x', i1, ⟨i2, i3, fun s t hst hsp => i4 s t (hAn s t hst).1 hst hsp⟩, e2⟩
  have st1 : ∀ y, (fun y => mg_up g 3 h 2 h 3 y 2) y = if y = h then h else g 3 y 2 := fun y => by
    show mg_up g 3 h 2 h 3 y 2 = _
    rw [ue]
    by_cases cz : y = h
    · rw [if_pos ⟨rfl, cz, rfl⟩, if_pos cz]
    · rw [if_neg (fun q => cz q.2.1), if_neg cz]
  have J0 : JP n A h (fun y => mg_up g 3 h 2 h 3 y 2) := by
    refine ⟨by rw [st1, if_pos rfl], fun _ => 0, fun y hy hyh hyp => ?_⟩
    rw [st1, if_neg hyh, h0 y hy] at hyp
    exact absurd rfl hyp
  obtain ⟨x', ⟨i1, i2, i3⟩, e2⟩ := lp_ex (L := fun m x v => L_X4_pointAllTo_12 h (fun w12 g13 => some (0, g13)) m v x) (K := fun x => some (0, x)) (I := fun r x' => (∀ k i j, ¬ (k = 3 ∧ j = 2) → x' k i j = g k i j) ∧ JP n A h (fun y => x' 3 y 2) ∧ (clo A (fun y => decide (y < n ∧ x' 3 y 2 ≠ 4294967294)) ∨ r + 1 ≤ cnt (fun y => decide (y < n ∧ x' 3 y 2 ≠ 4294967294)) n)) (N := n) (by
    intro m y r hr hI
    obtain ⟨i1, i2, i3⟩ := hI
    have e0 : y 0 0 1 = n := by rw [i1 0 0 1 (by omega)]; exact hn
    obtain ⟨y', k1, k2, k3⟩ := rnd y r (fun w10 g11 => L_X4_pointAllTo_12 h (fun w12 g13 => some (0, g13)) m (r + 1) g11) i1 i2
    refine ⟨y', ?_, k1, k2.1, JR_grow hh hn2 hAn hsym i2 k2 i3⟩
    show L_X4_pointAllTo_12 h _ (m + 1) r y = _
    rw [L_X4_pointAllTo_12, e0, if_pos ((sv_ltN (by omega) (by omega)).mpr hr), k3]) (by
    intro m y hI
    have e0 : y 0 0 1 = n := by rw [hI.1 0 0 1 (by omega)]; exact hn
    show L_X4_pointAllTo_12 h _ (m + 1) n y = _
    rw [L_X4_pointAllTo_12, e0, if_neg (by omega)]) n 4000 (mg_up g 3 h 2 h) 0 (by omega) (by omega) ⟨fun k i j hk => by rw [ue, if_neg (by omega)], J0, Or.inr (cnt_pos (w := h) hh (by
      simp only [decide_eq_true_eq]
      refine ⟨hh, ?_⟩
      rw [ue, if_pos ⟨rfl, rfl, rfl⟩]; omega))⟩
  exact ⟨x', e2, i1, i2, JP_all hh hn2 hsym hcon i2 i3⟩
/-- the reference's rounds -/
theorem m_pall {a1 a2 a3 : Nat} (hA : ∀ a b, A a b ↔ (a < 24 ∧ b < 24 ∧ g 35 0 (24 * a + b) = 1)) (h35 : ∀ a b, a < 24 → b < 24 → g 35 0 (24 * a + b) < 2) (hn : g 5 0 0 = n) (hn2 : n < 25) (hh : h < n) (hAn : ∀ a b, A a b → a < n ∧ b < n) (hsym : ∀ a b, A a b → A b a) (hcon : ∀ y, y < n → rch A h y) (h0 : ∀ y, y < n → g 36 0 y = if y = h then h else 4294967294) : ∃ x', L_X5_open_220 a1 a2 a3 (fun w22 g23 => some (0, g23)) 4000 0 g = some (0, x') ∧ (∀ k i j, k ≠ 36 → x' k i j = g k i j) ∧ JP n A h (x' 36 0) ∧ (∀ y, y < n → x' 36 0 y ≠ 4294967294) := by
  have inn : ∀ (x : mg_F) (r a : Nat) (k : Nat → mg_F → mo), a < n → (∀ k i j, k ≠ 36 → x k i j = g k i j) → JP n A h (x 36 0) → ∃ x', (∀ k i j, k ≠ 36 → x' k i j = g k i j) ∧ JP n A h (x' 36 0) ∧ (∀ y, y < n → x 36 0 y ≠ 4294967294 → x' 36 0 y = x 36 0 y) ∧ (∀ b, A a b → x 36 0 b ≠ 4294967294 → x' 36 0 a ≠ 4294967294) ∧ L_X5_open_244 a1 a2 a3 r a k 4000 0 x = k n x' := by
    intro x r a k ha hx hJ
    obtain ⟨x', ⟨i1, i2, i3, i4⟩, e2⟩ := lp_ex (L := fun m x v => L_X5_open_244 a1 a2 a3 r a k m v x) (K := fun x => k n x) (I := fun v x' => (∀ k i j, k ≠ 36 → x' k i j = g k i j) ∧ JP n A h (x' 36 0) ∧ (∀ y, y < n → x 36 0 y ≠ 4294967294 → x' 36 0 y = x 36 0 y) ∧ (∀ b, b < v → A a b → x 36 0 b ≠ 4294967294 → x' 36 0 a ≠ 4294967294)) (N := n) (by
      intro m y v hv hI
      obtain ⟨i1, i2, i3, i4⟩ := hI
      have e0 : y 5 0 0 = n := by rw [i1 5 0 0 (by omega)]; exact hn
      have e35 : y 35 0 (24 * a + v) = g 35 0 (24 * a + v) := i1 35 0 _ (by omega)
      have l35 := h35 a v (by omega) (by omega)
      have hla := JP_lt hh hn2 i2 ha
      have hlv := JP_lt hh hn2 i2 hv
      by_cases c : g 35 0 (24 * a + v) = 1
      · have hA1 : A a v := (hA a v).mpr ⟨by omega, by omega, c⟩
        by_cases c2 : y 36 0 a = 4294967294
        · by_cases c3 : y 36 0 v = 4294967294
          · refine ⟨mg_up y 36 0 a (y 36 0 a), ?_, ?_⟩
            · show L_X5_open_244 a1 a2 a3 r a k (m + 1) v y = _
              rw [L_X5_open_244, e0, if_pos ((sv_ltN (by omega) (by omega)).mpr hv), ck_t (by omega), jn_s, e35, c, if_neg sv10, ck_t (by omega), if_pos (by rw [c2]), ck_t (by omega), if_pos (by rw [c3])]
              exact ck_t (by omega)
            · rw [up_same]
              refine ⟨i1, i2, i3, fun b hb hab hbp => ?_⟩
              by_cases cb : b = v
              · rw [cb] at hbp
                have := i3 v hv hbp
                rw [c3] at this; exact absurd this.symm hbp
              · exact i4 b (by omega) hab hbp
          · refine ⟨mg_up y 36 0 a v, ?_, fun k i j hk => by rw [ue, if_neg (by omega)]; exact i1 k i j hk, ?_, fun z hz hzp => ?_, fun b hb hab hbp => ?_⟩
            · show L_X5_open_244 a1 a2 a3 r a k (m + 1) v y = _
              rw [L_X5_open_244, e0, if_pos ((sv_ltN (by omega) (by omega)).mpr hv), ck_t (by omega), jn_s, e35, c, if_neg sv10, ck_t (by omega), if_pos (by rw [c2]), ck_t (by omega), if_neg (by rw [sv_eqN hlv (by omega)]; exact c3)]
              exact ck_t (by omega)
            · have := JP_step hn2 hh hv ha hA1 c3 c2 i2
              have ef : (mg_up y 36 0 a v 36 0) = fun z => if z = a then v else y 36 0 z := by
                funext z; rw [ue]
                by_cases cz : z = a
                · rw [if_pos ⟨rfl, rfl, cz⟩, if_pos cz]
                · rw [if_neg (fun q => cz q.2.2), if_neg cz]
              rw [ef]; exact this
            · rw [ue, if_neg (fun q => by
                have := i3 z hz hzp
                rw [q.2.2, c2] at this
                rw [q.2.2] at hzp
                exact hzp this.symm)]
              exact i3 z hz hzp
            · rw [ue, if_pos ⟨rfl, rfl, rfl⟩]; omega
        · refine ⟨mg_up y 36 0 a (y 36 0 a), ?_, ?_⟩
          · show L_X5_open_244 a1 a2 a3 r a k (m + 1) v y = _
            rw [L_X5_open_244, e0, if_pos ((sv_ltN (by omega) (by omega)).mpr hv), ck_t (by omega), jn_s, e35, c, if_neg sv10, ck_t (by omega), if_neg (by rw [sv_eqN hla (by omega)]; exact c2)]
            exact ck_t (by omega)
          · rw [up_same]
            exact ⟨i1, i2, i3, fun b hb hab hbp => c2⟩
      · refine ⟨mg_up y 36 0 a (y 36 0 a), ?_, ?_⟩
        · show L_X5_open_244 a1 a2 a3 r a k (m + 1) v y = _
          rw [L_X5_open_244, e0, if_pos ((sv_ltN (by omega) (by omega)).mpr hv), ck_t (by omega), jn_s, e35, show g 35 0 (24 * a + v) = 0 by omega, if_pos sv_0, ck_t (by omega)]
          exact ck_t (by omega)
        · rw [up_same]
          refine ⟨i1, i2, i3, fun b hb hab hbp => ?_⟩
          by_cases cb : b = v
          · rw [cb] at hab; exact absurd ((hA a v).mp hab).2.2 c
          · exact i4 b (by omega) hab hbp) (by
      intro m y hI
      have e0 : y 5 0 0 = n := by rw [hI.1 5 0 0 (by omega)]; exact hn
      show L_X5_open_244 a1 a2 a3 r a k (m + 1) n y = _
      rw [L_X5_open_244, e0, if_neg (by omega)]) n 4000 x 0 (by omega) (by omega) ⟨hx, hJ, fun _ _ _ => rfl, fun b hb => by omega⟩
    exact ⟨x', i1, i2, i3, fun b hab => i4 b (hAn a b hab).2 hab, e2⟩
  have rnd : ∀ (x : mg_F) (r : Nat) (k : Nat → mg_F → mo), (∀ k i j, k ≠ 36 → x k i j = g k i j) → JP n A h (x 36 0) → ∃ x', (∀ k i j, k ≠ 36 → x' k i j = g k i j) ∧ JR n A h (x 36 0) (x' 36 0) ∧ L_X5_open_232 a1 a2 a3 r k 4000 0 x = k n x' := by
    intro x r k hx hJ
    obtain ⟨x', ⟨i1, i2, i3, i4⟩, e2⟩ := lp_ex (L := fun m x v => L_X5_open_232 a1 a2 a3 r k m v x) (K := fun x => k n x) (I := fun v x' => (∀ k i j, k ≠ 36 → x' k i j = g k i j) ∧ JP n A h (x' 36 0) ∧ (∀ y, y < n → x 36 0 y ≠ 4294967294 → x' 36 0 y = x 36 0 y) ∧ (∀ a b, a < v → A a b → x 36 0 b ≠ 4294967294 → x' 36 0 a ≠ 4294967294)) (N := n) (by
      intro m y v hv hI
      obtain ⟨i1, i2, i3, i4⟩ := hI
      have e0 : y 5 0 0 = n := by rw [i1 5 0 0 (by omega)]; exact hn
      obtain ⟨y', k1, k2, k3, k4, k5⟩ := inn y r v (fun w15 g16 => L_X5_open_232 a1 a2 a3 r k m (v + 1) g16) hv i1 i2
      refine ⟨y', ?_, k1, k2, fun z hz hzp => ?_, fun a b ha hab hbp => ?_⟩
      · show L_X5_open_232 a1 a2 a3 r k (m + 1) v y = _
        rw [L_X5_open_232, e0, if_pos ((sv_ltN (by omega) (by omega)).mpr hv), k5]
      · rw [k3 z hz (by rw [i3 z hz hzp]; exact hzp), i3 z hz hzp]
      · by_cases ca : a = v
        · rw [ca] at hab ⊢
          exact k4 b hab (by rw [i3 b (hAn v b hab).2 hbp]; exact hbp)
        · have t1 := i4 a b (by omega) hab hbp
          rw [k3 a (hAn a b hab).1 t1]; exact t1) (by
      intro m y hI
      have e0 : y 5 0 0 = n := by rw [hI.1 5 0 0 (by omega)]; exact hn
      show L_X5_open_232 a1 a2 a3 r k (m + 1) n y = _
      rw [L_X5_open_232, e0, if_neg (by omega)]) n 4000 x 0 (by omega) (by omega) ⟨hx, hJ, fun _ _ _ => rfl, fun a b ha => by omega⟩
    exact ⟨x', i1, ⟨i2, i3, fun s t hst hsp => i4 t s (hAn s t hst).2 (hsym s t hst) hsp⟩, e2⟩
  have J0 : JP n A h (g 36 0) := by
    refine ⟨by rw [h0 h hh, if_pos rfl], fun _ => 0, fun y hy hyh hyp => ?_⟩
    rw [h0 y hy, if_neg hyh] at hyp
    exact absurd rfl hyp
  obtain ⟨x', ⟨i1, i2, i3⟩, e2⟩ := lp_ex (L := fun m x v => L_X5_open_220 a1 a2 a3 (fun w22 g23 => some (0, g23)) m v x) (K := fun x => some (0, x)) (I := fun r x' => (∀ k i j, k ≠ 36 → x' k i j = g k i j) ∧ JP n A h (x' 36 0) ∧ (clo A (fun y => decide (y < n ∧ x' 36 0 y ≠ 4294967294)) ∨ r + 1 ≤ cnt (fun y => decide (y < n ∧ x' 36 0 y ≠ 4294967294)) n)) (N := n) (by
    intro m y r hr hI
    obtain ⟨i1, i2, i3⟩ := hI
    have e0 : y 5 0 0 = n := by rw [i1 5 0 0 (by omega)]; exact hn
    obtain ⟨y', k1, k2, k3⟩ := rnd y r (fun w17 g18 => L_X5_open_220 a1 a2 a3 (fun w22 g23 => some (0, g23)) m (r + 1) g18) i1 i2
    refine ⟨y', ?_, k1, k2.1, JR_grow hh hn2 hAn hsym i2 k2 i3⟩
    show L_X5_open_220 a1 a2 a3 _ (m + 1) r y = _
    rw [L_X5_open_220, e0, if_pos ((sv_ltN (by omega) (by omega)).mpr hr), k3]) (by
    intro m y hI
    have e0 : y 5 0 0 = n := by rw [hI.1 5 0 0 (by omega)]; exact hn
    show L_X5_open_220 a1 a2 a3 _ (m + 1) n y = _
    rw [L_X5_open_220, e0, if_neg (by omega)]) n 4000 g 0 (by omega) (by omega) ⟨fun _ _ _ _ => rfl, J0, Or.inr (cnt_pos (w := h) hh (by
      simp only [decide_eq_true_eq]
      refine ⟨hh, ?_⟩
      rw [h0 h hh, if_pos rfl]; omega))⟩
  exact ⟨x', e2, i1, i2, JP_all hh hn2 hsym hcon i2 i3⟩
end POINT
