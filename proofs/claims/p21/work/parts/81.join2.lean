/-! ===== join, its end ===== -/
section JOIN2
variable {B : mg_F × mg_F} {N : Nat} {gc gm : mg_F}
theorem IV_join {e o m s : Nat} {lo Lb d : Nat → Nat} {gm' : mg_F} (hn : gm 5 0 0 < 25) (he : e < gm 5 0 0) (hoo : o < gm 5 0 0) (hL : LBL (gm 5 0 0) (AJ gm) Lb) (hsym : ∀ a b, AJ gm a b → AJ gm b a) (hne : Lb e ≠ Lb o) (hs : s < gm 5 0 0) (hse : Lb e ≠ Lb s) (hd : ∀ x, x < gm 5 0 0 → gm 36 0 x ≠ 4294967294 → x ≠ s → d (gm 36 0 x) < d x) (hr : (gm 36 0 s = s ∧ ∀ k, k < gm 5 0 21 → ¬ unt gm k) ∨ (gm 36 0 s ≠ s ∧ gm 36 0 s < 24 ∧ ∃ k, k < gm 5 0 21 ∧ unt gm k ∧ gm 52 0 k = 24 * s + gm 36 0 s ∧ ∀ k', k' < gm 5 0 21 → unt gm k' → k' = k))
    (hm : m < gm 5 0 0) (q1 : ∀ i, i ≤ m → pit (gm 36 0) e i < gm 5 0 0 ∧ Lb (pit (gm 36 0) e i) = Lb e) (q2 : gm 36 0 (pit (gm 36 0) e m) = 4294967294) (q3 : ∀ i j, i ≤ m → j ≤ m → pit (gm 36 0) e i = pit (gm 36 0) e j → i = j) (h : IV N lo gm) (hP : PF (gm 36 0) e m o (gm' 36 0))
    (e35 : ∀ u v, v < 24 → gm' 35 0 (24 * u + v) = if (u = e ∧ v = o) ∨ (u = o ∧ v = e) then 1 else gm 35 0 (24 * u + v)) (e49 : ∀ w, gm' 49 0 w = if w = 24 * e + o ∨ w = 24 * o + e then 0 else gm 49 0 w) (e50 : ∀ w, gm' 50 0 w = if w = 24 * e + o ∨ w = 24 * o + e then 0 else gm 50 0 w) (ee : ∀ k i j, k ≠ 35 → k ≠ 36 → k ≠ 49 → k ≠ 50 → k ≠ 62 → (k ≠ 5 ∨ j ≠ 4) → gm' k i j = gm k i j) : ∃ lo', IV N lo' gm' := by
  obtain ⟨h0, hQ, hPp, hM, hLL, hN, hO, hC, _⟩ := h
  obtain ⟨f1, f2, f3⟩ := hP
  have e24 : e < 24 := by omega
  have o24 : o < 24 := by omega
  have f0 : gm' 5 0 0 = gm 5 0 0 := ee 5 0 0 (by omega) (by omega) (by omega) (by omega) (by omega) (by omega)
  have f21 : gm' 5 0 21 = gm 5 0 21 := ee 5 0 21 (by omega) (by omega) (by omega) (by omega) (by omega) (by omega)
  have f26 : gm' 5 0 26 = gm 5 0 26 := ee 5 0 26 (by omega) (by omega) (by omega) (by omega) (by omega) (by omega)
  have ff : ∀ k j, (k = 38 ∨ k = 40 ∨ k = 46 ∨ k = 47 ∨ k = 52 ∨ k = 53 ∨ k = 55 ∨ k = 57 ∨ k = 58 ∨ k = 60) → gm' k 0 j = gm k 0 j := fun k j hk => ee k 0 j (by omega) (by omega) (by omega) (by omega) (by omega) (by omega)
  have nl1 : gm 35 0 (24 * e + o) ≠ 1 := fun q => hne (hL.2 e o ⟨e24, o24, q⟩)
  have nl2 : gm 35 0 (24 * o + e) ≠ 1 := fun q => hne (hL.2 o e ⟨o24, e24, q⟩).symm
  have nw : ∀ w, gm 35 0 w = 1 → w ≠ 24 * e + o ∧ w ≠ 24 * o + e := fun w q => ⟨fun c => nl1 (c ▸ q), fun c => nl2 (c ▸ q)⟩
  have w35 : ∀ w, w < 576 → gm 35 0 w = 1 → gm' 35 0 w = 1 := fun w hw q => by
    have t := e35 (w / 24) (w % 24) (by omega)
    have ew : 24 * (w / 24) + w % 24 = w := by omega
    rw [ew] at t
    rw [t]; split
    · rfl
    · exact q
  have g50 : ∀ w, gm 35 0 w = 1 → gm' 50 0 w = gm 50 0 w := fun w q => by
    have := nw w q
    rw [e50, if_neg (by omega)]
  have hu : ∀ k, k < gm 5 0 21 → (unt gm' k ↔ unt gm k) := fun k hk => by
    unfold unt
    rw [ff 53 k (by omega), ff 52 k (by omega), ff 55 k (by omega), g50 _ (hLL k hk).2.1]
  have onp : ∀ x, (∃ i, i ≤ m ∧ x = pit (gm 36 0) e i) ∨ (∀ i, i ≤ m → x ≠ pit (gm 36 0) e i) := fun x => by
    by_cases c : ∃ i, i ≤ m ∧ x = pit (gm 36 0) e i
    · left; exact c
    · right; intro i hi q; exact c ⟨i, hi, q⟩
  have noself : ∀ x, x < gm 5 0 0 → gm 36 0 x = x → gm' 36 0 x = x := fun x hx q => by
    rcases onp x with ⟨i, hi, rfl⟩ | c
    · by_cases ci : i = m
      · rw [ci] at q; rw [q2] at q; have := (q1 m (Nat.le_refl _)).1; omega
      · have := q3 (i + 1) i (by omega) hi q; omega
    · rw [f3 x c]; exact q
  have nsp : ∀ i, i ≤ m → s ≠ pit (gm 36 0) e i := fun i hi q => hse (by rw [q]; exact (q1 i hi).2.symm)
  have hps : gm' 36 0 s = gm 36 0 s := f3 s nsp
  refine ⟨fun w => if w = 24 * e + o ∨ w = 24 * o + e then 0 else lo w, ⟨by rw [f21]; exact h0.1, fun x hx => by rw [f0] at hx; rw [ff 40 x (by omega)]; exact h0.2 x hx⟩, fun x i hx hi => ?_, fun x hx => ?_, fun x hx hp => ?_, fun k hk => ?_, fun w hw => ?_, fun i j hij hj q => ?_, fun k hk => ?_, ?_⟩
  · rw [f0] at hx
    rw [ff 46 x (by omega)] at hi
    rw [ff 47 _ (by omega)]
    rcases hQ x i hx hi with q | q
    · left; exact q
    · right
      by_cases c : gm 47 0 (24 * x + i) < 24
      · exact w35 _ (by omega) q
      · by_cases c2 : 24 * x + gm 47 0 (24 * x + i) < 576
        · exact w35 _ c2 q
        · have t := e35 ((24 * x + gm 47 0 (24 * x + i)) / 24) ((24 * x + gm 47 0 (24 * x + i)) % 24) (by omega)
          have ew : 24 * ((24 * x + gm 47 0 (24 * x + i)) / 24) + (24 * x + gm 47 0 (24 * x + i)) % 24 = 24 * x + gm 47 0 (24 * x + i) := by omega
          rw [ew] at t
          rw [t]; split
          · rfl
          · exact q
  · rw [f0] at hx
    rcases onp x with ⟨i, hi, rfl⟩ | c
    · right; right
      cases i with
      | zero =>
        show gm' 36 0 e < 24 ∧ gm' 35 0 (24 * e + gm' 36 0 e) = 1
        rw [f1]
        exact ⟨o24, by rw [e35 e o o24, if_pos (Or.inl ⟨rfl, rfl⟩)]⟩
      | succ i =>
        have hU := (q1 i (by omega)).1
        have hU2 := (q1 (i + 1) hi).1
        rw [f2 i (by omega)]
        refine ⟨by omega, ?_⟩
        rcases hPp _ hU with q | q | q
        · have : gm 36 0 (pit (gm 36 0) e i) = pit (gm 36 0) e (i + 1) := rfl
          omega
        · have := q3 (i + 1) i hi (by omega) q; omega
        · have t := hsym _ _ (show AJ gm (pit (gm 36 0) e i) (pit (gm 36 0) e (i + 1)) from ⟨by omega, q.1, q.2⟩)
          exact w35 _ (by omega) t.2.2
    · rw [f3 x c]
      rcases hPp x hx with q | q | q
      · left; exact q
      · right; left; exact q
      · right; right; exact ⟨q.1, w35 _ (by omega) q.2⟩
  · rw [f0] at hx
    rw [ff 38 x (by omega)] at hp
    exact noself x hx (hM x hx hp)
  · rw [f21] at hk
    obtain ⟨l1, l2, l3⟩ := hLL k hk
    rw [ff 52 k (by omega), ff 53 k (by omega)]
    exact ⟨l1, w35 _ l1 l2, l3⟩
  · obtain ⟨a1, a2, a3, a4, a5⟩ := hN w hw
    rw [e50, e49, f21]
    dsimp only
    by_cases c : w = 24 * e + o ∨ w = 24 * o + e
    · rw [if_pos c, if_pos c, if_pos c]
      refine ⟨by omega, by omega, by omega, by omega, fun x => ⟨fun q => by omega, fun ⟨k, k1, k2, k3⟩ => ?_⟩⟩
      rw [ff 52 k (by omega)] at k2
      have := nw _ (hLL k k1).2.1
      omega
    · rw [if_neg c, if_neg c, if_neg c]
      refine ⟨a1, a2, a3, a4, fun x => ?_⟩
      rw [a5 x]
      constructor
      · intro ⟨k, k1, k2, k3⟩
        exact ⟨k, k1, by rw [ff 52 k (by omega)]; exact k2, by rw [ff 55 k (by omega)]; exact k3⟩
      · intro ⟨k, k1, k2, k3⟩
        rw [ff 52 k (by omega)] at k2
        rw [ff 55 k (by omega)] at k3
        exact ⟨k, k1, k2, k3⟩
  · rw [f21] at hj
    rw [ff 52 i (by omega), ff 52 j (by omega)] at q
    rw [ff 55 i (by omega), ff 55 j (by omega)]
    exact hO i j hij hj q
  · rw [f26] at hk
    obtain ⟨c0, c1, c2, c3⟩ := hC k hk
    have hnw := nw _ c1
    rw [ff 57 k (by omega), ff 58 k (by omega), ff 60 k (by omega)]
    refine ⟨c0, w35 _ c0 c1, fun q => ?_, fun q => ?_⟩
    · have hb : bk (gm 57 0 k) ≠ 24 * e + o ∧ bk (gm 57 0 k) ≠ 24 * o + e := by
        unfold bk; omega
      rw [e50, if_neg (by omega)]; exact c2 q
    · rw [g50 _ c1]
      show gm 60 0 k ≤ (if gm 57 0 k = 24 * e + o ∨ gm 57 0 k = 24 * o + e then 0 else lo (gm 57 0 k)) ∧ _
      rw [if_neg (by omega)]
      refine ⟨(c3 q).1, fun q4 => ?_⟩
      obtain ⟨l, l1, l2, l3, l4⟩ := (c3 q).2 q4
      exact ⟨l, by rw [f21]; exact l1, by rw [ff 52 l (by omega)]; exact l2, by rw [ff 55 l (by omega)]; exact l3, by rw [ff 53 l (by omega)]; exact l4⟩
  · obtain ⟨D, hD⟩ := dbound d 24
    have onF : ∀ i, i ≤ m → fs (fun j => pit (gm 36 0) e j == pit (gm 36 0) e i) (m + 1) 0 = i := fun i hi => by
      refine fs_at (by omega) (by simp) (fun j hj => ?_)
      have : pit (gm 36 0) e j ≠ pit (gm 36 0) e i := fun q => by have := q3 j i (by omega) hi q; omega
      simpa using this
    have offF : ∀ x, (∀ i, i ≤ m → x ≠ pit (gm 36 0) e i) → fs (fun j => pit (gm 36 0) e j == x) (m + 1) 0 = 4294967294 := fun x hx => by
      refine fs_none (fun i hi => ?_)
      have : pit (gm 36 0) e i ≠ x := fun q => hx i (by omega) q.symm
      simpa using this
    have ong : ∀ i, i ≤ m → (if fs (fun j => pit (gm 36 0) e j == pit (gm 36 0) e i) (m + 1) 0 = 4294967294 then (if Lb (pit (gm 36 0) e i) = Lb e then D + 30 + d (pit (gm 36 0) e i) else d (pit (gm 36 0) e i)) else D + 1 + fs (fun j => pit (gm 36 0) e j == pit (gm 36 0) e i) (m + 1) 0) = D + 1 + i := fun i hi => by
      rw [onF i hi, if_neg (by omega)]
    have offg : ∀ x, (∀ i, i ≤ m → x ≠ pit (gm 36 0) e i) → (if fs (fun j => pit (gm 36 0) e j == x) (m + 1) 0 = 4294967294 then (if Lb x = Lb e then D + 30 + d x else d x) else D + 1 + fs (fun j => pit (gm 36 0) e j == x) (m + 1) 0) = if Lb x = Lb e then D + 30 + d x else d x := fun x hx => by
      rw [offF x hx, if_pos rfl]
    refine ⟨s, fun x => if fs (fun j => pit (gm 36 0) e j == x) (m + 1) 0 = 4294967294 then (if Lb x = Lb e then D + 30 + d x else d x) else D + 1 + fs (fun j => pit (gm 36 0) e j == x) (m + 1) 0, by rw [f0]; exact hs, fun x hx hx2 hx3 => ?_, ?_⟩
    · rw [f0] at hx
      show (if fs (fun j => pit (gm 36 0) e j == gm' 36 0 x) (m + 1) 0 = 4294967294 then _ else _) < (if fs (fun j => pit (gm 36 0) e j == x) (m + 1) 0 = 4294967294 then _ else _)
      rcases onp x with ⟨i, hi, rfl⟩ | c
      · rw [ong i hi]
        cases i with
        | zero =>
          rw [show gm' 36 0 (pit (gm 36 0) e 0) = o from f1]
          have oo : ∀ i, i ≤ m → o ≠ pit (gm 36 0) e i := fun i hi q => hne (by rw [q]; exact (q1 i hi).2.symm)
          rw [offg o oo, if_neg (fun q => hne q.symm)]
          have := hD o o24
          omega
        | succ i =>
          rw [f2 i (by omega), ong i (by omega)]
          omega
      · rw [f3 x c] at hx2 ⊢
        rw [offg x c]
        have hdx := hd x hx hx2 hx3
        have hy : gm 36 0 x < 24 ∧ Lb (gm 36 0 x) = Lb x := by
          rcases hPp x hx with q | q | q
          · exact absurd q hx2
          · rw [q] at hdx; omega
          · exact ⟨q.1, (hL.2 x _ ⟨by omega, q.1, q.2⟩).symm⟩
        rcases onp (gm 36 0 x) with ⟨i, hi, hii⟩ | c2
        · rw [hii, ong i hi]
          have : Lb x = Lb e := by rw [← hy.2, hii]; exact (q1 i hi).2
          rw [if_pos this]
          omega
        · rw [offg _ c2, hy.2]
          by_cases c3 : Lb x = Lb e
          · rw [if_pos c3, if_pos c3]; omega
          · rw [if_neg c3, if_neg c3]; exact hdx
    · rw [hps]
      rcases hr with ⟨z1, z2⟩ | ⟨z1, z2, k, z3, z4, z5, z6⟩
      · left; exact ⟨z1, fun k hk => by rw [f21] at hk; rw [hu k hk]; exact z2 k hk⟩
      · right; exact ⟨z1, z2, k, by rw [f21]; exact z3, (hu k z3).mpr z4, by rw [ff 52 k (by omega)]; exact z5, fun k' hk' hu' => by rw [f21] at hk'; exact z6 k' hk' ((hu k' hk').mp hu')⟩
theorem mjn_comm {g : mg_F} {a b c x : Nat} (h : 24 * a + b ≠ 24 * b + a) : mjn g a b c x = mjn g b a c x := by
  unfold mjn
  rw [up_comm (j := 24 * a + b) (j' := 24 * b + a) (Or.inr h)]
theorem s_hang {a b c1 c2 e o s : Nat} {Lb : Nat → Nat} (hN : N < 2147483648) (h : TT B N gc gm) (hop : gm 5 0 1 = 1) (hab : (a = e ∧ b = o) ∨ (a = o ∧ b = e)) (he : e < gm 5 0 0) (hoo : o < gm 5 0 0) (hL : LBL (gm 5 0 0) (AJ gm) Lb) (hne : Lb e ≠ Lb o) (hr : RP gm s) (hse : Lb e ≠ Lb s) : SM B (N + 2) (P_X4_hang e o gc) (L_X5_join_128 a b c1 c2 e o (fun w27 w28 g29 => L_X5_join_162 a b c1 c2 e o w27 (fun w30 g31 => L_X5_join_201 a b c1 c2 e o w27 (fun w32 g33 => ck (e < 24) <| wr (mg_up g33 36 0 e o) fun g35 => bd (P_X5_join2 a b 1 g35) fun _ g37 => ck ((24 * a) + b < 576) <| wr (mg_up g37 49 0 ((24 * a) + b) 0) fun g39 => ck ((24 * b) + a < 576) <| wr (mg_up g39 49 0 ((24 * b) + a) 0) fun g41 => ck ((24 * a) + b < 576) <| wr (mg_up g41 50 0 ((24 * a) + b) 0) fun g43 => ck ((24 * b) + a < 576) <| wr (mg_up g43 50 0 ((24 * b) + a) 0) fun g45 => some (0, g45)) 4000 (sb w27 1) g31) 4000 0 g29) 4000 0 e gm) := by
  obtain ⟨hA, lo, hI⟩ := h.2.2.2.1 hop
  obtain ⟨g1, g2, g3, g4, g5, g6⟩ := h.2.1
  obtain ⟨j1, j2, j3, j4⟩ := AJ_n h.2.2.1
  have e24 : e < 24 := by omega
  have o24 : o < 24 := by omega
  have heo : e ≠ o := fun q => hne (by rw [q])
  have hab24 : a < 24 ∧ b < 24 ∧ a ≠ b := by omega
  have w576 : 24 * a + b < 576 := by omega
  have w576' : 24 * b + a < 576 := by omega
  have hweo : 24 * o + e ≠ 24 * e + o := by omega
  obtain ⟨d, r1, r2, r3⟩ := hr
  have hPp := hI.2.2.1
  obtain ⟨m, q1, q2, q3⟩ := path_ex (n := gm 5 0 0) (s := s) (p := gm 36 0) (d := d) (Lb := Lb) (fun x hx => by
    rcases hPp x hx with q | q | q
    · left; exact q
    · right; left; exact q
    · right; right
      have t : AJ gm x (gm 36 0 x) := ⟨by omega, q.1, q.2⟩
      exact ⟨(j1 _ _ t).2, (hL.2 _ _ t).symm⟩) r2 (d e + 1) e (by omega) he hse
  have inj := path_inj (p := gm 36 0) (d := d) (e := e) (m := m) q3
  have hm : m < gm 5 0 0 := by
    have := pigeon (gm 5 0 0) (m + 1) (pit (gm 36 0) e) (fun i hi => (q1 i (by omega)).1) (fun i j hi hj => inj i j (by omega) (by omega))
    omega
  have q1' : ∀ i, i ≤ m → pit (gm 36 0) e i < gm 5 0 0 := fun i hi => (q1 i hi).1
  have qm := q_mark hA hm q1' q2 inj
  obtain ⟨y1, y2, w1, w2, w3, w4⟩ := m_walk (a := a) (b := b) (c1 := c1) (c2 := c2) (o := o) hA hm e24 q1' q2 inj (fun g35 => bd (P_X5_join2 a b 1 g35) fun _ g37 => ck ((24 * a) + b < 576) <| wr (mg_up g37 49 0 ((24 * a) + b) 0) fun g39 => ck ((24 * b) + a < 576) <| wr (mg_up g39 49 0 ((24 * b) + a) 0) fun g41 => ck ((24 * a) + b < 576) <| wr (mg_up g41 50 0 ((24 * a) + b) 0) fun g43 => ck ((24 * b) + a < 576) <| wr (mg_up g43 50 0 ((24 * b) + a) 0) fun g45 => some (0, g45))
  rw [w4]
  by_cases c : fs (fun i => gm 37 0 (pit (gm 36 0) e i) == 1) m 0 = 4294967294
  · rw [if_pos c] at qm ⊢
    obtain ⟨x, x1, x2, x3⟩ := q_turn (o := o) hA hm q1' q2 inj
    have ptr : ∀ z, z < gm 5 0 0 → x 3 z 2 = y2 36 0 z ∧ (y2 36 0 z < gm 5 0 0 ∨ y2 36 0 z = 4294967294) := by
      intro z hz
      obtain ⟨a1, a2, a3⟩ := x3
      obtain ⟨b1, b2, b3⟩ := w3
      by_cases cz : ∃ i, i ≤ m ∧ z = pit (gm 36 0) e i
      · obtain ⟨i, hi, rfl⟩ := cz
        cases i with
        | zero =>
          have a1' : (if e < gm 5 0 0 then x 3 e 2 else gm 36 0 e) = o := a1
          rw [if_pos he] at a1'
          show x 3 e 2 = y2 36 0 e ∧ (y2 36 0 e < gm 5 0 0 ∨ _)
          rw [a1', b1]; exact ⟨rfl, Or.inl hoo⟩
        | succ i =>
          have a2' : (if pit (gm 36 0) e (i + 1) < gm 5 0 0 then x 3 (pit (gm 36 0) e (i + 1)) 2 else gm 36 0 (pit (gm 36 0) e (i + 1))) = pit (gm 36 0) e i := a2 i (by omega)
          rw [if_pos hz] at a2'
          rw [a2', b2 i (by omega)]; exact ⟨rfl, Or.inl (q1' i (by omega))⟩
      · have cz' : ∀ i, i ≤ m → z ≠ pit (gm 36 0) e i := fun i hi q => cz ⟨i, hi, q⟩
        have a3' : (if z < gm 5 0 0 then x 3 z 2 else gm 36 0 z) = gm 36 0 z := a3 z cz'
        rw [if_pos hz] at a3'
        rw [a3', b3 z cz']; exact ⟨rfl, (hA.2.2.2.2.1 z hz).2.2.2.2.2.2.2.2.1⟩
    have sA1 := p_ptr hA x2 w2 ptr
    have n0 : y2 5 0 0 = gm 5 0 0 := w2 5 0 0 (by omega) (by omega)
    have sA2 := p_tie sA1 (show e < y2 5 0 0 by rw [n0]; exact he) (show o < y2 5 0 0 by rw [n0]; exact hoo) heo
    have sA3 := p_tk (a := o) (b := e) (v := 0) e24 (p_tk (a := e) (b := o) (v := 0) o24 (p_wn (a := o) (b := e) (v := 0) e24 (p_wn (a := e) (b := o) (v := 0) o24 sA2)))
    have eR : mg_up (mg_up (mg_up (mg_up (mjn y2 a b 1 1) 49 0 (24 * a + b) 0) 49 0 (24 * b + a) 0) 50 0 (24 * a + b) 0) 50 0 (24 * b + a) 0 = mg_up (mg_up (mg_up (mg_up (mjn y2 e o 1 1) 49 0 (24 * e + o) 0) 49 0 (24 * o + e) 0) 50 0 (24 * e + o) 0) 50 0 (24 * o + e) 0 := by
      rcases hab with ⟨rfl, rfl⟩ | ⟨rfl, rfl⟩
      · rfl
      · have hw : 24 * a + b ≠ 24 * b + a := hweo
        rw [mjn_comm hw, up_comm (k := 50) (j := 24 * a + b) (j' := 24 * b + a) (Or.inr hw), up_comm (g := mjn y2 b a 1 1) (k := 49) (j := 24 * a + b) (j' := 24 * b + a) (Or.inr hw)]
    have hij := IV_join (gm' := mg_up (mg_up (mg_up (mg_up (mjn y2 e o 1 1) 49 0 (24 * e + o) 0) 49 0 (24 * o + e) 0) 50 0 (24 * e + o) 0) 50 0 (24 * o + e) 0) g5 he hoo hL j2 hne r1 hse r2 r3 hm q1 q2 inj hI w3 (fun u v hv => by
        rw [ue, if_neg (fun q => by cases q.1), ue, if_neg (fun q => by cases q.1), ue, if_neg (fun q => by cases q.1), ue, if_neg (fun q => by cases q.1), mjn_35 e24 o24 hv, w2 35 0 _ (by decide) (by decide)]) (fun w => by
        rw [ue, if_neg (fun q => by cases q.1), ue, if_neg (fun q => by cases q.1), ue, ue, mjn_k (by decide) (Or.inl (by decide)), w2 49 0 _ (by decide) (by decide)]
        by_cases c1 : w = 24 * o + e
        · rw [if_pos ⟨rfl, rfl, c1⟩, if_pos (Or.inr c1)]
        · rw [if_neg (fun q => c1 q.2.2)]
          by_cases c2 : w = 24 * e + o
          · rw [if_pos ⟨rfl, rfl, c2⟩, if_pos (Or.inl c2)]
          · rw [if_neg (fun q => c2 q.2.2), if_neg (fun q => q.elim c2 c1)]) (fun w => by
        rw [ue, ue]
        by_cases c1 : w = 24 * o + e
        · rw [if_pos ⟨rfl, rfl, c1⟩, if_pos (Or.inr c1)]
        · rw [if_neg (fun q => c1 q.2.2)]
          by_cases c2 : w = 24 * e + o
          · rw [if_pos ⟨rfl, rfl, c2⟩, if_pos (Or.inl c2)]
          · rw [if_neg (fun q => c2 q.2.2), ue, if_neg (fun q => by cases q.1), ue, if_neg (fun q => by cases q.1), mjn_k (by decide) (Or.inl (by decide)), w2 50 0 _ (by decide) (by decide), if_neg (fun q => q.elim c2 c1)]) (fun k i j h1 h2 h3 h4 h5 h6 => by
        rw [ue, if_neg (fun q => h4 q.1), ue, if_neg (fun q => h4 q.1), ue, if_neg (fun q => h3 q.1), ue, if_neg (fun q => h3 q.1), mjn_k h1 h6, w2 k i j h2 h5])
    obtain ⟨lo', hI'⟩ := hij
    refine SM_x (M := N) (lo := lo') (rc := 0) (rm := 0) (gc' := mg_up (mg_up (mg_up (mg_up (tie x e o) 21 e o 0) 21 o e 0) 22 e o 0) 22 o e 0) (gm' := mg_up (mg_up (mg_up (mg_up (mjn y2 e o 1 1) 49 0 (24 * e + o) 0) 49 0 (24 * o + e) 0) 50 0 (24 * e + o) 0) 50 0 (24 * o + e) 0) ?_ ?_ rfl sA3 hI' (by omega) ?_
    · unfold P_X4_hang
      rw [qm, bd_s, if_pos sv_0, x1, bd_s, q_tie e24 o24, bd_s, ck_t e24, ck_t o24, wr_s, wr_s, wr_s, wr_s]
    · rw [m_j1 hab24.1 hab24.2.1, bd_s, ck_t w576, wr_s, ck_t w576', wr_s, ck_t w576, wr_s, ck_t w576', wr_s, eR]
    · show y2 5 0 1 = 1
      rw [w2 5 0 1 (by omega) (by omega)]; exact hop
  · rw [if_neg c] at qm ⊢
    have sA1 := p_irr hA (fun _ _ _ _ => rfl) (fun k i j _ _ hk => w1 k i j hk)
    have I1 := IV_irr hI (fun k i j _ _ hk => w1 k i j hk)
    refine SM_x (M := N) (lo := lo) (rc := 4294967291) (rm := 4294967291) ?_ rfl rfl sA1 I1 (by omega) (by rw [w1 5 0 1 (by omega)]; exact hop)
    unfold P_X4_hang
    rw [qm, bd_s, if_neg sv10]
theorem SM_61 {oc om : mo} {r : Nat} {g' : mg_F} (h : TT B N gc gm) (hx : ex61 gm g') (ec : oc = some (r, gc)) (em : om = some (r, g')) : SM B (N + 2) oc om := ⟨r, gc, r, g', ec, em, rfl, TT_mono (TT_61 h hx) (by omega)⟩
theorem s_join {a b : Nat} (hN : N < 2147483648) (h : TT B N gc gm) (ha : a < 4294967296) (hb : b < 4294967296) : SM B (N + 2) (P_X4_join a b gc) (P_X5_join a b gm) := by
  obtain ⟨g', p1, p2, p3⟩ := part_ok h
  have hT := TT_61 h p2
  have n0 : g' 5 0 0 = gm 5 0 0 := p2 5 0 0 (by omega)
  have o0 : g' 5 0 1 = gm 5 0 1 := p2 5 0 1 (by omega)
  have hAJ : AJ g' = AJ gm := by funext x y; unfold AJ; rw [p2 35 0 _ (by omega)]
  rw [← n0, ← hAJ] at p3
  rw [← n0] at p1
  obtain ⟨j1, j2, j3, j4⟩ := AJ_n hT.2.2.1
  obtain ⟨g1, g2, g3, g4, g5, g6⟩ := hT.2.1
  by_cases ho : g' 5 0 1 = 1
  · have no : ¬ sv (g' 5 0 1) = 0 := cl_o ho rfl
    by_cases hs : a < g' 5 0 0
    · have hos : g' 5 0 1 = 1 ∧ a < g' 5 0 0 := ⟨ho, hs⟩
      by_cases ht : b < g' 5 0 0
      · have hot : g' 5 0 1 = 1 ∧ b < g' 5 0 0 := ⟨ho, ht⟩
        obtain ⟨hA, lo, hI⟩ := hT.2.2.2.1 ho
        obtain ⟨s, hr⟩ := hI.2.2.2.2.2.2.2.2
        have hr' : RP g' s := hr
        have hsn : s < g' 5 0 0 := by obtain ⟨_, q, _⟩ := hr'; exact q
        have a24 : a < 24 := by omega
        have b24 : b < 24 := by omega
        have s24 : s < 24 := by omega
        obtain ⟨ra, ra1, ra2, ra3⟩ := q_partOf (s := a) (n := g' 5 0 0) (g := gc) (A := AJ g') j4 hT.2.2.1.2.1 g3 g5 hs j1 j2
        obtain ⟨rb, rb1, rb2, rb3⟩ := q_partOf (s := b) (n := g' 5 0 0) (g := gc) (A := AJ g') j4 hT.2.2.1.2.1 g3 g5 ht j1 j2
        have qp := q_por hN hA hI hr'
        have mp := m_por hN hA hI hr'
        have lla := (p3.1 a hs).1
        have llb := (p3.1 b ht).1
        have lls := (p3.1 s hsn).1
        have ec0 : P_X4_join a b gc = if sv (if ra.testBit b = true then 1 else 0) = 0 then (bd (P_X4_contains ra s gc) fun r15 g16 => if sv r15 = 0 then (bd (P_X0_partOf b g16) fun r18 g19 => bd (P_X4_contains r18 s g19) fun r20 g21 => if sv r20 = 0 then (some (4294967295, g21)) else (bd (P_X4_hang a b g21) fun r23 g24 => some (r23, g24))) else (bd (P_X4_hang b a g16) fun r25 g26 => some (r25, g26))) else (some (4294967295, gc)) := by
          unfold P_X4_join
          rw [st_c hT ha, bd_s, if_pos hos, if_neg sv10, st_c hT hb, bd_s, if_pos hot, if_neg sv10, ra1, bd_s, qp, bd_s, q_cont (by omega) (by omega), bd_s]
          by_cases c : ra.testBit b = true
          · rw [if_pos c, if_neg sv10, if_neg sv10]
          · rw [if_neg c, if_pos sv_0, if_pos sv_0, if_neg (by rw [sv_eqN (by omega) (by omega)]; omega)]
        by_cases hlab : g' 61 0 a = g' 61 0 b
        · have hbit : ra.testBit b = true := (ra3 b ht).mpr ((LBL_iff p3 hs ht).mp hlab)
          refine SM_61 (r := 4294967295) h p2 (by rw [ec0, if_pos hbit, if_neg sv10]) ?_
          unfold P_X5_join
          rw [p1, bd_s, if_neg no, st_m hT ha, bd_s, if_pos hs, if_neg sv10, st_m hT hb, bd_s, if_pos ht, if_neg sv10, ck_t a24, ck_t b24, if_pos (by rw [hlab])]
        · have hbit : ¬ ra.testBit b = true := fun q => hlab ((LBL_iff p3 hs ht).mpr ((ra3 b ht).mp q))
          have hlab' : ¬ sv (g' 61 0 a) = sv (g' 61 0 b) := by rw [sv_eqN (by omega) (by omega)]; exact hlab
          have hab : a ≠ b := fun q => hlab (by rw [q])
          have hba' : ¬ sv b = sv a := by rw [sv_eqN hb ha]; exact fun q => hab q.symm
          rw [if_neg hbit, if_pos sv_0] at ec0
          by_cases hla : g' 61 0 s = g' 61 0 a
          · have hla' : sv (g' 61 0 s) = sv (g' 61 0 a) := by rw [hla]
            have hsb : ra.testBit s = true := (ra3 s hsn).mpr ((LBL_iff p3 hs hsn).mp hla.symm)
            have hh := s_hang (a := a) (b := b) (c1 := cnt (fun s => g' 61 0 s == s) (g' 5 0 0)) (c2 := s) (e := b) (o := a) hN hT ho (Or.inr ⟨rfl, rfl⟩) ht hs p3 (fun q => hlab q.symm) hr' (by rw [hla]; exact fun q => hlab q.symm)
            obtain ⟨rc, xc, rm, xm, h1, h2, h3, h4⟩ := hh
            refine ⟨rc, xc, rm, xm, ?_, ?_, h3, h4⟩
            · rw [ec0, q_cont (by omega) (by omega), bd_s, if_pos hsb, if_neg sv10, h1, bd_s]
            · rw [← h2]
              unfold P_X5_join
              rw [p1, bd_s, if_neg no, st_m hT ha, bd_s, if_pos hs, if_neg sv10, st_m hT hb, bd_s, if_pos ht, if_neg sv10, ck_t a24, ck_t b24, if_neg hlab', mp, bd_s, ck_t s24, if_pos hla', jn_s, if_pos hla']
              dsimp only
              rw [jn_s, if_neg hba']
          · have hla' : ¬ sv (g' 61 0 s) = sv (g' 61 0 a) := by rw [sv_eqN (by omega) (by omega)]; exact hla
            have hsb : ¬ ra.testBit s = true := fun q => hla ((LBL_iff p3 hs hsn).mpr ((ra3 s hsn).mp q)).symm
            by_cases hlb : g' 61 0 s = g' 61 0 b
            · have hlb' : sv (g' 61 0 s) = sv (g' 61 0 b) := by rw [hlb]
              have hsb2 : rb.testBit s = true := (rb3 s hsn).mpr ((LBL_iff p3 ht hsn).mp hlb.symm)
              have hh := s_hang (a := a) (b := b) (c1 := cnt (fun s => g' 61 0 s == s) (g' 5 0 0)) (c2 := s) (e := a) (o := b) hN hT ho (Or.inl ⟨rfl, rfl⟩) hs ht p3 hlab hr' (by rw [hlb]; exact hlab)
              obtain ⟨rc, xc, rm, xm, h1, h2, h3, h4⟩ := hh
              refine ⟨rc, xc, rm, xm, ?_, ?_, h3, h4⟩
              · rw [ec0, q_cont (by omega) (by omega), bd_s, if_neg hsb, if_pos sv_0, rb1, bd_s, q_cont (by omega) (by omega), bd_s, if_pos hsb2, if_neg sv10, h1, bd_s]
              · rw [← h2]
                unfold P_X5_join
                rw [p1, bd_s, if_neg no, st_m hT ha, bd_s, if_pos hs, if_neg sv10, st_m hT hb, bd_s, if_pos ht, if_neg sv10, ck_t a24, ck_t b24, if_neg hlab', mp, bd_s, ck_t s24, if_neg hla', if_pos hlb', jn_s, if_neg hla']
                dsimp only
                rw [jn_s, if_pos rfl]
            · have hlb' : ¬ sv (g' 61 0 s) = sv (g' 61 0 b) := by rw [sv_eqN (by omega) (by omega)]; exact hlb
              have hsb2 : ¬ rb.testBit s = true := fun q => hlb ((LBL_iff p3 ht hsn).mpr ((rb3 s hsn).mp q)).symm
              refine SM_61 (r := 4294967295) h p2 (by rw [ec0, q_cont (by omega) (by omega), bd_s, if_neg hsb, if_pos sv_0, rb1, bd_s, q_cont (by omega) (by omega), bd_s, if_neg hsb2, if_pos sv_0]) ?_
              unfold P_X5_join
              rw [p1, bd_s, if_neg no, st_m hT ha, bd_s, if_pos hs, if_neg sv10, st_m hT hb, bd_s, if_pos ht, if_neg sv10, ck_t a24, ck_t b24, if_neg hlab', mp, bd_s, ck_t s24, if_neg hla', if_neg hlb']
      · refine SM_61 (r := 4294967295) h p2 (by unfold P_X4_join; rw [st_c hT ha, bd_s, if_pos hos, if_neg sv10, st_c hT hb, bd_s, if_neg (show ¬ (g' 5 0 1 = 1 ∧ b < g' 5 0 0) from fun q => ht q.2), if_pos sv_0]) ?_
        unfold P_X5_join
        rw [p1, bd_s, if_neg no, st_m hT ha, bd_s, if_pos hs, if_neg sv10, st_m hT hb, bd_s, if_neg ht, if_pos sv_0]
    · refine SM_61 (r := 4294967295) h p2 (by unfold P_X4_join; rw [st_c hT ha, bd_s, if_neg (show ¬ (g' 5 0 1 = 1 ∧ a < g' 5 0 0) from fun q => hs q.2), if_pos sv_0]) ?_
      unfold P_X5_join
      rw [p1, bd_s, if_neg no, st_m hT ha, bd_s, if_neg hs, if_pos sv_0]
  · obtain ⟨o1, o2⟩ := op0 hT ho
    refine SM_61 (r := 4294967295) h p2 (by unfold P_X4_join; rw [st_c hT ha, bd_s, if_neg (show ¬ (g' 5 0 1 = 1 ∧ a < g' 5 0 0) from fun q => ho q.1), if_pos sv_0]) ?_
    unfold P_X5_join
    rw [p1, bd_s, if_pos o1]
end JOIN2
