/-! ===== told, but for which = 6: class and reference answer alike (no given statement: for REPORT.md alone) ===== -/
def tq_c (p : Nat → Bool) : Nat → Nat
  | 0 => 0
  | n + 1 => tq_c p n + (if p n = true then 1 else 0)
theorem tq_cg {p q : Nat → Bool} : ∀ n, (∀ i, i < n → p i = q i) → tq_c p n = tq_c q n := by
  intro n
  induction n with
  | zero => intro _; rfl
  | succ n ih =>
    intro h
    show tq_c p n + (if p n = true then 1 else 0) = tq_c q n + (if q n = true then 1 else 0)
    rw [ih (fun i hi => h i (by omega)), h n (by omega)]
theorem tq_pad {p : Nat → Bool} {n : Nat} : ∀ m, (∀ i, n ≤ i → i < n + m → p i = false) → tq_c p (n + m) = tq_c p n := by
  intro m
  induction m with
  | zero => intro _; rfl
  | succ m ih =>
    intro h
    show tq_c p (n + m) + (if p (n + m) = true then 1 else 0) = tq_c p n
    rw [ih (fun i h1 h2 => h i h1 (by omega)), h (n + m) (by omega) (by omega)]
    rfl
theorem tq_le {p : Nat → Bool} : ∀ n, tq_c p n ≤ n := by
  intro n
  induction n with
  | zero => exact Nat.le_refl _
  | succ n ih =>
    show tq_c p n + (if p n = true then 1 else 0) ≤ n + 1
    split <;> omega
theorem tq_add {p : Nat → Bool} {n : Nat} : ∀ m, tq_c p (n + m) = tq_c p n + tq_c (fun i => p (n + i)) m := by
  intro m
  induction m with
  | zero => rfl
  | succ m ih =>
    show tq_c p (n + m) + (if p (n + m) = true then 1 else 0) = tq_c p n + (tq_c (fun i => p (n + i)) m + (if p (n + m) = true then 1 else 0))
    rw [ih]; omega
theorem tq_ush {a b : Nat} (ha : a < 4294967296) (hb : b < 32) : ush a b = a / 2 ^ b := by
  have e1 : (nI a).toUInt32.toNat = a := by
    show (BitVec.ofNat 32 a).toNat = a
    rw [BitVec.toNat_ofNat]; exact Nat.mod_eq_of_lt ha
  have e0 : (nI b).toUInt32.toNat = b := by
    show (BitVec.ofNat 32 b).toNat = b
    rw [BitVec.toNat_ofNat]; exact Nat.mod_eq_of_lt (by omega)
  have e2 : ((nI b).toUInt32 &&& Int32.toUInt32 31).toNat = b := by
    rw [UInt32.toNat_and, e0]
    show b &&& (2 ^ 5 - 1) = b
    rw [Nat.and_two_pow_sub_one_eq_mod]; omega
  unfold ush
  show ((nI a).toUInt32 >>> ((nI b).toUInt32 &&& Int32.toUInt32 31)).toNat = _
  rw [UInt32.toNat_shiftRight, e1, e2, Nat.mod_eq_of_lt hb, Nat.shiftRight_eq_div_pow]
theorem tq_and (x n m M : Nat) (hx : x < 256) (hm : m < 256) : (x + 256 * n) &&& (m + 256 * M) = (x &&& m) + 256 * (n &&& M) := by
  have h1 : ((x + 256 * n) &&& (m + 256 * M)) % 2 ^ 8 = (x &&& m) := by
    rw [Nat.and_mod_two_pow, show (x + 256 * n) % 2 ^ 8 = x by omega, show (m + 256 * M) % 2 ^ 8 = m by omega]
  have h2 : ((x + 256 * n) &&& (m + 256 * M)) / 2 ^ 8 = (n &&& M) := by
    rw [Nat.and_div_two_pow, show (x + 256 * n) / 2 ^ 8 = n by omega, show (m + 256 * M) / 2 ^ 8 = M by omega]
  generalize (x + 256 * n) &&& (m + 256 * M) = A at *
  generalize (x &&& m) = C at *
  generalize (n &&& M) = D at *
  omega
theorem tq_m {x y z m : Nat} (hx : x < 256) (hy : y < 256) (hz : z < 256) (hm : m < 256) : (x + 256 * (y + 256 * z)) &&& (m + 256 * (m + 256 * (m + 256 * m))) = (x &&& m) + 256 * ((y &&& m) + 256 * (z &&& m)) := by
  have e := tq_and z 0 m m hz hm
  simp only [Nat.mul_zero, Nat.add_zero, Nat.zero_and] at e
  rw [tq_and _ _ _ _ hx hm, tq_and _ _ _ _ hy hm, e]
def tq_F (x : Nat) : Nat := x - ((x / 2) &&& 85)
def tq_G (u : Nat) : Nat := (u &&& 51) + ((u / 4) &&& 51)
def tq_H (p : Nat) : Nat := (p + p / 16) &&& 15
theorem tq_b1 : ∀ x, x < 256 → ∀ t, t < 2 → (x / 2 + 128 * t) &&& 85 = (x / 2) &&& 85 := by decide +kernel
theorem tq_b2 : ∀ x, x < 256 → ∀ t, t < 4 → (x / 4 + 64 * t) &&& 51 = (x / 4) &&& 51 := by decide +kernel
theorem tq_b3 : ∀ p, p < 103 → ∀ t, t < 7 → (p + p / 16 + 16 * t) &&& 15 = tq_H p := by decide +kernel
theorem tq_b4 : ∀ u, u < 256 → tq_G u < 103 ∧ tq_G u % 16 < 7 := by decide +kernel
theorem tq_b5 : ∀ x, x < 256 → tq_H (tq_G (tq_F x)) = tq_c (fun i => x.testBit i) 8 ∧ tq_F x < 256 := by decide +kernel
theorem tq_b6 : ∀ x, x < 256 → (x / 2) &&& 85 ≤ x := by decide +kernel
theorem tq_b7 : ∀ p, p < 103 → tq_H p < 16 := by decide +kernel
theorem tq_b8 : ∀ x, x < 256 → x &&& 51 ≤ 51 ∧ (x / 4) &&& 51 ≤ 51 := by decide +kernel
theorem tq_s1 {x y z : Nat} (hx : x < 256) (hy : y < 256) (hz : z < 256) : sb (x + 256 * (y + 256 * z)) ((ush (x + 256 * (y + 256 * z)) 1) &&& 1431655765) = tq_F x + 256 * (tq_F y + 256 * tq_F z) := by
  rw [tq_ush (by omega) (by omega)]
  have e : (x + 256 * (y + 256 * z)) / 2 ^ 1 = (x / 2 + 128 * (y % 2)) + 256 * ((y / 2 + 128 * (z % 2)) + 256 * (z / 2)) := by omega
  have q := tq_m (x := x / 2 + 128 * (y % 2)) (y := y / 2 + 128 * (z % 2)) (z := z / 2) (m := 85) (by omega) (by omega) (by omega) (by omega)
  rw [tq_b1 x hx (y % 2) (by omega), tq_b1 y hy (z % 2) (by omega)] at q
  rw [e, show 1431655765 = 85 + 256 * (85 + 256 * (85 + 256 * 85)) from rfl, q]
  have a1 := tq_b6 x hx
  have a2 := tq_b6 y hy
  have a3 := tq_b6 z hz
  unfold tq_F
  generalize (x / 2) &&& 85 = A at *
  generalize (y / 2) &&& 85 = C at *
  generalize (z / 2) &&& 85 = D at *
  rw [sb_le (by omega)]
  omega
theorem tq_s2 {x y z : Nat} (hx : x < 256) (hy : y < 256) (hz : z < 256) : ((x + 256 * (y + 256 * z)) &&& 858993459) + ((ush (x + 256 * (y + 256 * z)) 2) &&& 858993459) = tq_G x + 256 * (tq_G y + 256 * tq_G z) := by
  rw [tq_ush (by omega) (by omega)]
  have e : (x + 256 * (y + 256 * z)) / 2 ^ 2 = (x / 4 + 64 * (y % 4)) + 256 * ((y / 4 + 64 * (z % 4)) + 256 * (z / 4)) := by omega
  have q := tq_m (x := x / 4 + 64 * (y % 4)) (y := y / 4 + 64 * (z % 4)) (z := z / 4) (m := 51) (by omega) (by omega) (by omega) (by omega)
  rw [tq_b2 x hx (y % 4) (by omega), tq_b2 y hy (z % 4) (by omega)] at q
  rw [e, show 858993459 = 51 + 256 * (51 + 256 * (51 + 256 * 51)) from rfl, q, tq_m hx hy hz (by omega)]
  unfold tq_G
  omega
theorem tq_s3 {x y z : Nat} (hx : x < 103 ∧ x % 16 < 7) (hy : y < 103 ∧ y % 16 < 7) (hz : z < 103 ∧ z % 16 < 7) : ((x + 256 * (y + 256 * z)) + (ush (x + 256 * (y + 256 * z)) 4)) &&& 252645135 = tq_H x + 256 * (tq_H y + 256 * tq_H z) := by
  rw [tq_ush (by omega) (by omega)]
  have e : (x + 256 * (y + 256 * z)) + (x + 256 * (y + 256 * z)) / 2 ^ 4 = (x + x / 16 + 16 * (y % 16)) + 256 * ((y + y / 16 + 16 * (z % 16)) + 256 * (z + z / 16 + 16 * 0)) := by omega
  have q := tq_m (x := x + x / 16 + 16 * (y % 16)) (y := y + y / 16 + 16 * (z % 16)) (z := z + z / 16 + 16 * 0) (m := 15) (by omega) (by omega) (by omega) (by omega)
  rw [tq_b3 x hx.1 (y % 16) hy.2, tq_b3 y hy.1 (z % 16) hz.2, tq_b3 z hz.1 0 (by omega)] at q
  rw [e, show 252645135 = 15 + 256 * (15 + 256 * (15 + 256 * 15)) from rfl, q]
theorem tq_bc {x y z : Nat} (g : mg_F) (hx : x < 256) (hy : y < 256) (hz : z < 256) : P_J6_bitCount_0f7a4 (x + 256 * (y + 256 * z)) g = some (tq_H (tq_G (tq_F x)) + tq_H (tq_G (tq_F y)) + tq_H (tq_G (tq_F z)), g) := by
  unfold P_J6_bitCount_0f7a4
  have f1 := (tq_b5 x hx).2
  have f2 := (tq_b5 y hy).2
  have f3 := (tq_b5 z hz).2
  rw [tq_s1 hx hy hz, tq_s2 f1 f2 f3, tq_s3 (tq_b4 _ f1) (tq_b4 _ f2) (tq_b4 _ f3)]
  have c1 := tq_b7 _ (tq_b4 _ f1).1
  have c2 := tq_b7 _ (tq_b4 _ f2).1
  have c3 := tq_b7 _ (tq_b4 _ f3).1
  generalize tq_H (tq_G (tq_F x)) = a at *
  generalize tq_H (tq_G (tq_F y)) = b at *
  generalize tq_H (tq_G (tq_F z)) = c at *
  rw [tq_ush (a := a + 256 * (b + 256 * c)) (b := 8) (by omega) (by omega), show (a + 256 * (b + 256 * c)) + (a + 256 * (b + 256 * c)) / 2 ^ 8 = (a + b) + 256 * ((b + c) + 256 * c) by omega]
  rw [tq_ush (a := (a + b) + 256 * ((b + c) + 256 * c)) (b := 16) (by omega) (by omega), show (a + b) + 256 * ((b + c) + 256 * c) + ((a + b) + 256 * ((b + c) + 256 * c)) / 2 ^ 16 = (a + b + c) + 256 * ((b + c) + 256 * c) by omega]
  rw [show 63 = 2 ^ 6 - 1 from rfl, Nat.and_two_pow_sub_one_eq_mod, show ((a + b + c) + 256 * ((b + c) + 256 * c)) % 2 ^ 6 = a + b + c by omega]
theorem tq_bits {m : Nat} (g : mg_F) (hm : m < 16777216) : P_J6_bitCount_0f7a4 m g = some (tq_c (fun i => m.testBit i) 24, g) := by
  have e : m = m % 256 + 256 * (m / 256 % 256 + 256 * (m / 65536)) := by omega
  have h1 : m % 256 < 256 := by omega
  have h2 : m / 256 % 256 < 256 := by omega
  have h3 : m / 65536 < 256 := by omega
  have q := tq_bc g h1 h2 h3
  rw [← e, (tq_b5 _ h1).1, (tq_b5 _ h2).1, (tq_b5 _ h3).1] at q
  rw [q]
  have k1 : tq_c (fun i => (m % 256).testBit i) 8 = tq_c (fun i => m.testBit i) 8 := tq_cg 8 (fun i hi => by
    show (m % 2 ^ 8).testBit i = m.testBit i
    rw [Nat.testBit_mod_two_pow]; simp [hi])
  have k2 : tq_c (fun i => (m / 256 % 256).testBit i) 8 = tq_c (fun i => m.testBit (8 + i)) 8 := tq_cg 8 (fun i hi => by
    show (m / 2 ^ 8 % 2 ^ 8).testBit i = m.testBit (8 + i)
    rw [Nat.testBit_mod_two_pow, Nat.testBit_div_two_pow]; simp [hi, Nat.add_comm])
  have k3 : tq_c (fun i => (m / 65536).testBit i) 8 = tq_c (fun i => m.testBit (8 + (8 + i))) 8 := tq_cg 8 (fun i hi => by
    show (m / 2 ^ 16).testBit i = m.testBit (8 + (8 + i))
    rw [Nat.testBit_div_two_pow]; congr 1; omega)
  have s1 : tq_c (fun i => m.testBit i) (8 + 16) = _ := tq_add (p := fun i => m.testBit i) (n := 8) 16
  have s2 : tq_c (fun i => m.testBit (8 + i)) (8 + 8) = _ := tq_add (p := fun i => m.testBit (8 + i)) (n := 8) 8
  rw [k1, k2, k3, show (24 : Nat) = 8 + 16 from rfl, s1, show (16 : Nat) = 8 + 8 from rfl, s2, Nat.add_assoc]
section TOLD
variable {B : mg_F × mg_F} {N : Nat} {gc gm : mg_F}
theorem s_told6 {a b : Nat} (h : TT B N gc gm) (ha : a < 4294967296) (hb : ¬ sv b = sv 6) : SM B (N + 2) (P_X4_told a b gc) (P_X5_told a b gm) := by
  obtain ⟨g1, g2, g3, g4, g5, g6⟩ := h.2.1
  by_cases ho : gm 5 0 1 = 1
  · have n0 : ¬ sv (gm 5 0 1) = 0 := cl_o ho rfl
    by_cases hs : a < gm 5 0 0
    · have hos : gm 5 0 1 = 1 ∧ a < gm 5 0 0 := ⟨ho, hs⟩
      obtain ⟨hA, lo, hI⟩ := h.2.2.2.1 ho
      have h24 : a < 24 := by omega
      obtain ⟨f1, f2, f3, f4, f5, f6, f7, f8, _⟩ := hA.2.2.2.2.1 a hs
      obtain ⟨u1, _⟩ := hA.2.2.2.2.2.1 a hs
      obtain ⟨w1, w2, w3⟩ := hA.2.2.2.2.2.2.2.1
      obtain ⟨v1, v2, v3⟩ := hA.2.2.1
      have e8 : P_X1_sentBy 0 a gc = some (tq_c (fun i => gc 12 0 i == a) (gm 5 0 21), gc) := by
        unfold P_X1_sentBy
        obtain ⟨x, e1, e2⟩ := lp_ex (L := fun n x v => L_X1_sentBy_4 0 a (fun w8 w9 g10 => some (w8, g10)) n x v gc) (K := fun x => some (x, gc)) (I := fun v x => x = tq_c (fun i => gc 12 0 i == a) v) (N := gm 5 0 21) (by
          intro n x v hv hx
          obtain ⟨_, _, t3, _⟩ := w3 v hv
          refine ⟨_, ?_, rfl⟩
          show L_X1_sentBy_4 0 a _ (n + 1) x v gc = L_X1_sentBy_4 0 a _ n (tq_c (fun i => gc 12 0 i == a) v + (if (gc 12 0 v == a) = true then 1 else 0)) (v + 1) gc
          rw [L_X1_sentBy_4, w1, if_pos ((sv_ltN (by omega) (by omega)).mpr hv), ck_t (show v < mg_cap 0 by unfold mg_cap; split <;> omega), jn_s, ← hx]
          by_cases c : gc 12 0 v = a
          · rw [if_pos ((sv_eqN (by omega) (by omega)).mpr c), if_pos (by simpa using c)]
          · rw [if_neg (fun k => c ((sv_eqN (by omega) (by omega)).mp k)), if_neg (by simpa using c)]; rfl) (by
          intro n x _
          show L_X1_sentBy_4 0 a _ (n + 1) x (gm 5 0 21) gc = _
          rw [L_X1_sentBy_4, w1, if_neg (by omega)]) (gm 5 0 21) 4000 0 0 (by omega) (by omega) rfl
        rw [← e1]; exact e2
      have y8 : L_X5_told_159 a b (fun w25 w26 g27 => some (w25, g27)) 4000 0 0 gm = some (tq_c (fun i => gc 12 0 i == a) (gm 5 0 21), gm) := by
        obtain ⟨x, e1, e2⟩ := lp_ex (L := fun n x v => L_X5_told_159 a b (fun w25 w26 g27 => some (w25, g27)) n x v gm) (K := fun x => some (x, gm)) (I := fun v x => x = tq_c (fun i => gc 12 0 i == a) v) (N := gm 5 0 21) (by
          intro n x v hv hx
          obtain ⟨_, t2, t3, t4, _⟩ := w3 v hv
          refine ⟨_, ?_, rfl⟩
          show L_X5_told_159 a b _ (n + 1) x v gm = L_X5_told_159 a b _ n (tq_c (fun i => gc 12 0 i == a) v + (if (gc 12 0 v == a) = true then 1 else 0)) (v + 1) gm
          rw [L_X5_told_159, if_pos ((sv_ltN (by omega) (by omega)).mpr hv), ck_t (by omega), ck_t (by omega), jn_s, ← hx, show gm 52 0 v / 24 = gc 12 0 v by omega]
          by_cases c : gc 12 0 v = a
          · rw [if_pos ((sv_eqN (by omega) (by omega)).mpr c), if_pos (by simpa using c)]
          · rw [if_neg (fun k => c ((sv_eqN (by omega) (by omega)).mp k)), if_neg (by simpa using c)]) (by
          intro n x _
          show L_X5_told_159 a b _ (n + 1) x (gm 5 0 21) gm = _
          rw [L_X5_told_159, if_neg (by omega)]) (gm 5 0 21) 4000 0 0 (by omega) (by omega) rfl
        rw [← e1]; exact e2
      have p9 : tq_c (fun i => (gc 10 0 a).testBit i) 24 = tq_c (fun i => gm 35 0 (24 * a + i) == 1) (gm 5 0 0) := by
        have k1 : tq_c (fun i => (gc 10 0 a).testBit i) 24 = tq_c (fun i => gm 35 0 (24 * a + i) == 1) 24 := tq_cg 24 (fun i hi => by
          show (gc 10 0 a).testBit i = (gm 35 0 (24 * a + i) == 1)
          rw [v1 a i h24 hi]
          cases (gc 10 0 a).testBit i <;> rfl)
        have k2 := tq_pad (p := fun i => gm 35 0 (24 * a + i) == 1) (n := gm 5 0 0) (24 - gm 5 0 0) (fun i i1 i2 => by
          have : ¬ gm 35 0 (24 * a + i) = 1 := fun k => by
            have := (v3 a i h24 (by omega) k).2.2.2
            omega
          simpa using this)
        rw [show gm 5 0 0 + (24 - gm 5 0 0) = 24 by omega] at k2
        rw [k1, k2]
      have e9 : P_X0_neighboursOf a gc = some (tq_c (fun i => gm 35 0 (24 * a + i) == 1) (gm 5 0 0), gc) := by
        unfold P_X0_neighboursOf
        rw [ck_t h24, tq_bits gc (v2 a h24), bd_s, p9]
      have y9 : L_X5_told_201 a b (fun w29 w30 g31 => some (w29, g31)) 4000 0 0 gm = some (tq_c (fun i => gm 35 0 (24 * a + i) == 1) (gm 5 0 0), gm) := by
        obtain ⟨x, e1, e2⟩ := lp_ex (L := fun n x v => L_X5_told_201 a b (fun w25 w26 g27 => some (w25, g27)) n x v gm) (K := fun x => some (x, gm)) (I := fun v x => x = tq_c (fun i => gm 35 0 (24 * a + i) == 1) v) (N := gm 5 0 0) (by
          intro n x v hv hx
          have t := v1 a v h24 (by omega)
          refine ⟨_, ?_, rfl⟩
          show L_X5_told_201 a b _ (n + 1) x v gm = L_X5_told_201 a b _ n (tq_c (fun i => gm 35 0 (24 * a + i) == 1) v + (if (gm 35 0 (24 * a + v) == 1) = true then 1 else 0)) (v + 1) gm
          rw [L_X5_told_201, if_pos ((sv_ltN (by omega) (by omega)).mpr hv), ck_t (by omega), jn_s, ← hx]
          by_cases c : gm 35 0 (24 * a + v) = 1
          · rw [c, if_neg sv10]; rfl
          · have z : gm 35 0 (24 * a + v) = 0 := by
              rw [t] at c ⊢
              split at c
              · exact absurd rfl c
              · rename_i k; rw [if_neg k]
            rw [z, if_pos sv_0]; rfl) (by
          intro n x _
          show L_X5_told_201 a b _ (n + 1) x (gm 5 0 0) gm = _
          rw [L_X5_told_201, if_neg (by omega)]) (gm 5 0 0) 4000 0 0 (by omega) (by omega) rfl
        rw [← e1]; exact e2
      generalize tq_c (fun i => gc 12 0 i == a) (gm 5 0 21) = X8 at e8 y8
      generalize tq_c (fun i => gm 35 0 (24 * a + i) == 1) (gm 5 0 0) = X9 at e9 y9
      have hc : P_X4_told a b gc = (if sv b = sv 0 then (if sv (gm 37 0 a) = 0 then some (0, gc) else some (1, gc)) else if sv b = sv 1 then (if sv (gm 38 0 a) = 0 then some (0, gc) else some (1, gc)) else if sv b = sv 2 then (if sv (gm 39 0 a) = 0 then some (0, gc) else some (1, gc)) else if sv b = sv 3 then some (gm 46 0 a, gc) else if sv b = sv 4 then some (gm 40 0 a, gc) else if sv b = sv 5 then some (gm 42 0 a, gc) else if sv b = sv 6 then some (gc 3 a 10, gc) else if sv b = sv 7 then some (gm 44 0 a, gc) else if sv b = sv 8 then some (X8, gc) else if sv b = sv 9 then some (X9, gc) else some (4294967295, gc)) := by
        unfold P_X4_told
        rw [st_c h ha, bd_s, if_pos hos, if_neg sv10, ck_t h24, e8, bd_s, e9, bd_s, f2, f4, f5, u1, f6, f7, f8]
      have hm : P_X5_told a b gm = (if sv b = sv 0 then (if sv (gm 37 0 a) = 0 then some (0, gm) else some (1, gm)) else if sv b = sv 1 then (if sv (gm 38 0 a) = 0 then some (0, gm) else some (1, gm)) else if sv b = sv 2 then (if sv (gm 39 0 a) = 0 then some (0, gm) else some (1, gm)) else if sv b = sv 3 then some (gm 46 0 a, gm) else if sv b = sv 4 then some (gm 40 0 a, gm) else if sv b = sv 5 then some (gm 42 0 a, gm) else if sv b = sv 6 then some (gm 43 0 a, gm) else if sv b = sv 7 then some (gm 44 0 a, gm) else if sv b = sv 8 then some (X8, gm) else if sv b = sv 9 then some (X9, gm) else some (4294967295, gm)) := by
        unfold P_X5_told
        rw [if_neg n0, st_m h ha, bd_s, if_pos hs, if_neg sv10, y8, y9]
        repeat rw [ck_t h24]
      refine SM_cg ?_ hc hm
      by_cases c0 : sv b = sv 0
      · rw [if_pos c0, if_pos c0]
        by_cases k : sv (gm 37 0 a) = 0
        · rw [if_pos k, if_pos k]; exact SM_same h
        · rw [if_neg k, if_neg k]; exact SM_same h
      rw [if_neg c0, if_neg c0]
      by_cases c1 : sv b = sv 1
      · rw [if_pos c1, if_pos c1]
        by_cases k : sv (gm 38 0 a) = 0
        · rw [if_pos k, if_pos k]; exact SM_same h
        · rw [if_neg k, if_neg k]; exact SM_same h
      rw [if_neg c1, if_neg c1]
      by_cases c2 : sv b = sv 2
      · rw [if_pos c2, if_pos c2]
        by_cases k : sv (gm 39 0 a) = 0
        · rw [if_pos k, if_pos k]; exact SM_same h
        · rw [if_neg k, if_neg k]; exact SM_same h
      rw [if_neg c2, if_neg c2]
      by_cases c3 : sv b = sv 3
      · rw [if_pos c3, if_pos c3]; exact SM_same h
      rw [if_neg c3, if_neg c3]
      by_cases c4 : sv b = sv 4
      · rw [if_pos c4, if_pos c4]; exact SM_same h
      rw [if_neg c4, if_neg c4]
      by_cases c5 : sv b = sv 5
      · rw [if_pos c5, if_pos c5]; exact SM_same h
      rw [if_neg c5, if_neg c5, if_neg hb, if_neg hb]
      by_cases c7 : sv b = sv 7
      · rw [if_pos c7, if_pos c7]; exact SM_same h
      rw [if_neg c7, if_neg c7]
      by_cases c8 : sv b = sv 8
      · rw [if_pos c8, if_pos c8]; exact SM_same h
      rw [if_neg c8, if_neg c8]
      by_cases c9 : sv b = sv 9
      · rw [if_pos c9, if_pos c9]; exact SM_same h
      rw [if_neg c9, if_neg c9]; exact SM_same h
    · exact SM_e h (by unfold P_X4_told; rw [st_c h ha, bd_s, if_neg (show ¬ (gm 5 0 1 = 1 ∧ a < gm 5 0 0) from fun q => hs q.2), if_pos sv_0]) (by unfold P_X5_told; rw [if_neg n0, st_m h ha, bd_s, if_neg hs, if_pos sv_0])
  · obtain ⟨o1, o2⟩ := op0 h ho
    exact SM_e h (by unfold P_X4_told; rw [st_c h ha, bd_s, if_neg (show ¬ (gm 5 0 1 = 1 ∧ a < gm 5 0 0) from fun q => ho q.1), if_pos sv_0]) (by unfold P_X5_told; rw [if_pos o1])
end TOLD
