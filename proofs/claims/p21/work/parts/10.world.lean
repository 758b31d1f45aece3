/-! ===== the joint world: every cell by its kind and instance, every int a Nat ===== -/
abbrev mg_F : Type := Nat → Nat → Nat → Nat
abbrev mg_E : Type := (Nat → Nat → Nat) × ClassId × ClassId × ClassId × ClassId
abbrev iv (n : Nat) : Value := Value.int (nI n)
def mg_cnC : List Nat := [1, 2, 24, 24, 1, 0, 0, 0, 0, 0, 1, 2, 2, 2, 2, 2, 24, 24, 1, 1, 1, 24, 24]
def mg_cnM : List Nat := [0, 0, 0, 0, 0, 1, 0, 0, 0, 0, 0, 0, 0, 0, 0, 0, 0, 0, 0, 0, 0, 0, 0, 0, 0, 0, 0, 0, 0, 0, 0, 0, 0, 0, 0, 1, 1, 1, 1, 1, 1, 1, 1, 1, 1, 0, 1, 1, 1, 1, 1, 0, 1, 1, 1, 1, 0, 1, 1, 1, 1, 1, 1]
/-- how many cells of a kind there are; b: with the reference's -/
def mg_cnt (b : Bool) (k : Nat) : Nat := match mg_cnC.getD k 0 with
  | 0 => bif b then mg_cnM.getD k 0 else 0
  | n + 1 => n + 1
def mg_cap (i : Nat) : Nat := if i = 0 then 1024 else 60
def mg_lnL : List Nat := [0, 0, 0, 0, 0, 0, 0, 0, 0, 0, 24, 0, 0, 0, 0, 0, 24, 24, 24, 24, 24, 24, 24, 0, 0, 0, 0, 0, 0, 0, 0, 0, 0, 0, 0, 576, 24, 24, 24, 24, 24, 24, 24, 24, 24, 0, 24, 576, 576, 576, 576, 0, 3000, 3000, 3000, 3000, 0, 60, 60, 60, 60, 24, 25]
def mg_len (k i : Nat) : Nat := match k with
  | 11 => mg_cap i
  | 12 => mg_cap i
  | 13 => mg_cap i
  | 14 => mg_cap i
  | 15 => mg_cap i
  | _ => mg_lnL.getD k 0
def mg_mk (E : mg_E) (k i : Nat) (r : Nat → Nat) : va_E := match k with
  | 0 => .inr (0, [.ref (E.1 10 0), iv (r 1), iv (r 2)])
  | 1 => .inr (1, [.ref (E.1 11 i), .ref (E.1 12 i), .ref (E.1 13 i), .ref (E.1 14 i), .ref (E.1 15 i), iv (r 5)])
  | 2 => .inr (2, [.ref (E.1 16 i), .ref (E.1 17 i), iv (r 2)])
  | 3 => .inr (3, [iv i, .ref (E.1 2 i), iv (r 2), iv (r 3), iv (r 4), iv (r 5), iv (r 6), iv (r 7), iv (r 8), iv (r 9), iv (r 10), iv (r 11)])
  | 4 => .inr (4, [.ref (E.1 0 0), .ref (E.1 18 0), .ref (E.1 1 0), .ref (E.1 1 1), .ref (E.1 19 0), .ref (E.1 20 0), iv (r 6), iv (r 7), iv (r 8), iv (r 9)])
  | 5 => .inr (5, [iv (r 0), iv (r 1), iv (r 2), iv (r 3), iv (r 4), .ref (E.1 35 0), .ref (E.1 36 0), .ref (E.1 37 0), .ref (E.1 38 0), .ref (E.1 39 0), .ref (E.1 40 0), .ref (E.1 41 0), .ref (E.1 42 0), .ref (E.1 43 0), .ref (E.1 44 0), iv (r 15), .ref (E.1 46 0), .ref (E.1 47 0), .ref (E.1 48 0), .ref (E.1 49 0), .ref (E.1 50 0), iv (r 21), .ref (E.1 52 0), .ref (E.1 53 0), .ref (E.1 54 0), .ref (E.1 55 0), iv (r 26), .ref (E.1 57 0), .ref (E.1 58 0), .ref (E.1 59 0), .ref (E.1 60 0), .ref (E.1 61 0), .ref (E.1 62 0)])
  | 18 => .inl (E.2.2.2.1, 24, .inr (.inr (.inr (.inr (fun j => some (E.1 3 j))))))
  | 19 => .inl (E.2.2.2.2, 24, .inr (.inr (.inr (.inr (fun j => some (E.1 21 j))))))
  | 20 => .inl (E.2.2.2.2, 24, .inr (.inr (.inr (.inr (fun j => some (E.1 22 j))))))
  | 35 => .inl (E.2.2.1, 576, .inl (fun j => nI (r j)))
  | 37 => .inl (E.2.2.1, 24, .inl (fun j => nI (r j)))
  | 38 => .inl (E.2.2.1, 24, .inl (fun j => nI (r j)))
  | 39 => .inl (E.2.2.1, 24, .inl (fun j => nI (r j)))
  | k => .inl (E.2.1, mg_len k i, .inl (fun j => nI (r j)))
abbrev mg_tys (E : mg_E) : List (ClassId × FieldType) := [(E.2.1, .int), (E.2.2.1, .boolean), (E.2.2.2.1, .object "PumpHouse$Station"), (E.2.2.2.2, .array .int)]
def mg_all (b : Bool) : List (Nat × Nat) := (List.range 63).flatMap (fun k => (List.range (mg_cnt b k)).map (fun i => (k, i)))
def mg_row (E : mg_E) (g : mg_F) (q : Nat × Nat) : Nat × va_E := (E.1 q.1 q.2, mg_mk E q.1 q.2 (g q.1 q.2))
def mg_ws (E : mg_E) (b : Bool) (g : mg_F) : va_W := (mg_all b).map (mg_row E g)
theorem mg_cnt_lt {b : Bool} {k i : Nat} (h : i < mg_cnt b k) : k < 63 := by
  rcases Nat.lt_or_ge k 63 with q | q
  · exact q
  · exfalso
    have h1 : mg_cnC.getD k 0 = 0 := by
      rw [List.getD_eq_getElem?_getD, List.getElem?_eq_none (by show 23 ≤ k; omega)]; rfl
    have h2 : mg_cnM.getD k 0 = 0 := by
      rw [List.getD_eq_getElem?_getD, List.getElem?_eq_none (by show 63 ≤ k; omega)]; rfl
    unfold mg_cnt at h
    rw [h1, h2] at h
    cases b <;> simp at h
theorem mg_in {b : Bool} {k i : Nat} (h : i < mg_cnt b k) : (k, i) ∈ mg_all b := by
  unfold mg_all
  rw [List.mem_flatMap]
  exact ⟨k, List.mem_range.mpr (mg_cnt_lt h), List.mem_map.mpr ⟨i, List.mem_range.mpr h, rfl⟩⟩
theorem mg_in' {b : Bool} {q : Nat × Nat} (h : q ∈ mg_all b) : q.2 < mg_cnt b q.1 := by
  unfold mg_all at h
  obtain ⟨k, -, h2⟩ := List.mem_flatMap.mp h
  obtain ⟨i, h3, rfl⟩ := List.mem_map.mp h2
  exact List.mem_range.mp h3
theorem mg_at {b : Bool} {k i : Nat} (h : i < mg_cnt b k) : ∃ n : Nat, (mg_all b)[n]? = some (k, i) := List.getElem?_of_mem (mg_in h)
theorem mg_nd (b : Bool) : (mg_all b).Nodup := by cases b <;> decide +kernel
theorem mg_ix {b : Bool} {n n' : Nat} {q : Nat × Nat} (h : (mg_all b)[n]? = some q) (h' : (mg_all b)[n']? = some q) : n = n' :=
  (List.getElem?_inj (List.getElem?_eq_some_iff.mp h).1 (mg_nd b)).mp (h.trans h'.symm)
theorem mg_ws_at {E : mg_E} {b : Bool} {g : mg_F} {n k i : Nat} (h : (mg_all b)[n]? = some (k, i)) : (mg_ws E b g)[n]? = some (E.1 k i, mg_mk E k i (g k i)) := by
  unfold mg_ws
  rw [List.getElem?_map, h]
  rfl
def mg_A (E : mg_E) (b : Bool) (B : Nat) : Prop := (∀ q q', q ∈ mg_all b → q' ∈ mg_all b → E.1 q.1 q.2 = E.1 q'.1 q'.2 → q = q') ∧ ∀ q ∈ mg_all b, B ≤ E.1 q.1 q.2
theorem mg_D {E : mg_E} {b : Bool} {B : Nat} (h : mg_A E b B) (g : mg_F) : va_D (fun q => B ≤ q) (mg_ws E b g) := by
  have key : ∀ (k : Nat) (x : Nat × va_E), (mg_ws E b g)[k]? = some x → ∃ q, (mg_all b)[k]? = some q ∧ x.1 = E.1 q.1 q.2 := by
    intro k x hx
    unfold mg_ws at hx
    rw [List.getElem?_map] at hx
    cases hq : (mg_all b)[k]? with
    | none => rw [hq] at hx; cases hx
    | some q => rw [hq] at hx; cases hx; exact ⟨q, rfl, rfl⟩
  refine ⟨fun i j x y hi hj hxy => ?_, fun k x hx => ?_⟩
  · obtain ⟨q, h1, h2⟩ := key i x hi
    obtain ⟨q', h3, h4⟩ := key j y hj
    have e := h.1 q q' (List.mem_of_getElem? h1) (List.mem_of_getElem? h3) (by rw [← h2, ← h4, hxy])
    subst e
    exact mg_ix h1 h3
  · obtain ⟨q, h1, h2⟩ := key k x hx
    show B ≤ x.1
    rw [h2]
    exact h.2 q (List.mem_of_getElem? h1)
/-- a cell's row of numbers made another -/
def mg_upr (g : mg_F) (k i : Nat) (r : Nat → Nat) : mg_F := fun k' i' => if k' = k ∧ i' = i then r else g k' i'
/-- a number of a row made another -/
def mg_us (r : Nat → Nat) (j v : Nat) : Nat → Nat := fun j' => if j' = j then v else r j'
def mg_up (g : mg_F) (k i j v : Nat) : mg_F := mg_upr g k i (mg_us (g k i) j v)
theorem mg_set {E : mg_E} {b : Bool} {g : mg_F} {n k i : Nat} (h : (mg_all b)[n]? = some (k, i)) (r : Nat → Nat) : (mg_ws E b g).set n (E.1 k i, mg_mk E k i r) = mg_ws E b (mg_upr g k i r) := by
  apply List.ext_getElem?
  intro m
  by_cases hm : m = n
  · subst hm
    rw [mg_ws_at (g := mg_upr g k i r) h, List.getElem?_set_self (by unfold mg_ws; rw [List.length_map]; exact (List.getElem?_eq_some_iff.mp h).1)]
    simp [mg_upr]
  · rw [List.getElem?_set_ne (fun e => hm e.symm)]
    unfold mg_ws
    rw [List.getElem?_map, List.getElem?_map]
    cases hq : (mg_all b)[m]? with
    | none => rfl
    | some q =>
      have hne : ¬ (q.1 = k ∧ q.2 = i) := fun e => hm (mg_ix (q := (k, i)) (by rw [hq]; exact congrArg some (Prod.ext e.1 e.2)) h)
      simp [mg_row, mg_upr, hne]
/-! ===== numbers ===== -/
theorem mg_nI {a : Nat} (h : a < 2147483648) : (nI a).toInt = (a : Int) := nI_toInt h
def mg_sg (a : Nat) : Int := if a < 2147483648 then (a : Int) else (a : Int) - 4294967296
theorem mg_sI {a : Nat} (h : a < 4294967296) : (nI a).toInt = mg_sg a := by
  unfold mg_sg
  by_cases q : a < 2147483648
  · rw [if_pos q]; exact nI_toInt q
  · rw [if_neg q]
    show (Int32.ofNat a).toInt = _
    rw [Int32.toInt_ofNat']
    simp only [Int.bmod, Int32.size]
    omega
theorem mg_eqI {a b : Nat} (ha : a < 4294967296) (hb : b < 4294967296) : nI a = nI b ↔ a = b := by
  rw [← Int32.toInt_inj, mg_sI ha, mg_sI hb]
  unfold mg_sg
  split <;> split <;> omega
theorem mg_ltI {a b : Nat} (ha : a < 4294967296) (hb : b < 4294967296) : nI a < nI b ↔ mg_sg a < mg_sg b := by
  rw [Int32.lt_iff_toInt_lt, mg_sI ha, mg_sI hb]
theorem mg_leI {a b : Nat} (ha : a < 4294967296) (hb : b < 4294967296) : nI a ≤ nI b ↔ mg_sg a ≤ mg_sg b := by
  rw [Int32.le_iff_toInt_le, mg_sI ha, mg_sI hb]
theorem mg_sgs {a : Nat} (h : a < 2147483648) : mg_sg a = (a : Int) := if_pos h
theorem mg_any (x : Int32) : ∃ a : Nat, a < 4294967296 ∧ x = nI a := by
  refine ⟨x.toUInt32.toNat, x.toUInt32.toNat_lt, ?_⟩
  apply Int32.toInt_inj.mp
  rw [mg_sI x.toUInt32.toNat_lt]
  unfold mg_sg
  have h1 : x.toInt = Int.bmod (x.toUInt32.toNat : Int) 4294967296 := BitVec.toInt_eq_toNat_bmod x.toBitVec
  rw [h1]
  simp only [Int.bmod]
  have := x.toUInt32.toNat_lt
  split <;> split <;> omega
theorem mg_sub {a b : Nat} (h : b ≤ a) : nI a - nI b = nI (a - b) := by
  have e : nI a = nI (a - b) + nI b := by rw [nI_add]; congr 1; omega
  rw [e, Int32.add_sub_cancel]
theorem mg_mul (a b : Nat) : nI a * nI b = nI (a * b) := (Int32.ofNat_mul a b).symm
theorem mg_0 : nI 0 = 0 := nI_0
