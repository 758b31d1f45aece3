/-! ===== letters: sent, copied, taken out ===== -/
/-- a letter more, where there is room -/
def mg_app (g : mg_F) (t x1 x2 x3 x4 x5 : Nat) : mg_F := if g 1 t 5 = mg_cap t then g else mg_up (mg_up (mg_up (mg_up (mg_up (mg_up g 11 t (g 1 t 5) x1) 12 t (g 1 t 5) x2) 13 t (g 1 t 5) x3) 14 t (g 1 t 5) x4) 15 t (g 1 t 5) x5) 1 t 5 (g 1 t 5 + 1)
/-- the first letter from a to b, or NONE -/
def mg_fb (g : mg_F) (t a b : Nat) : Nat := mg_fi (fun q => g 12 t q = a ∧ g 13 t q = b) (g 1 t 5)
/-- the first letter from a to b copied into the pool -/
def mg_cf (g : mg_F) (a b : Nat) : mg_F := if mg_fb g 0 a b = 4294967294 then g else mg_app g 1 (g 11 0 (mg_fb g 0 a b)) (g 12 0 (mg_fb g 0 a b)) (g 13 0 (mg_fb g 0 a b)) (g 14 0 (mg_fb g 0 a b)) (g 15 0 (mg_fb g 0 a b))
theorem mg_capl (t : Nat) : mg_cap t < 2147483648 ∧ mg_cap t ≤ 1024 := by unfold mg_cap; split <;> omega
theorem mg_fb_or (g : mg_F) (t a b : Nat) : (mg_fb g t a b < g 1 t 5 ∧ g 12 t (mg_fb g t a b) = a ∧ g 13 t (mg_fb g t a b) = b) ∨ (mg_fb g t a b = 4294967294 ∧ ∀ j, j < g 1 t 5 → ¬ (g 12 t j = a ∧ g 13 t j = b)) := mg_fi_or (fun q => g 12 t q = a ∧ g 13 t q = b) (g 1 t 5)
section LET
variable {Z : mg_Zt} {g : mg_F}
theorem c_addF (l : Launch) {t x1 x2 x3 x4 x5 : Nat} (ht : t < 2) (hl : g 1 t 5 ≤ mg_cap t) : mg_C l Z mX1_add [rv Z 1 t, iv x1, iv x2, iv x3, iv x4, iv x5] g (fun v g' => v = none ∧ g' = mg_app g t x1 x2 x3 x4 x5) := by
  refine (c_tadd l ht hl (mg_capl t).1).mono (fun v g' _ h => ?_)
  unfold mg_app
  rcases h with ⟨h1, rfl, rfl⟩ | ⟨h1, rfl, rfl⟩
  · exact ⟨rfl, by rw [if_pos h1]⟩
  · exact ⟨rfl, by rw [if_neg (by omega)]⟩
theorem c_copyF (l : Launch) {t u i : Nat} (ht : t < 2) (hu : u < 2) (hl : g 1 t 5 ≤ mg_cap t) (hi : i < mg_cap u) : mg_C l Z mX1_addCopy [rv Z 1 t, rv Z 1 u, iv i] g (fun v g' => v = none ∧ g' = mg_app g t (g 11 u i) (g 12 u i) (g 13 u i) (g 14 u i) (g 15 u i)) := by
  refine (c_tcopy l ht hu hl (mg_capl t).1 (mg_capl u).1 hi).mono (fun v g' _ h => ?_)
  unfold mg_app
  rcases h with ⟨h1, rfl, rfl⟩ | ⟨h1, rfl, rfl⟩
  · exact ⟨rfl, by rw [if_pos h1]⟩
  · exact ⟨rfl, by rw [if_neg (by omega)]⟩
theorem c_fbF (l : Launch) {t a b : Nat} (ht : t < 2) (hl : g 1 t 5 ≤ mg_cap t) (hw : ∀ i, i < mg_cap t → g 12 t i < 4294967296 ∧ g 13 t i < 4294967296) (ha : a < 4294967296) (hb : b < 4294967296) : mg_C l Z mX1_firstBetween [rv Z 1 t, iv a, iv b] g (fun v g' => v = some (mg_fb g t a b) ∧ g' = g) := by
  refine (c_firstBetween l ht hl (mg_capl t).1 hw ha hb).mono (fun v g' _ h => ?_)
  have hc := (mg_capl t).2
  rcases h with ⟨i, ⟨h1, h2, h3⟩, rfl, rfl⟩ | ⟨h1, rfl, rfl⟩
  · exact ⟨by rw [mg_fb, mg_fi_some (p := fun q => g' 12 t q = a ∧ g' 13 t q = b) (i := i) (by omega) h2 h3 _ h1], rfl⟩
  · exact ⟨by rw [mg_fb, mg_fi_none (p := fun q => g' 12 t q = a ∧ g' 13 t q = b) _ h1], rfl⟩
/-- X4_copyFirst -/
theorem c_copyFirst (l : Launch) {a b : Nat} (h0 : g 1 0 5 ≤ 1024) (h1 : g 1 1 5 ≤ 60) (hw : ∀ i, i < mg_cap 0 → g 12 0 i < 4294967296 ∧ g 13 0 i < 4294967296) (ha : a < 4294967296) (hb : b < 4294967296) : mg_C l Z mX4_copyFirst [rv Z 4 0, iv a, iv b] g (fun v g' => v = none ∧ g' = mg_cf g a b) := by
  refine mg_C.of (by decide) rfl (Nat.le_of_ble_eq_true rfl) (List.forall_mem_cons.mpr ⟨rfl, (List.forall_mem_cons.mpr ⟨rfl, (List.forall_mem_cons.mpr ⟨rfl, (fun _ h => nomatch h)⟩)⟩)⟩) (fun K => ?_)
  have k0 : mg_cap 0 = 1024 := rfl
  have k1 : mg_cap 1 = 60 := rfl
  have hfo := mg_fb_or g 0 a b
  refine g_aload_n (pc := 0) dX4_copyFirst_0 rfl ?_
  refine fg_X4_copyFirst_27 (pc := 1) dX4_copyFirst_1 ?_
  refine g_iload_n (pc := 4) dX4_copyFirst_4 rfl ?_
  refine g_iload_n (pc := 5) dX4_copyFirst_5 rfl ?_
  refine g_callVi (pc := 6) (Y' := mX1_firstBetween) (As := [iv a, iv b]) (st := []) (k := 1) (i := 0) (c_fbF K.2.1 (g := g) (t := 0) (a := a) (b := b) (by decide) (by omega) hw (by omega) (by omega)) gX4_copyFirst_X1_firstBetween rfl (show 0 < 2 by omega) rfl rfl (na := 2) rfl (by decide +kernel) (by decide) (by decide) (Nat.le_of_ble_eq_true rfl) dX4_copyFirst_6 (fun r1 g2 p3 => ?_)
  obtain ⟨hv, hg⟩ := p3
  have hg := hg.symm
  subst hg
  have hv := (Option.some.inj hv).symm
  subst hv
  refine g_istore_n (pc := 9) (ls' := [rv Z 4 0, iv a, iv b, iv (mg_fb g 0 a b)]) dX4_copyFirst_9 (Nat.le_of_ble_eq_true rfl) (Nat.le_of_ble_eq_true rfl) rfl ?_
  refine g_iload_n (pc := 10) dX4_copyFirst_10 rfl ?_
  refine g_bipush (pc := 11) (v := 4294967294) dX4_copyFirst_11 (by decide +kernel) ?_
  refine g_icmp_eq (pc := 13) 28 dX4_copyFirst_13 (by decide) (by omega) (by omega) (fun h4 => ?_) (fun h4 => ?_)
  · exact g_ret (pc := 28) dX4_copyFirst_28 trivial (by unfold mg_cf; first | (rw [if_pos (by omega)]; exact ⟨rfl, rfl⟩) | (rw [if_neg (by omega)]; exact ⟨rfl, rfl⟩))
  · refine g_aload_n (pc := 16) dX4_copyFirst_16 rfl ?_
    refine fg_X4_copyFirst_31 (pc := 17) dX4_copyFirst_17 ?_
    refine g_aload_n (pc := 20) dX4_copyFirst_20 rfl ?_
    refine fg_X4_copyFirst_27 (pc := 21) dX4_copyFirst_21 ?_
    refine g_iload_n (pc := 24) dX4_copyFirst_24 rfl ?_
    refine g_callVv (pc := 25) (Y' := mX1_addCopy) (As := [rv Z 1 0, iv (mg_fb g 0 a b)]) (st := []) (k := 1) (i := 1) (c_copyF K.2.1 (g := g) (t := 1) (u := 0) (i := (mg_fb g 0 a b)) (by decide) (by decide) (by omega) (by omega)) gX4_copyFirst_X1_addCopy rfl (show 1 < 2 by omega) rfl rfl (na := 2) rfl (by decide +kernel) (by decide) (by decide) (Nat.le_of_ble_eq_true rfl) dX4_copyFirst_25 (fun g6 p7 => ?_)
    obtain ⟨-, hg⟩ := p7
    have hg := hg.symm
    subst hg
    exact g_ret (pc := 28) dX4_copyFirst_28 trivial (by unfold mg_cf; first | (rw [if_pos (by omega)]; exact ⟨rfl, rfl⟩) | (rw [if_neg (by omega)]; exact ⟨rfl, rfl⟩))
end LET
