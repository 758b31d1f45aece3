/-! ===== links and parts: every link makes one part less, also while open ===== -/
def TQ (Q : Nat → mg_F → Prop) (o : mo) : Prop := ∀ r g', o = some (r, g') → Q r g'
section TQR
variable {Q : Nat → mg_F → Prop}
theorem tq_none : TQ Q none := fun _ _ e => nomatch e
theorem tq_some {r : Nat} {g : mg_F} (h : Q r g) : TQ Q (some (r, g)) := fun r' g' e => by cases e; exact h
theorem tq_ck {p : Prop} {dp : Decidable p} {o : mo} (h : p → TQ Q o) : TQ Q (@ck p dp o) := fun r g' e => by
  unfold ck at e
  by_cases c : p
  · rw [if_pos c] at e; exact h c r g' e
  · rw [if_neg c] at e; cases e
theorem tq_ite {p : Prop} {dp : Decidable p} {a b : mo} (ha : p → TQ Q a) (hb : ¬ p → TQ Q b) : TQ Q (@ite mo p dp a b) := by
  by_cases c : p
  · rw [if_pos c]; exact ha c
  · rw [if_neg c]; exact hb c
theorem tq_wr {R : mg_F → Prop} {gn : mg_F} {k : mg_F → mo} (h : R gn) (hk : ∀ g, R g → TQ Q (k g)) : TQ Q (wr gn k) := hk gn h
theorem tq_bd {R : mg_F → Prop} {o : mo} {k : Nat → mg_F → mo} (h : KP R o) (hk : ∀ r g, R g → TQ Q (k r g)) : TQ Q (bd o k) := fun r g' e => by
  cases ho : o with
  | none => rw [ho] at e; cases e
  | some q => rw [ho] at e; exact hk q.1 q.2 (h q.1 q.2 ho) r g' e
theorem tq_bdQ {Q1 : Nat → mg_F → Prop} {o : mo} {k : Nat → mg_F → mo} (h : TQ Q1 o) (hk : ∀ r g, Q1 r g → TQ Q (k r g)) : TQ Q (bd o k) := fun r g' e => by
  cases ho : o with
  | none => rw [ho] at e; cases e
  | some q => rw [ho] at e; exact hk q.1 q.2 (h q.1 q.2 ho) r g' e
theorem tq_jn {R : mg_F → Prop} {α : Type} {k : α → mg_F → mo} {f : (α → mg_F → mo) → mo} (hk : ∀ a g, R g → TQ Q (k a g)) (hf : ∀ kj, (∀ a g, R g → TQ Q (kj a g)) → TQ Q (f kj)) : TQ Q (jn k f) := hf k hk
end TQR
theorem kc_X0_untie {c a b : Nat} {g : mg_F} (h : Rc c g) : KP (Rc (sb c 1)) (P_X0_untie a b g) := by
  intro r g' e
  by_cases ha : a < 24
  · by_cases hb : b < 24
    · rw [q_untie ha hb] at e
      cases e
      show untie g a b 0 0 2 = _
      unfold untie
      rw [ue, if_pos ⟨rfl, rfl, rfl⟩]
      rw [show g 0 0 2 = c from h]
    · unfold P_X0_untie ck wr at e
      simp [hb] at e
  · unfold P_X0_untie ck at e
    simp [ha] at e
theorem kc_X0_tie {c a b : Nat} {g : mg_F} (h : Rc c g) : KP (Rc (c + 1)) (P_X0_tie a b g) := by
  intro r g' e
  by_cases ha : a < 24
  · by_cases hb : b < 24
    · rw [q_tie ha hb] at e
      cases e
      show tie g a b 0 0 2 = _
      unfold tie
      rw [ue, if_pos ⟨rfl, rfl, rfl⟩]
      rw [show g 0 0 2 = c from h]
    · unfold P_X0_tie ck wr at e
      simp [hb] at e
  · unfold P_X0_tie ck at e
    simp [ha] at e
def Qd (c c' : Nat) (r : Nat) (g : mg_F) : Prop := (r = 0 ∧ g 0 0 2 = c') ∨ (r ≠ 0 ∧ r < 4294967296 ∧ g 0 0 2 = c)
theorem qd_no {c c' r : Nat} {g : mg_F} (hr : r ≠ 0) (hr2 : r < 4294967296) (h : Rc c g) : TQ (Qd c c') (some (r, g)) := tq_some (Or.inr ⟨hr, hr2, h⟩)
theorem qd_yes {c c' : Nat} {g : mg_F} (h : Rc c' g) : TQ (Qd c c') (some (0, g)) := tq_some (Or.inl ⟨rfl, h⟩)
theorem tc_cut {c a b : Nat} {g : mg_F} (h : Rc c g) : TQ (Qd c (sb c 1)) (P_X4_cut a b g) := by
  unfold P_X4_cut
  refine tq_bd (kc_X4_isStation h) (fun _ _ h => tq_ite (fun _ => qd_no (by decide) (by decide) h) (fun _ => ?_))
  refine tq_bd (kc_X4_isStation h) (fun _ _ h => tq_ite (fun _ => qd_no (by decide) (by decide) h) (fun _ => ?_))
  refine tq_bd (kc_X0_linked h) (fun _ _ h => tq_ite (fun _ => qd_no (by decide) (by decide) h) (fun _ => ?_))
  refine tq_bd (kc_X1_hasBetween h) (fun _ _ h => tq_ite (fun _ => ?_) (fun _ => qd_no (by decide) (by decide) h))
  refine tq_bd (kc_X1_hasBetween h) (fun _ _ h => tq_ite (fun _ => ?_) (fun _ => qd_no (by decide) (by decide) h))
  refine tq_ck (fun _ => tq_bd (kc_X2_placeOf h) (fun _ _ h => tq_ite (fun _ => ?_) (fun _ => qd_no (by decide) (by decide) h)))
  refine tq_ck (fun _ => tq_bd (kc_X2_placeOf h) (fun _ _ h => tq_ite (fun _ => ?_) (fun _ => qd_no (by decide) (by decide) h)))
  refine tq_bd (kc_X0_untie h) (fun _ _ h => ?_)
  refine tq_bd (kc_X3_forget h) (fun _ _ h => ?_)
  refine tq_bd (kc_X3_forget h) (fun _ _ h => ?_)
  exact qd_yes h
theorem tc_hang {c a b : Nat} {g : mg_F} (h : Rc c g) : TQ (Qd c (c + 1)) (P_X4_hang a b g) := by
  unfold P_X4_hang
  refine tq_bd (kc_X4_hasMarkFrom h) (fun _ _ h => tq_ite (fun _ => ?_) (fun _ => qd_no (by decide) (by decide) h))
  refine tq_bd (kc_X4_turnPointers h) (fun _ _ h => ?_)
  refine tq_bd (kc_X0_tie h) (fun _ _ h => ?_)
  refine tq_ck (fun _ => tq_ck (fun _ => ?_))
  refine tq_wr (rc_up (by decide) h) (fun _ h => ?_)
  refine tq_wr (rc_up (by decide) h) (fun _ h => ?_)
  refine tq_wr (rc_up (by decide) h) (fun _ h => ?_)
  refine tq_wr (rc_up (by decide) h) (fun _ h => ?_)
  exact qd_yes h
theorem tc_join {c a b : Nat} {g : mg_F} (h : Rc c g) : TQ (Qd c (c + 1)) (P_X4_join a b g) := by
  unfold P_X4_join
  refine tq_bd (kc_X4_isStation h) (fun _ _ h => tq_ite (fun _ => qd_no (by decide) (by decide) h) (fun _ => ?_))
  refine tq_bd (kc_X4_isStation h) (fun _ _ h => tq_ite (fun _ => qd_no (by decide) (by decide) h) (fun _ => ?_))
  refine tq_bd (kc_X0_partOf h) (fun _ _ h => ?_)
  refine tq_bd (kc_X4_placeOfRight h) (fun _ _ h => ?_)
  refine tq_bd (kc_X4_contains h) (fun _ _ h => tq_ite (fun _ => ?_) (fun _ => qd_no (by decide) (by decide) h))
  refine tq_ite (fun _ => qd_no (by decide) (by decide) h) (fun _ => ?_)
  refine tq_bd (kc_X4_contains h) (fun _ _ h => tq_ite (fun _ => ?_) (fun _ => tq_bdQ (tc_hang h) (fun _ _ h => tq_some h)))
  refine tq_bd (kc_X0_partOf h) (fun _ _ h => ?_)
  refine tq_bd (kc_X4_contains h) (fun _ _ h => tq_ite (fun _ => qd_no (by decide) (by decide) h) (fun _ => tq_bdQ (tc_hang h) (fun _ _ h => tq_some h)))
/-- the reference's graph: as it was, or with the two links set to x -/
def Qm (n : Nat) (F : Nat → Nat) (a b x : Nat) (ok : Prop) (r : Nat) (g : mg_F) : Prop := (r = 0 ∧ ok ∧ g 5 0 0 = n ∧ ∀ u v, v < 24 → g 35 0 (24 * u + v) = if (u = a ∧ v = b) ∨ (u = b ∧ v = a) then x else F (24 * u + v)) ∨ (r ≠ 0 ∧ r < 4294967296 ∧ Rm n F g)
section QM
variable {n a b x : Nat} {F : Nat → Nat} {ok : Prop}
theorem qm_no {r : Nat} {g : mg_F} (hr : r ≠ 0) (hr2 : r < 4294967296) (h : Rm n F g) : TQ (Qm n F a b x ok) (some (r, g)) := tq_some (Or.inr ⟨hr, hr2, h⟩)
/-- graph with the two links set -/
def Rx (n : Nat) (F : Nat → Nat) (a b x : Nat) (g : mg_F) : Prop := g 5 0 0 = n ∧ ∀ u v, v < 24 → g 35 0 (24 * u + v) = if (u = a ∧ v = b) ∨ (u = b ∧ v = a) then x else F (24 * u + v)
theorem rx_up {g : mg_F} {k i j v : Nat} (hk : k ≠ 35) (hj : k ≠ 5 ∨ j ≠ 0) (h : Rx n F a b x g) : Rx n F a b x (mg_up g k i j v) := by
  refine ⟨?_, fun u w hw => ?_⟩
  · rw [ue, if_neg (by omega)]; exact h.1
  · rw [ue, if_neg (fun q => hk q.1.symm)]; exact h.2 u w hw
theorem kx_j0 {g : mg_F} (h : Rm n F g) : KP (Rx n F a b 0) (P_X5_join2 a b 0 g) := by
  intro r g' e
  by_cases h1 : a < 24 ∧ b < 24
  · rw [m_j0 h1.1 h1.2] at e
    cases e
    exact ⟨h.1, fun u v hv => by rw [mjn_35 h1.1 h1.2 hv, h.2]⟩
  · unfold P_X5_join2 ck wr at e
    by_cases c1 : 24 * a + b < 576
    · by_cases c2 : 24 * b + a < 576
      · exact absurd (show a < 24 ∧ b < 24 by omega) h1
      · simp [c1, c2] at e
    · simp [c1] at e
theorem kx_j1 {g : mg_F} (h : Rm n F g) : KP (Rx n F a b 1) (P_X5_join2 a b 1 g) := by
  intro r g' e
  by_cases h1 : a < 24 ∧ b < 24
  · rw [m_j1 h1.1 h1.2] at e
    cases e
    exact ⟨h.1, fun u v hv => by rw [mjn_35 h1.1 h1.2 hv, h.2]⟩
  · unfold P_X5_join2 ck wr at e
    by_cases c1 : 24 * a + b < 576
    · by_cases c2 : 24 * b + a < 576
      · exact absurd (show a < 24 ∧ b < 24 by omega) h1
      · simp [c1, c2] at e
    · simp [c1] at e
theorem tl_cut81 {Q : Nat → mg_F → Prop} {a1 a2 a3 a4 : Nat} {k : Nat → Nat → mg_F → mo} (hk : ∀ v w g, Rm n F g → TQ Q (k v w g)) : ∀ m v w g, Rm n F g → TQ Q (L_X5_cut_81 a1 a2 a3 a4 k m v w g) := by
  intro m
  induction m with
  | zero => intro v w g _; rw [L_X5_cut_81]; exact tq_none
  | succ m ih =>
    intro v w g h
    rw [L_X5_cut_81]
    refine tq_ite (fun _ => ?_) (fun _ => hk _ _ _ h)
    refine tq_jn (R := Rm n F) (fun _ _ h => ih _ _ _ h) (fun kj hj => ?_)
    refine tq_ite (fun _ => ?_) (fun _ => hj _ _ h)
    refine tq_ck (fun _ => tq_ite (fun _ => hj _ _ h) (fun _ => ?_))
    exact tq_ck (fun _ => tq_ite (fun _ => hj _ _ h) (fun _ => hj _ _ h))
theorem tl_128 {Q : Nat → mg_F → Prop} {a1 a2 a3 a4 a5 a6 : Nat} {k : Nat → Nat → mg_F → mo} (hk : ∀ v w g, Rm n F g → TQ Q (k v w g)) : ∀ m v w g, Rm n F g → TQ Q (L_X5_join_128 a1 a2 a3 a4 a5 a6 k m v w g) := by
  intro m
  induction m with
  | zero => intro v w g _; rw [L_X5_join_128]; exact tq_none
  | succ m ih =>
    intro v w g h
    rw [L_X5_join_128]
    refine tq_ite (fun _ => hk _ _ _ h) (fun _ => ?_)
    refine tq_ck (fun _ => tq_wr (rm_up (by decide) (Or.inl (by decide)) h) (fun _ h => tq_ck (fun _ => ih _ _ _ h)))
theorem tl_162 {Q : Nat → mg_F → Prop} {a1 a2 a3 a4 a5 a6 a7 : Nat} {k : Nat → mg_F → mo} (hq : ∀ g, Rm n F g → Q 4294967291 g) (hk : ∀ v g, Rm n F g → TQ Q (k v g)) : ∀ m v g, Rm n F g → TQ Q (L_X5_join_162 a1 a2 a3 a4 a5 a6 a7 k m v g) := by
  intro m
  induction m with
  | zero => intro v g _; rw [L_X5_join_162]; exact tq_none
  | succ m ih =>
    intro v g h
    rw [L_X5_join_162]
    refine tq_ite (fun _ => ?_) (fun _ => hk _ _ h)
    exact tq_ck (fun _ => tq_ck (fun _ => tq_ite (fun _ => ih _ _ h) (fun _ => tq_some (hq _ h))))
theorem tl_201 {Q : Nat → mg_F → Prop} {a1 a2 a3 a4 a5 a6 a7 : Nat} {k : Nat → mg_F → mo} (hk : ∀ v g, Rm n F g → TQ Q (k v g)) : ∀ m v g, Rm n F g → TQ Q (L_X5_join_201 a1 a2 a3 a4 a5 a6 a7 k m v g) := by
  intro m
  induction m with
  | zero => intro v g _; rw [L_X5_join_201]; exact tq_none
  | succ m ih =>
    intro v g h
    rw [L_X5_join_201]
    refine tq_ite (fun _ => ?_) (fun _ => hk _ _ h)
    exact tq_ck (fun _ => tq_ck (fun _ => tq_ck (fun _ => tq_wr (rm_up (by decide) (Or.inl (by decide)) h) (fun _ h => ih _ _ h))))
theorem t5_cut {g : mg_F} (ha : a < 4294967296) (hb : b < 4294967296) (hn : n < 25) (h : Rm n F g) : TQ (Qm n F a b 0 (a < n ∧ b < n ∧ F (24 * a + b) ≠ 0)) (P_X5_cut a b g) := by
  unfold P_X5_cut
  refine tq_ite (fun _ => qm_no (by decide) (by decide) h) (fun _ => ?_)
  rw [m_stn ha (by rw [h.1]; exact hn), bd_s, h.1]
  by_cases c1 : a < n
  · rw [if_pos c1, if_neg sv10, m_stn hb (by rw [h.1]; exact hn), bd_s, h.1]
    by_cases c2 : b < n
    · rw [if_pos c2, if_neg sv10]
      refine tq_ck (fun _ => tq_ite (fun _ => qm_no (by decide) (by decide) h) (fun hl => ?_))
      have hF : F (24 * a + b) ≠ 0 := fun q => hl (by rw [h.2, q, sv_0])
      refine tq_bd (km_X5_firstLetter h) (fun _ _ h => ?_)
      refine tq_jn (R := Rm n F) (fun _ _ h => ?_) (fun kj hj => ?_)
      · refine tl_cut81 (fun _ _ _ h => ?_) _ _ _ _ h
        refine tq_ite (fun _ => ?_) (fun _ => qm_no (by decide) (by decide) h)
        refine tq_bd (km_X5_placeOf h) (fun _ _ h => tq_ite (fun _ => ?_) (fun _ => qm_no (by decide) (by decide) h))
        refine tq_bd (km_X5_placeOf h) (fun _ _ h => tq_ite (fun _ => ?_) (fun _ => qm_no (by decide) (by decide) h))
        refine tq_bd (kx_j0 (a := a) (b := b) h) (fun _ _ h => tq_ck (fun _ => ?_))
        refine tq_jn (R := Rx n F a b 0) (fun _ _ h => ?_) (fun kj hj => tq_ite (fun _ => hj _ _ h) (fun _ => hj _ _ h))
        refine tq_wr (rx_up (by decide) (Or.inl (by decide)) h) (fun _ h => tq_ck (fun _ => ?_))
        refine tq_jn (R := Rx n F a b 0) (fun _ _ h => ?_) (fun kj hj => tq_ite (fun _ => hj _ _ h) (fun _ => hj _ _ h))
        refine tq_wr (rx_up (by decide) (Or.inl (by decide)) h) (fun _ h => ?_)
        exact tq_some (Or.inl ⟨rfl, ⟨c1, c2, hF⟩, h.1, h.2⟩)
      · refine tq_ite (fun _ => ?_) (fun _ => hj _ _ h)
        exact tq_bd (km_X5_firstLetter h) (fun _ _ h => tq_ite (fun _ => hj _ _ h) (fun _ => hj _ _ h))
    · rw [if_neg c2, if_pos sv_0]; exact qm_no (by decide) (by decide) h
  · rw [if_neg c1, if_pos sv_0]; exact qm_no (by decide) (by decide) h
theorem t5_join {g g' : mg_F} {K : Nat} (ha : a < 4294967296) (hb : b < 4294967296) (hn : n < 25) (hp : P_X5_part g = some (K, g')) (h : Rm n F g') : TQ (Qm n F a b 1 (a < n ∧ b < n ∧ g' 61 0 a ≠ g' 61 0 b)) (P_X5_join a b g) := by
  unfold P_X5_join
  rw [hp, bd_s]
  refine tq_ite (fun _ => qm_no (by decide) (by decide) h) (fun _ => ?_)
  rw [m_stn ha (by rw [h.1]; exact hn), bd_s, h.1]
  by_cases c1 : a < n
  · rw [if_pos c1, if_neg sv10, m_stn hb (by rw [h.1]; exact hn), bd_s, h.1]
    by_cases c2 : b < n
    · rw [if_pos c2, if_neg sv10]
      refine tq_ck (fun _ => tq_ck (fun _ => tq_ite (fun _ => qm_no (by decide) (by decide) h) (fun hl => ?_)))
      have hF : g' 61 0 a ≠ g' 61 0 b := fun q => hl (by rw [q])
      refine tq_bd (km_X5_rightAt h) (fun _ _ h => tq_ck (fun _ => ?_))
      have fin : ∀ (c3 c4 : Nat) (y z : Nat) (g : mg_F), Rm n F g → TQ (Qm n F a b 1 (a < n ∧ b < n ∧ g' 61 0 a ≠ g' 61 0 b)) (L_X5_join_128 a b c3 c4 y z (fun w27 w28 g29 => L_X5_join_162 a b c3 c4 y z w27 (fun w30 g31 => L_X5_join_201 a b c3 c4 y z w27 (fun w32 g33 => ck (y < 24) <| wr (mg_up g33 36 0 y z) fun g35 => bd (P_X5_join2 a b 1 g35) fun _ g37 => ck ((24 * a) + b < 576) <| wr (mg_up g37 49 0 ((24 * a) + b) 0) fun g39 => ck ((24 * b) + a < 576) <| wr (mg_up g39 49 0 ((24 * b) + a) 0) fun g41 => ck ((24 * a) + b < 576) <| wr (mg_up g41 50 0 ((24 * a) + b) 0) fun g43 => ck ((24 * b) + a < 576) <| wr (mg_up g43 50 0 ((24 * b) + a) 0) fun g45 => some (0, g45)) 4000 (sb w27 1) g31) 4000 0 g29) 4000 0 y g) := by
        intro c3 c4 y z g h
        refine tl_128 (fun _ _ _ h => ?_) _ _ _ _ h
        refine tl_162 (fun g h => Or.inr ⟨by decide, by decide, h⟩) (fun _ _ h => ?_) _ _ _ h
        refine tl_201 (fun _ _ h => ?_) _ _ _ h
        refine tq_ck (fun _ => tq_wr (rm_up (by decide) (Or.inl (by decide)) h) (fun _ h => ?_))
        refine tq_bd (kx_j1 (a := a) (b := b) h) (fun _ _ h => ?_)
        refine tq_ck (fun _ => tq_wr (rx_up (by decide) (Or.inl (by decide)) h) (fun _ h => ?_))
        refine tq_ck (fun _ => tq_wr (rx_up (by decide) (Or.inl (by decide)) h) (fun _ h => ?_))
        refine tq_ck (fun _ => tq_wr (rx_up (by decide) (Or.inl (by decide)) h) (fun _ h => ?_))
        refine tq_ck (fun _ => tq_wr (rx_up (by decide) (Or.inl (by decide)) h) (fun _ h => ?_))
        exact tq_some (Or.inl ⟨rfl, ⟨c1, c2, hF⟩, h.1, h.2⟩)
      refine tq_ite (fun _ => ?_) (fun _ => tq_ite (fun _ => ?_) (fun _ => qm_no (by decide) (by decide) h))
      · refine tq_jn (R := Rm n F) (fun _ _ h => ?_) (fun kj hj => tq_ite (fun _ => hj _ _ h) (fun _ => hj _ _ h))
        refine tq_jn (R := Rm n F) (fun _ _ h => fin _ _ _ _ _ h) (fun kj hj => tq_ite (fun _ => hj _ _ h) (fun _ => hj _ _ h))
      · refine tq_jn (R := Rm n F) (fun _ _ h => ?_) (fun kj hj => tq_ite (fun _ => hj _ _ h) (fun _ => hj _ _ h))
        refine tq_jn (R := Rm n F) (fun _ _ h => fin _ _ _ _ _ h) (fun kj hj => tq_ite (fun _ => hj _ _ h) (fun _ => hj _ _ h))
    · rw [if_neg c2, if_pos sv_0]; exact qm_no (by decide) (by decide) h
  · rw [if_neg c1, if_pos sv_0]; exact qm_no (by decide) (by decide) h
end QM
/-- the root by a forest's pointers -/
def rt (p : Nat → Nat) : Nat → Nat → Nat
  | 0, x => x
  | k + 1, x => if p x = 4294967294 then x else rt p k (p x)
theorem rt_stab {n : Nat} {p d : Nat → Nat} (hp : ∀ x, x < n → p x = 4294967294 ∨ (p x < n ∧ d (p x) < d x)) : ∀ k x, x < n → d x ≤ k → rt p (k + 1) x = rt p k x := by
  intro k
  induction k with
  | zero =>
    intro x hx hd
    rw [rt, rt]
    rcases hp x hx with q | q
    · rw [if_pos q]
    · omega
  | succ k ih =>
    intro x hx hd
    rw [rt]
    show _ = if p x = 4294967294 then x else rt p k (p x)
    rcases hp x hx with q | q
    · rw [if_pos q, if_pos q]
    · by_cases c : p x = 4294967294
      · rw [if_pos c, if_pos c]
      · rw [if_neg c, if_neg c]
        exact ih (p x) q.1 (by omega)
theorem rt_step {n D x : Nat} {p d : Nat → Nat} (hp : ∀ x, x < n → p x = 4294967294 ∨ (p x < n ∧ d (p x) < d x)) (hx : x < n) (hD : d x ≤ D) (hne : p x ≠ 4294967294) : rt p D x = rt p D (p x) := by
  rw [← rt_stab hp D x hx hD, rt, if_neg hne]
theorem rt_le {n : Nat} {p d : Nat → Nat} (hp : ∀ x, x < n → p x = 4294967294 ∨ (p x < n ∧ d (p x) < d x)) : ∀ k x, x < n → d (rt p k x) ≤ d x := by
  intro k
  induction k with
  | zero => intro x _; exact Nat.le_refl _
  | succ k ih =>
    intro x hx
    rw [rt]
    by_cases c : p x = 4294967294
    · rw [if_pos c]; exact Nat.le_refl _
    · rw [if_neg c]
      rcases hp x hx with q | q
      · exact absurd q c
      · have := ih (p x) q.1; omega
def FOR (g : mg_F) : Prop := ∃ L p d : Nat → Nat, LBL (g 5 0 0) (AJ g) L ∧ cnt (fun s => L s == s) (g 5 0 0) + g 0 0 2 = g 5 0 0 ∧ (∀ x, x < g 5 0 0 → p x = 4294967294 ∨ (p x < g 5 0 0 ∧ AJ g x (p x) ∧ d (p x) < d x)) ∧ (∀ x y, AJ g x y → p x = y ∨ p y = x)
theorem FOR_same {g g' : mg_F} (h : FOR g) (h1 : g' 0 0 2 = g 0 0 2) (h2 : g' 5 0 0 = g 5 0 0) (h3 : ∀ j, g' 35 0 j = g 35 0 j) : FOR g' := by
  have hAJ : AJ g' = AJ g := by funext x y; unfold AJ; rw [h3]
  unfold FOR
  rw [hAJ, h1, h2]; exact h
theorem FOR_bld {N : Nat} {g : mg_F} (h : TT (g, g) N g g) (ho : g 5 0 1 = 0) : FOR g := by
  obtain ⟨b1, L, p, d, b2, b3, b4, b5⟩ := h.2.2.2.2 ho
  exact ⟨L, p, d, b2, by rw [b1]; exact b3, b4, b5⟩
theorem FOR_add {g g' : mg_F} {a b : Nat} (h : FOR g) (hn : g 5 0 0 < 25) (j1 : ∀ a b, AJ g a b → a < g 5 0 0 ∧ b < g 5 0 0) (j2 : ∀ a b, AJ g a b → AJ g b a) (hs : a < g 5 0 0) (ht : b < g 5 0 0) (hne : ¬ rch (AJ g) a b) (h1 : g' 0 0 2 = g 0 0 2 + 1) (h2 : g' 5 0 0 = g 5 0 0) (h3 : ∀ u v, v < 24 → g' 35 0 (24 * u + v) = if (u = a ∧ v = b) ∨ (u = b ∧ v = a) then 1 else g 35 0 (24 * u + v)) : FOR g' := by
  obtain ⟨L, p, d, b2, b3, b4, b5⟩ := h
  have hLne : L a ≠ L b := fun q => hne ((LBL_iff b2 hs ht).mp q)
  obtain ⟨L', l1, l2⟩ := LBL_add b2 hs ht hLne
  have hAJ' : AJ g' = fun x y => AJ g x y ∨ (x = a ∧ y = b) ∨ (x = b ∧ y = a) := by
    funext x y
    apply propext
    unfold AJ
    constructor
    · intro q
      have q3 := q.2.2
      rw [h3 x y q.2.1] at q3
      by_cases c : (x = a ∧ y = b) ∨ (x = b ∧ y = a)
      · right; exact c
      · rw [if_neg c] at q3; left; exact ⟨q.1, q.2.1, q3⟩
    · intro q
      rcases q with q | q
      · refine ⟨q.1, q.2.1, ?_⟩
        rw [h3 x y q.2.1]; split
        · rfl
        · exact q.2.2
      · refine ⟨by omega, by omega, ?_⟩
        rw [h3 x y (by omega), if_pos q]
  obtain ⟨m, m0, m1, m2, m3⟩ := root_path hn ht b2.2 b4
  obtain ⟨f, hf⟩ := PF_ex (p := p) (e := b) (m := m) (o := a) (by omega) m3
  obtain ⟨d', hd'⟩ := PF_fall (n := g 5 0 0) (Lb := L) (d := d) hn hs (fun q => hLne q.symm) m0 m1 m3 (fun x hx => by
    rcases b4 x hx with q | q
    · left; exact q
    · right; exact ⟨q.1, (b2.2 _ _ q.2.1).symm, q.2.2⟩) hf
  have hedge := PF_edge (A := AJ g) hn hf m2 j1 b5
  refine ⟨L', f, d', ?_, ?_, fun x hx => ?_, fun x y q => ?_⟩
  · rw [hAJ', h2]; exact l1
  · rw [h2, h1]; omega
  · rw [h2] at hx ⊢
    by_cases c : f x = 4294967294
    · left; exact c
    · right
      have hfx := hd' x hx c
      obtain ⟨f1, f2, f3⟩ := hf
      by_cases cz : ∃ i, i ≤ m ∧ x = pit p b i
      · obtain ⟨i, hi, rfl⟩ := cz
        cases i with
        | zero =>
          have t : f (pit p b 0) = a := f1
          rw [t] at hfx ⊢
          refine ⟨hs, ?_, hfx⟩
          rw [hAJ']; right; right; exact ⟨rfl, rfl⟩
        | succ i =>
          have t : f (pit p b (i + 1)) = pit p b i := f2 i (by omega)
          rw [t] at hfx ⊢
          have hi2 := (m1 i (by omega)).1
          refine ⟨hi2, ?_, hfx⟩
          rw [hAJ']; left
          rcases b4 _ hi2 with q | q
          · have t2 : p (pit p b i) = pit p b (i + 1) := rfl
            have := (m1 (i + 1) hi).1
            omega
          · exact j2 _ _ q.2.1
      · have t : f x = p x := f3 x (fun i hi q' => cz ⟨i, hi, q'⟩)
        rw [t] at hfx c ⊢
        rcases b4 x hx with q | q
        · exact absurd q c
        · refine ⟨q.1, ?_, hfx⟩
          rw [hAJ']; left; exact q.2.1
  · rw [hAJ'] at q
    rcases q with q | ⟨rfl, rfl⟩ | ⟨rfl, rfl⟩
    · exact hedge x y q
    · right; exact hf.1
    · left; exact hf.1
def cutp (p : Nat → Nat) (a b x : Nat) : Nat := if (x = a ∧ p x = b) ∨ (x = b ∧ p x = a) then 4294967294 else p x
theorem FOR_del {g g' : mg_F} {a b : Nat} {L' : Nat → Nat} (h : FOR g) (hn : g 5 0 0 < 25) (j1 : ∀ a b, AJ g a b → a < g 5 0 0 ∧ b < g 5 0 0) (hab : AJ g a b) (hba : AJ g b a) (hne : a ≠ b) (hL' : LBL (g 5 0 0) (AJ g') L') (h1 : g' 0 0 2 = sb (g 0 0 2) 1) (h2 : g' 5 0 0 = g 5 0 0) (h3 : ∀ u v, v < 24 → g' 35 0 (24 * u + v) = if (u = a ∧ v = b) ∨ (u = b ∧ v = a) then 0 else g 35 0 (24 * u + v)) : FOR g' := by
  obtain ⟨L, p, d, b2, b3, b4, b5⟩ := h
  have hs := (j1 a b hab).1
  have ht := (j1 a b hab).2
  have hAJ' : ∀ x y, AJ g' x y ↔ (AJ g x y ∧ ¬ ((x = a ∧ y = b) ∨ (x = b ∧ y = a))) := by
    intro x y
    unfold AJ
    constructor
    · intro q
      have q3 := q.2.2
      rw [h3 x y q.2.1] at q3
      by_cases c : (x = a ∧ y = b) ∨ (x = b ∧ y = a)
      · rw [if_pos c] at q3; omega
      · rw [if_neg c] at q3; exact ⟨⟨q.1, q.2.1, q3⟩, c⟩
    · intro q
      refine ⟨q.1.1, q.1.2.1, ?_⟩
      rw [h3 x y q.1.2.1, if_neg q.2]; exact q.1.2.2
  have pn : ∀ x, x < g 5 0 0 → cutp p a b x = 4294967294 ∨ (cutp p a b x < g 5 0 0 ∧ d (cutp p a b x) < d x) := by
    intro x hx
    unfold cutp
    by_cases c : (x = a ∧ p x = b) ∨ (x = b ∧ p x = a)
    · rw [if_pos c]; left; rfl
    · rw [if_neg c]
      rcases b4 x hx with q | q
      · left; exact q
      · right; exact ⟨q.1, q.2.2⟩
  have edge : ∀ x y, AJ g' x y → cutp p a b x = y ∨ cutp p a b y = x := by
    intro x y q
    obtain ⟨q1, q2⟩ := (hAJ' x y).mp q
    unfold cutp
    rcases b5 x y q1 with e | e
    · left; rw [if_neg (fun c => q2 (by rw [e] at c; omega))]; exact e
    · right; rw [if_neg (fun c => q2 (by rw [e] at c; omega))]; exact e
  obtain ⟨D, hD⟩ := dbound d 24
  have nr : ¬ rch (AJ g') a b := by
    intro hr
    have hc := hr (rt (cutp p a b) D) (fun x y hxy => by
      have hh := j1 x y ((hAJ' x y).mp hxy).1
      have dx := hD x (by omega)
      have dy := hD y (by omega)
      rcases edge x y hxy with e | e
      · have := rt_step pn hh.1 (by omega : d x ≤ D) (by rw [e]; omega)
        rw [this, e]
      · have := rt_step pn hh.2 (by omega : d y ≤ D) (by rw [e]; omega)
        rw [this, e])
    have ra : ∀ x y, x < g 5 0 0 → y < g 5 0 0 → ((x = a ∧ y = b) ∨ (x = b ∧ y = a)) → p x = y → rt (cutp p a b) D x ≠ rt (cutp p a b) D y := by
      intro x y hx hy hxy e q
      have e1 : cutp p a b x = 4294967294 := by
        unfold cutp
        rw [if_pos (by omega)]
      have rx : rt (cutp p a b) D x = x := by
        cases D with
        | zero => rfl
        | succ D => rw [rt, if_pos e1]
      have ly := rt_le (d := d) pn D y hy
      rw [← q, rx] at ly
      rcases b4 x hx with q2 | q2
      · rw [e] at q2; omega
      · rw [e] at q2; omega
    rcases b5 a b hab with e | e
    · exact ra a b hs ht (Or.inl ⟨rfl, rfl⟩) e hc
    · exact ra b a ht hs (Or.inr ⟨rfl, rfl⟩) e hc.symm
  have hLne : L' a ≠ L' b := fun q => nr ((LBL_iff hL' hs ht).mp q)
  obtain ⟨L2, l1, l2⟩ := LBL_add hL' hs ht hLne
  have hback : (fun x y => AJ g' x y ∨ (x = a ∧ y = b) ∨ (x = b ∧ y = a)) = AJ g := by
    funext x y
    apply propext
    rw [hAJ']
    constructor
    · intro q
      rcases q with q | ⟨rfl, rfl⟩ | ⟨rfl, rfl⟩
      · exact q.1
      · exact hab
      · exact hba
    · intro q
      by_cases c : (x = a ∧ y = b) ∨ (x = b ∧ y = a)
      · right; exact c
      · left; exact ⟨q, c⟩
  rw [hback] at l1
  have hcnt : cnt (fun s => L2 s == s) (g 5 0 0) = cnt (fun s => L s == s) (g 5 0 0) := cnt_congr (fun i hi => by rw [LBL_uniq l1 b2 hi])
  have hle := cnt_le (fun s => L' s == s) (g 5 0 0)
  refine ⟨L', cutp p a b, d, ?_, ?_, fun x hx => ?_, edge⟩
  · rw [h2]; exact hL'
  · rw [h2, h1, sb_le (by omega)]; omega
  · rw [h2] at hx ⊢
    rcases pn x hx with q | q
    · left; exact q
    · right
      refine ⟨q.1, ?_, q.2⟩
      have q1 := q.1
      unfold cutp at q1 ⊢
      by_cases c : (x = a ∧ p x = b) ∨ (x = b ∧ p x = a)
      · rw [if_pos c] at q1; omega
      · rw [if_neg c] at q1 ⊢
        rcases b4 x hx with q2 | q2
        · omega
        · refine (hAJ' x (p x)).mpr ⟨q2.2.1, fun c2 => c ?_⟩
          omega
