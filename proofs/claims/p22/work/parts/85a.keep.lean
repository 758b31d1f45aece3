/-! ===== what leaves the graph alone ===== -/
def KP (R : mg_F → Prop) (o : mo) : Prop := ∀ r g', o = some (r, g') → R g'
section KEEP
variable {R : mg_F → Prop}
theorem kp_none : KP R none := fun _ _ e => nomatch e
theorem kp_some {r : Nat} {g : mg_F} (h : R g) : KP R (some (r, g)) := fun r' g' e => by cases e; exact h
theorem kp_ck {p : Prop} {dp : Decidable p} {o : mo} (h : KP R o) : KP R (@ck p dp o) := fun r g' e => by
  unfold ck at e
  by_cases c : p
  · rw [if_pos c] at e; exact h r g' e
  · rw [if_neg c] at e; cases e
theorem kp_ite {p : Prop} {dp : Decidable p} {a b : mo} (ha : KP R a) (hb : KP R b) : KP R (@ite mo p dp a b) := by
  by_cases c : p
  · rw [if_pos c]; exact ha
  · rw [if_neg c]; exact hb
theorem kp_wr {gn : mg_F} {k : mg_F → mo} (h : R gn) (hk : ∀ g, R g → KP R (k g)) : KP R (wr gn k) := hk gn h
theorem kp_bd {o : mo} {k : Nat → mg_F → mo} (h : KP R o) (hk : ∀ r g, R g → KP R (k r g)) : KP R (bd o k) := fun r g' e => by
  cases ho : o with
  | none => rw [ho] at e; cases e
  | some q => rw [ho] at e; exact hk q.1 q.2 (h q.1 q.2 ho) r g' e
theorem kp_jn {α : Type} {k : α → mg_F → mo} {f : (α → mg_F → mo) → mo} (hk : ∀ a g, R g → KP R (k a g)) (hf : ∀ kj, (∀ a g, R g → KP R (kj a g)) → KP R (f kj)) : KP R (jn k f) := hf k hk
end KEEP
def Rc (c : Nat) (g : mg_F) : Prop := g 0 0 2 = c
def Rm (n : Nat) (F : Nat → Nat) (g : mg_F) : Prop := g 5 0 0 = n ∧ ∀ j, g 35 0 j = F j
theorem rc_up {c : Nat} {g : mg_F} {k i j v : Nat} (hk : k ≠ 0) (h : Rc c g) : Rc c (mg_up g k i j v) := by
  unfold Rc; rw [ue, if_neg (fun q => hk q.1.symm)]; exact h
theorem rc_upr {c : Nat} {g : mg_F} {k i : Nat} {r : Nat → Nat} (hk : k ≠ 0) (h : Rc c g) : Rc c (mg_upr g k i r) := by
  unfold Rc; rw [ure, if_neg (fun q => hk q.1.symm)]; exact h
theorem rm_up {n : Nat} {F : Nat → Nat} {g : mg_F} {k i j v : Nat} (hk : k ≠ 35) (hj : k ≠ 5 ∨ j ≠ 0) (h : Rm n F g) : Rm n F (mg_up g k i j v) := by
  refine ⟨?_, fun x => ?_⟩
  · rw [ue, if_neg (by omega)]; exact h.1
  · rw [ue, if_neg (fun q => hk q.1.symm)]; exact h.2 x
theorem kc_fill {c k i n v : Nat} {g : mg_F} (hk : k ≠ 0) (h : Rc c g) : KP (Rc c) (P_fill k i n v g) := kp_some (rc_upr hk h)
theorem kc_closeGap {c k i l a n : Nat} {g : mg_F} (hk : k ≠ 0) (h : Rc c g) : KP (Rc c) (P_closeGap k i l a n g) := kp_ck (kp_some (rc_upr hk h))
theorem kc_X0_has {c0 : Nat} {a : Nat} {g : mg_F} (h : Rc c0 g) : KP (Rc c0) (P_X0_has a g) := by
  unfold P_X0_has
  repeat' first
    | assumption
    | (with_reducible refine kp_some ?_)
    | (with_reducible refine kp_ck ?_)
    | (with_reducible refine kp_ite ?_ ?_)
    | (with_reducible refine kp_wr ?_ (fun _ _ => ?_))
    | (with_reducible refine kp_jn (fun _ _ _ => ?_) (fun _ _ => ?_))
    | (with_reducible refine rc_up (by decide) ?_)
    | (with_reducible refine kp_bd ?_ (fun _ _ _ => ?_))
    | apply_assumption
theorem kc_X4_contains {c0 : Nat} {a b : Nat} {g : mg_F} (h : Rc c0 g) : KP (Rc c0) (P_X4_contains a b g) := by
  unfold P_X4_contains
  repeat' first
    | assumption
    | (with_reducible refine kp_some ?_)
    | (with_reducible refine kp_ck ?_)
    | (with_reducible refine kp_ite ?_ ?_)
    | (with_reducible refine kp_wr ?_ (fun _ _ => ?_))
    | (with_reducible refine kp_jn (fun _ _ _ => ?_) (fun _ _ => ?_))
    | (with_reducible refine rc_up (by decide) ?_)
    | (with_reducible refine kp_bd ?_ (fun _ _ _ => ?_))
    | apply_assumption
theorem kc_X0_linked {c0 : Nat} {a b : Nat} {g : mg_F} (h : Rc c0 g) : KP (Rc c0) (P_X0_linked a b g) := by
  unfold P_X0_linked
  repeat' first
    | assumption
    | (with_reducible refine kp_some ?_)
    | (with_reducible refine kp_ck ?_)
    | (with_reducible refine kp_ite ?_ ?_)
    | (with_reducible refine kp_wr ?_ (fun _ _ => ?_))
    | (with_reducible refine kp_jn (fun _ _ _ => ?_) (fun _ _ => ?_))
    | (with_reducible refine rc_up (by decide) ?_)
    | (with_reducible exact kc_X4_contains (by assumption))
    | (with_reducible refine kp_bd ?_ (fun _ _ _ => ?_))
    | apply_assumption
theorem kc_J6_bitCount_0f7a4 {c0 : Nat} {a : Nat} {g : mg_F} (h : Rc c0 g) : KP (Rc c0) (P_J6_bitCount_0f7a4 a g) := by
  unfold P_J6_bitCount_0f7a4
  repeat' first
    | assumption
    | (with_reducible refine kp_some ?_)
    | (with_reducible refine kp_ck ?_)
    | (with_reducible refine kp_ite ?_ ?_)
    | (with_reducible refine kp_wr ?_ (fun _ _ => ?_))
    | (with_reducible refine kp_jn (fun _ _ _ => ?_) (fun _ _ => ?_))
    | (with_reducible refine rc_up (by decide) ?_)
    | (with_reducible refine kp_bd ?_ (fun _ _ _ => ?_))
    | apply_assumption
theorem kc_X0_neighboursOf {c0 : Nat} {a : Nat} {g : mg_F} (h : Rc c0 g) : KP (Rc c0) (P_X0_neighboursOf a g) := by
  unfold P_X0_neighboursOf
  repeat' first
    | assumption
    | (with_reducible refine kp_some ?_)
    | (with_reducible refine kp_ck ?_)
    | (with_reducible refine kp_ite ?_ ?_)
    | (with_reducible refine kp_wr ?_ (fun _ _ => ?_))
    | (with_reducible refine kp_jn (fun _ _ _ => ?_) (fun _ _ => ?_))
    | (with_reducible refine rc_up (by decide) ?_)
    | (with_reducible exact kc_J6_bitCount_0f7a4 (by assumption))
    | (with_reducible refine kp_bd ?_ (fun _ _ _ => ?_))
    | apply_assumption
theorem kcl_X0_partOf_17 {c0 : Nat} {a1 a3 : Nat} {k : Nat → Nat → mg_F → mo} (hk : ∀ (v0 v1 : Nat) (g : mg_F), Rc c0 g → KP (Rc c0) (k v0 v1 g)) : ∀ (n v0 v1 : Nat) (g : mg_F), Rc c0 g → KP (Rc c0) (L_X0_partOf_17 a1 a3 k n v0 v1 g) := by
  intro n
  induction n with
  | zero => intro v0 v1 g _; rw [L_X0_partOf_17]; exact kp_none
  | succ n ih =>
    intro v0 v1 g h
    rw [L_X0_partOf_17]
    repeat' first
      | assumption
      | (with_reducible refine kp_some ?_)
      | (with_reducible refine kp_ck ?_)
      | (with_reducible refine kp_ite ?_ ?_)
      | (with_reducible refine kp_wr ?_ (fun _ _ => ?_))
      | (with_reducible refine kp_jn (fun _ _ _ => ?_) (fun _ _ => ?_))
      | (with_reducible refine rc_up (by decide) ?_)
      | (with_reducible exact ih _ _ _ (by assumption))
      | (with_reducible exact hk _ _ _ (by assumption))
      | (with_reducible exact kc_X4_contains (by assumption))
      | (with_reducible refine kp_bd ?_ (fun _ _ _ => ?_))
      | apply_assumption
theorem kcl_X0_partOf_6 {c0 : Nat} {a1 : Nat} {k : Nat → Nat → mg_F → mo} (hk : ∀ (v0 v1 : Nat) (g : mg_F), Rc c0 g → KP (Rc c0) (k v0 v1 g)) : ∀ (n v0 v1 : Nat) (g : mg_F), Rc c0 g → KP (Rc c0) (L_X0_partOf_6 a1 k n v0 v1 g) := by
  intro n
  induction n with
  | zero => intro v0 v1 g _; rw [L_X0_partOf_6]; exact kp_none
  | succ n ih =>
    intro v0 v1 g h
    rw [L_X0_partOf_6]
    repeat' first
      | assumption
      | (with_reducible refine kp_some ?_)
      | (with_reducible refine kp_ck ?_)
      | (with_reducible refine kp_ite ?_ ?_)
      | (with_reducible refine kp_wr ?_ (fun _ _ => ?_))
      | (with_reducible refine kp_jn (fun _ _ _ => ?_) (fun _ _ => ?_))
      | (with_reducible refine rc_up (by decide) ?_)
      | (with_reducible exact ih _ _ _ (by assumption))
      | (with_reducible exact hk _ _ _ (by assumption))
      | (with_reducible refine kcl_X0_partOf_17 (fun _ _ _ _ => ?_) _ _ _ _ (by assumption))
      | (with_reducible refine kp_bd ?_ (fun _ _ _ => ?_))
      | apply_assumption
theorem kc_X0_partOf {c0 : Nat} {a : Nat} {g : mg_F} (h : Rc c0 g) : KP (Rc c0) (P_X0_partOf a g) := by
  unfold P_X0_partOf
  repeat' first
    | assumption
    | (with_reducible refine kp_some ?_)
    | (with_reducible refine kp_ck ?_)
    | (with_reducible refine kp_ite ?_ ?_)
    | (with_reducible refine kp_wr ?_ (fun _ _ => ?_))
    | (with_reducible refine kp_jn (fun _ _ _ => ?_) (fun _ _ => ?_))
    | (with_reducible refine rc_up (by decide) ?_)
    | (with_reducible refine kcl_X0_partOf_6 (fun _ _ _ _ => ?_) _ _ _ _ (by assumption))
    | (with_reducible refine kp_bd ?_ (fun _ _ _ => ?_))
    | apply_assumption
theorem kc_X0_parts {c0 : Nat} {g : mg_F} (h : Rc c0 g) : KP (Rc c0) (P_X0_parts g) := by
  unfold P_X0_parts
  repeat' first
    | assumption
    | (with_reducible refine kp_some ?_)
    | (with_reducible refine kp_ck ?_)
    | (with_reducible refine kp_ite ?_ ?_)
    | (with_reducible refine kp_wr ?_ (fun _ _ => ?_))
    | (with_reducible refine kp_jn (fun _ _ _ => ?_) (fun _ _ => ?_))
    | (with_reducible refine rc_up (by decide) ?_)
    | (with_reducible refine kp_bd ?_ (fun _ _ _ => ?_))
    | apply_assumption
theorem kc_X1_add {c0 : Nat} {i a b c d e : Nat} {g : mg_F} (h : Rc c0 g) : KP (Rc c0) (P_X1_add i a b c d e g) := by
  unfold P_X1_add
  repeat' first
    | assumption
    | (with_reducible refine kp_some ?_)
    | (with_reducible refine kp_ck ?_)
    | (with_reducible refine kp_ite ?_ ?_)
    | (with_reducible refine kp_wr ?_ (fun _ _ => ?_))
    | (with_reducible refine kp_jn (fun _ _ _ => ?_) (fun _ _ => ?_))
    | (with_reducible refine rc_up (by decide) ?_)
    | (with_reducible refine kp_bd ?_ (fun _ _ _ => ?_))
    | apply_assumption
theorem kc_X1_addCopy {c0 : Nat} {i t a : Nat} {g : mg_F} (h : Rc c0 g) : KP (Rc c0) (P_X1_addCopy i t a g) := by
  unfold P_X1_addCopy
  repeat' first
    | assumption
    | (with_reducible refine kp_some ?_)
    | (with_reducible refine kp_ck ?_)
    | (with_reducible refine kp_ite ?_ ?_)
    | (with_reducible refine kp_wr ?_ (fun _ _ => ?_))
    | (with_reducible refine kp_jn (fun _ _ _ => ?_) (fun _ _ => ?_))
    | (with_reducible refine rc_up (by decide) ?_)
    | (with_reducible exact kc_X1_add (by assumption))
    | (with_reducible refine kp_bd ?_ (fun _ _ _ => ?_))
    | apply_assumption
theorem kc_X1_remove {c0 : Nat} {i a : Nat} {g : mg_F} (h : Rc c0 g) : KP (Rc c0) (P_X1_remove i a g) := by
  unfold P_X1_remove
  repeat' first
    | assumption
    | (with_reducible refine kp_some ?_)
    | (with_reducible refine kp_ck ?_)
    | (with_reducible refine kp_ite ?_ ?_)
    | (with_reducible refine kp_wr ?_ (fun _ _ => ?_))
    | (with_reducible refine kp_jn (fun _ _ _ => ?_) (fun _ _ => ?_))
    | (with_reducible refine rc_up (by decide) ?_)
    | (with_reducible exact kc_closeGap (by decide) (by assumption))
    | (with_reducible refine kp_bd ?_ (fun _ _ _ => ?_))
    | apply_assumption
theorem kcl_X1_firstBetween_2 {c0 : Nat} {q0 a1 a2 : Nat} {k : Nat → mg_F → mo} (hk : ∀ (v0 : Nat) (g : mg_F), Rc c0 g → KP (Rc c0) (k v0 g)) : ∀ (n v0 : Nat) (g : mg_F), Rc c0 g → KP (Rc c0) (L_X1_firstBetween_2 q0 a1 a2 k n v0 g) := by
  intro n
  induction n with
  | zero => intro v0 g _; rw [L_X1_firstBetween_2]; exact kp_none
  | succ n ih =>
    intro v0 g h
    rw [L_X1_firstBetween_2]
    repeat' first
      | assumption
      | (with_reducible refine kp_some ?_)
      | (with_reducible refine kp_ck ?_)
      | (with_reducible refine kp_ite ?_ ?_)
      | (with_reducible refine kp_wr ?_ (fun _ _ => ?_))
      | (with_reducible refine kp_jn (fun _ _ _ => ?_) (fun _ _ => ?_))
      | (with_reducible refine rc_up (by decide) ?_)
      | (with_reducible exact ih _ _ (by assumption))
      | (with_reducible exact hk _ _ (by assumption))
      | (with_reducible refine kp_bd ?_ (fun _ _ _ => ?_))
      | apply_assumption
theorem kc_X1_firstBetween {c0 : Nat} {i a b : Nat} {g : mg_F} (h : Rc c0 g) : KP (Rc c0) (P_X1_firstBetween i a b g) := by
  unfold P_X1_firstBetween
  repeat' first
    | assumption
    | (with_reducible refine kp_some ?_)
    | (with_reducible refine kp_ck ?_)
    | (with_reducible refine kp_ite ?_ ?_)
    | (with_reducible refine kp_wr ?_ (fun _ _ => ?_))
    | (with_reducible refine kp_jn (fun _ _ _ => ?_) (fun _ _ => ?_))
    | (with_reducible refine rc_up (by decide) ?_)
    | (with_reducible refine kcl_X1_firstBetween_2 (fun _ _ _ => ?_) _ _ _ (by assumption))
    | (with_reducible refine kp_bd ?_ (fun _ _ _ => ?_))
    | apply_assumption
theorem kc_X1_hasBetween {c0 : Nat} {i a b : Nat} {g : mg_F} (h : Rc c0 g) : KP (Rc c0) (P_X1_hasBetween i a b g) := by
  unfold P_X1_hasBetween
  repeat' first
    | assumption
    | (with_reducible refine kp_some ?_)
    | (with_reducible refine kp_ck ?_)
    | (with_reducible refine kp_ite ?_ ?_)
    | (with_reducible refine kp_wr ?_ (fun _ _ => ?_))
    | (with_reducible refine kp_jn (fun _ _ _ => ?_) (fun _ _ => ?_))
    | (with_reducible refine rc_up (by decide) ?_)
    | (with_reducible exact kc_X1_firstBetween (by assumption))
    | (with_reducible refine kp_bd ?_ (fun _ _ _ => ?_))
    | apply_assumption
theorem kcl_X1_sentBy_4 {c0 : Nat} {q0 a1 : Nat} {k : Nat → Nat → mg_F → mo} (hk : ∀ (v0 v1 : Nat) (g : mg_F), Rc c0 g → KP (Rc c0) (k v0 v1 g)) : ∀ (n v0 v1 : Nat) (g : mg_F), Rc c0 g → KP (Rc c0) (L_X1_sentBy_4 q0 a1 k n v0 v1 g) := by
  intro n
  induction n with
  | zero => intro v0 v1 g _; rw [L_X1_sentBy_4]; exact kp_none
  | succ n ih =>
    intro v0 v1 g h
    rw [L_X1_sentBy_4]
    repeat' first
      | assumption
      | (with_reducible refine kp_some ?_)
      | (with_reducible refine kp_ck ?_)
      | (with_reducible refine kp_ite ?_ ?_)
      | (with_reducible refine kp_wr ?_ (fun _ _ => ?_))
      | (with_reducible refine kp_jn (fun _ _ _ => ?_) (fun _ _ => ?_))
      | (with_reducible refine rc_up (by decide) ?_)
      | (with_reducible exact ih _ _ _ (by assumption))
      | (with_reducible exact hk _ _ _ (by assumption))
      | (with_reducible refine kp_bd ?_ (fun _ _ _ => ?_))
      | apply_assumption
theorem kc_X1_sentBy {c0 : Nat} {i a : Nat} {g : mg_F} (h : Rc c0 g) : KP (Rc c0) (P_X1_sentBy i a g) := by
  unfold P_X1_sentBy
  repeat' first
    | assumption
    | (with_reducible refine kp_some ?_)
    | (with_reducible refine kp_ck ?_)
    | (with_reducible refine kp_ite ?_ ?_)
    | (with_reducible refine kp_wr ?_ (fun _ _ => ?_))
    | (with_reducible refine kp_jn (fun _ _ _ => ?_) (fun _ _ => ?_))
    | (with_reducible refine rc_up (by decide) ?_)
    | (with_reducible refine kcl_X1_sentBy_4 (fun _ _ _ _ => ?_) _ _ _ _ (by assumption))
    | (with_reducible refine kp_bd ?_ (fun _ _ _ => ?_))
    | apply_assumption
theorem kcl_X2_placeOf_2 {c0 : Nat} {q0 a1 : Nat} {k : Nat → mg_F → mo} (hk : ∀ (v0 : Nat) (g : mg_F), Rc c0 g → KP (Rc c0) (k v0 g)) : ∀ (n v0 : Nat) (g : mg_F), Rc c0 g → KP (Rc c0) (L_X2_placeOf_2 q0 a1 k n v0 g) := by
  intro n
  induction n with
  | zero => intro v0 g _; rw [L_X2_placeOf_2]; exact kp_none
  | succ n ih =>
    intro v0 g h
    rw [L_X2_placeOf_2]
    repeat' first
      | assumption
      | (with_reducible refine kp_some ?_)
      | (with_reducible refine kp_ck ?_)
      | (with_reducible refine kp_ite ?_ ?_)
      | (with_reducible refine kp_wr ?_ (fun _ _ => ?_))
      | (with_reducible refine kp_jn (fun _ _ _ => ?_) (fun _ _ => ?_))
      | (with_reducible refine rc_up (by decide) ?_)
      | (with_reducible exact ih _ _ (by assumption))
      | (with_reducible exact hk _ _ (by assumption))
      | (with_reducible refine kp_bd ?_ (fun _ _ _ => ?_))
      | apply_assumption
theorem kc_X2_placeOf {c0 : Nat} {i a : Nat} {g : mg_F} (h : Rc c0 g) : KP (Rc c0) (P_X2_placeOf i a g) := by
  unfold P_X2_placeOf
  repeat' first
    | assumption
    | (with_reducible refine kp_some ?_)
    | (with_reducible refine kp_ck ?_)
    | (with_reducible refine kp_ite ?_ ?_)
    | (with_reducible refine kp_wr ?_ (fun _ _ => ?_))
    | (with_reducible refine kp_jn (fun _ _ _ => ?_) (fun _ _ => ?_))
    | (with_reducible refine rc_up (by decide) ?_)
    | (with_reducible refine kcl_X2_placeOf_2 (fun _ _ _ => ?_) _ _ _ (by assumption))
    | (with_reducible refine kp_bd ?_ (fun _ _ _ => ?_))
    | apply_assumption
theorem kc_X2_add {c0 : Nat} {i a b : Nat} {g : mg_F} (h : Rc c0 g) : KP (Rc c0) (P_X2_add i a b g) := by
  unfold P_X2_add
  repeat' first
    | assumption
    | (with_reducible refine kp_some ?_)
    | (with_reducible refine kp_ck ?_)
    | (with_reducible refine kp_ite ?_ ?_)
    | (with_reducible refine kp_wr ?_ (fun _ _ => ?_))
    | (with_reducible refine kp_jn (fun _ _ _ => ?_) (fun _ _ => ?_))
    | (with_reducible refine rc_up (by decide) ?_)
    | (with_reducible refine kp_bd ?_ (fun _ _ _ => ?_))
    | apply_assumption
theorem kc_X2_admit {c0 : Nat} {i a b : Nat} {g : mg_F} (h : Rc c0 g) : KP (Rc c0) (P_X2_admit i a b g) := by
  unfold P_X2_admit
  repeat' first
    | assumption
    | (with_reducible refine kp_some ?_)
    | (with_reducible refine kp_ck ?_)
    | (with_reducible refine kp_ite ?_ ?_)
    | (with_reducible refine kp_wr ?_ (fun _ _ => ?_))
    | (with_reducible refine kp_jn (fun _ _ _ => ?_) (fun _ _ => ?_))
    | (with_reducible refine rc_up (by decide) ?_)
    | (with_reducible exact kc_X2_add (by assumption))
    | (with_reducible exact kc_X2_placeOf (by assumption))
    | (with_reducible refine kp_bd ?_ (fun _ _ _ => ?_))
    | apply_assumption
theorem kcl_X2_serve_36 {c0 : Nat} {q0 a1 : Nat} {k : Nat → mg_F → mo} (hk : ∀ (v0 : Nat) (g : mg_F), Rc c0 g → KP (Rc c0) (k v0 g)) : ∀ (n v0 : Nat) (g : mg_F), Rc c0 g → KP (Rc c0) (L_X2_serve_36 q0 a1 k n v0 g) := by
  intro n
  induction n with
  | zero => intro v0 g _; rw [L_X2_serve_36]; exact kp_none
  | succ n ih =>
    intro v0 g h
    rw [L_X2_serve_36]
    repeat' first
      | assumption
      | (with_reducible refine kp_some ?_)
      | (with_reducible refine kp_ck ?_)
      | (with_reducible refine kp_ite ?_ ?_)
      | (with_reducible refine kp_wr ?_ (fun _ _ => ?_))
      | (with_reducible refine kp_jn (fun _ _ _ => ?_) (fun _ _ => ?_))
      | (with_reducible refine rc_up (by decide) ?_)
      | (with_reducible exact ih _ _ (by assumption))
      | (with_reducible exact hk _ _ (by assumption))
      | (with_reducible refine kp_bd ?_ (fun _ _ _ => ?_))
      | apply_assumption
theorem kc_X2_serve {c0 : Nat} {i a : Nat} {g : mg_F} (h : Rc c0 g) : KP (Rc c0) (P_X2_serve i a g) := by
  unfold P_X2_serve
  repeat' first
    | assumption
    | (with_reducible refine kp_some ?_)
    | (with_reducible refine kp_ck ?_)
    | (with_reducible refine kp_ite ?_ ?_)
    | (with_reducible refine kp_wr ?_ (fun _ _ => ?_))
    | (with_reducible refine kp_jn (fun _ _ _ => ?_) (fun _ _ => ?_))
    | (with_reducible refine rc_up (by decide) ?_)
    | (with_reducible refine kcl_X2_serve_36 (fun _ _ _ => ?_) _ _ _ (by assumption))
    | (with_reducible exact kc_closeGap (by decide) (by assumption))
    | (with_reducible refine kp_bd ?_ (fun _ _ _ => ?_))
    | apply_assumption
theorem kcl_X2_greatestPlace_4 {c0 : Nat} {q0 : Nat} {k : Nat → Nat → mg_F → mo} (hk : ∀ (v0 v1 : Nat) (g : mg_F), Rc c0 g → KP (Rc c0) (k v0 v1 g)) : ∀ (n v0 v1 : Nat) (g : mg_F), Rc c0 g → KP (Rc c0) (L_X2_greatestPlace_4 q0 k n v0 v1 g) := by
  intro n
  induction n with
  | zero => intro v0 v1 g _; rw [L_X2_greatestPlace_4]; exact kp_none
  | succ n ih =>
    intro v0 v1 g h
    rw [L_X2_greatestPlace_4]
    repeat' first
      | assumption
      | (with_reducible refine kp_some ?_)
      | (with_reducible refine kp_ck ?_)
      | (with_reducible refine kp_ite ?_ ?_)
      | (with_reducible refine kp_wr ?_ (fun _ _ => ?_))
      | (with_reducible refine kp_jn (fun _ _ _ => ?_) (fun _ _ => ?_))
      | (with_reducible refine rc_up (by decide) ?_)
      | (with_reducible exact ih _ _ _ (by assumption))
      | (with_reducible exact hk _ _ _ (by assumption))
      | (with_reducible refine kp_bd ?_ (fun _ _ _ => ?_))
      | apply_assumption
theorem kc_X2_greatestPlace {c0 : Nat} {i : Nat} {g : mg_F} (h : Rc c0 g) : KP (Rc c0) (P_X2_greatestPlace i g) := by
  unfold P_X2_greatestPlace
  repeat' first
    | assumption
    | (with_reducible refine kp_some ?_)
    | (with_reducible refine kp_ck ?_)
    | (with_reducible refine kp_ite ?_ ?_)
    | (with_reducible refine kp_wr ?_ (fun _ _ => ?_))
    | (with_reducible refine kp_jn (fun _ _ _ => ?_) (fun _ _ => ?_))
    | (with_reducible refine rc_up (by decide) ?_)
    | (with_reducible refine kcl_X2_greatestPlace_4 (fun _ _ _ _ => ?_) _ _ _ _ (by assumption))
    | (with_reducible refine kp_bd ?_ (fun _ _ _ => ?_))
    | apply_assumption
theorem kc_X2_greatestRank {c0 : Nat} {i : Nat} {g : mg_F} (h : Rc c0 g) : KP (Rc c0) (P_X2_greatestRank i g) := by
  unfold P_X2_greatestRank
  repeat' first
    | assumption
    | (with_reducible refine kp_some ?_)
    | (with_reducible refine kp_ck ?_)
    | (with_reducible refine kp_ite ?_ ?_)
    | (with_reducible refine kp_wr ?_ (fun _ _ => ?_))
    | (with_reducible refine kp_jn (fun _ _ _ => ?_) (fun _ _ => ?_))
    | (with_reducible refine rc_up (by decide) ?_)
    | (with_reducible exact kc_X2_greatestPlace (by assumption))
    | (with_reducible refine kp_bd ?_ (fun _ _ _ => ?_))
    | apply_assumption
theorem kc_X3_clear {c0 : Nat} {i : Nat} {g : mg_F} (h : Rc c0 g) : KP (Rc c0) (P_X3_clear i g) := by
  unfold P_X3_clear
  repeat' first
    | assumption
    | (with_reducible refine kp_some ?_)
    | (with_reducible refine kp_ck ?_)
    | (with_reducible refine kp_ite ?_ ?_)
    | (with_reducible refine kp_wr ?_ (fun _ _ => ?_))
    | (with_reducible refine kp_jn (fun _ _ _ => ?_) (fun _ _ => ?_))
    | (with_reducible refine rc_up (by decide) ?_)
    | (with_reducible refine kp_bd ?_ (fun _ _ _ => ?_))
    | apply_assumption
theorem kc_X3_holds {c0 : Nat} {i : Nat} {g : mg_F} (h : Rc c0 g) : KP (Rc c0) (P_X3_holds i g) := by
  unfold P_X3_holds
  repeat' first
    | assumption
    | (with_reducible refine kp_some ?_)
    | (with_reducible refine kp_ck ?_)
    | (with_reducible refine kp_ite ?_ ?_)
    | (with_reducible refine kp_wr ?_ (fun _ _ => ?_))
    | (with_reducible refine kp_jn (fun _ _ _ => ?_) (fun _ _ => ?_))
    | (with_reducible refine rc_up (by decide) ?_)
    | (with_reducible refine kp_bd ?_ (fun _ _ _ => ?_))
    | apply_assumption
theorem kc_X3_pointsAway {c0 : Nat} {i : Nat} {g : mg_F} (h : Rc c0 g) : KP (Rc c0) (P_X3_pointsAway i g) := by
  unfold P_X3_pointsAway
  repeat' first
    | assumption
    | (with_reducible refine kp_some ?_)
    | (with_reducible refine kp_ck ?_)
    | (with_reducible refine kp_ite ?_ ?_)
    | (with_reducible refine kp_wr ?_ (fun _ _ => ?_))
    | (with_reducible refine kp_jn (fun _ _ _ => ?_) (fun _ _ => ?_))
    | (with_reducible refine rc_up (by decide) ?_)
    | (with_reducible refine kp_bd ?_ (fun _ _ _ => ?_))
    | apply_assumption
theorem kc_X3_wants {c0 : Nat} {i : Nat} {g : mg_F} (h : Rc c0 g) : KP (Rc c0) (P_X3_wants i g) := by
  unfold P_X3_wants
  repeat' first
    | assumption
    | (with_reducible refine kp_some ?_)
    | (with_reducible refine kp_ck ?_)
    | (with_reducible refine kp_ite ?_ ?_)
    | (with_reducible refine kp_wr ?_ (fun _ _ => ?_))
    | (with_reducible refine kp_jn (fun _ _ _ => ?_) (fun _ _ => ?_))
    | (with_reducible refine rc_up (by decide) ?_)
    | (with_reducible exact kc_X2_placeOf (by assumption))
    | (with_reducible refine kp_bd ?_ (fun _ _ _ => ?_))
    | apply_assumption
theorem kc_X3_stopPumping {c0 : Nat} {i : Nat} {g : mg_F} (h : Rc c0 g) : KP (Rc c0) (P_X3_stopPumping i g) := by
  unfold P_X3_stopPumping
  repeat' first
    | assumption
    | (with_reducible refine kp_some ?_)
    | (with_reducible refine kp_ck ?_)
    | (with_reducible refine kp_ite ?_ ?_)
    | (with_reducible refine kp_wr ?_ (fun _ _ => ?_))
    | (with_reducible refine kp_jn (fun _ _ _ => ?_) (fun _ _ => ?_))
    | (with_reducible refine rc_up (by decide) ?_)
    | (with_reducible refine kp_bd ?_ (fun _ _ _ => ?_))
    | apply_assumption
theorem kc_X3_forget {c0 : Nat} {i a : Nat} {g : mg_F} (h : Rc c0 g) : KP (Rc c0) (P_X3_forget i a g) := by
  unfold P_X3_forget
  repeat' first
    | assumption
    | (with_reducible refine kp_some ?_)
    | (with_reducible refine kp_ck ?_)
    | (with_reducible refine kp_ite ?_ ?_)
    | (with_reducible refine kp_wr ?_ (fun _ _ => ?_))
    | (with_reducible refine kp_jn (fun _ _ _ => ?_) (fun _ _ => ?_))
    | (with_reducible refine rc_up (by decide) ?_)
    | (with_reducible refine kp_bd ?_ (fun _ _ _ => ?_))
    | apply_assumption
theorem kc_X3_greedyPlace {c0 : Nat} {i a : Nat} {g : mg_F} (h : Rc c0 g) : KP (Rc c0) (P_X3_greedyPlace i a g) := by
  unfold P_X3_greedyPlace
  repeat' first
    | assumption
    | (with_reducible refine kp_some ?_)
    | (with_reducible refine kp_ck ?_)
    | (with_reducible refine kp_ite ?_ ?_)
    | (with_reducible refine kp_wr ?_ (fun _ _ => ?_))
    | (with_reducible refine kp_jn (fun _ _ _ => ?_) (fun _ _ => ?_))
    | (with_reducible refine rc_up (by decide) ?_)
    | (with_reducible exact kc_X2_placeOf (by assumption))
    | (with_reducible refine kp_bd ?_ (fun _ _ _ => ?_))
    | apply_assumption
theorem kc_X3_firstPlace {c0 : Nat} {i a b : Nat} {g : mg_F} (h : Rc c0 g) : KP (Rc c0) (P_X3_firstPlace i a b g) := by
  unfold P_X3_firstPlace
  repeat' first
    | assumption
    | (with_reducible refine kp_some ?_)
    | (with_reducible refine kp_ck ?_)
    | (with_reducible refine kp_ite ?_ ?_)
    | (with_reducible refine kp_wr ?_ (fun _ _ => ?_))
    | (with_reducible refine kp_jn (fun _ _ _ => ?_) (fun _ _ => ?_))
    | (with_reducible refine rc_up (by decide) ?_)
    | (with_reducible exact kc_X2_greatestPlace (by assumption))
    | (with_reducible exact kc_X3_greedyPlace (by assumption))
    | (with_reducible refine kp_bd ?_ (fun _ _ _ => ?_))
    | apply_assumption
theorem kcl_X4_pointNeighboursTo_2 {c0 : Nat} {a1 : Nat} {k : Nat → mg_F → mo} (hk : ∀ (v0 : Nat) (g : mg_F), Rc c0 g → KP (Rc c0) (k v0 g)) : ∀ (n v0 : Nat) (g : mg_F), Rc c0 g → KP (Rc c0) (L_X4_pointNeighboursTo_2 a1 k n v0 g) := by
  intro n
  induction n with
  | zero => intro v0 g _; rw [L_X4_pointNeighboursTo_2]; exact kp_none
  | succ n ih =>
    intro v0 g h
    rw [L_X4_pointNeighboursTo_2]
    repeat' first
      | assumption
      | (with_reducible refine kp_some ?_)
      | (with_reducible refine kp_ck ?_)
      | (with_reducible refine kp_ite ?_ ?_)
      | (with_reducible refine kp_wr ?_ (fun _ _ => ?_))
      | (with_reducible refine kp_jn (fun _ _ _ => ?_) (fun _ _ => ?_))
      | (with_reducible refine rc_up (by decide) ?_)
      | (with_reducible exact ih _ _ (by assumption))
      | (with_reducible exact hk _ _ (by assumption))
      | (with_reducible exact kc_X0_linked (by assumption))
      | (with_reducible refine kp_bd ?_ (fun _ _ _ => ?_))
      | apply_assumption
theorem kc_X4_pointNeighboursTo {c0 : Nat} {a : Nat} {g : mg_F} (h : Rc c0 g) : KP (Rc c0) (P_X4_pointNeighboursTo a g) := by
  unfold P_X4_pointNeighboursTo
  repeat' first
    | assumption
    | (with_reducible refine kp_some ?_)
    | (with_reducible refine kp_ck ?_)
    | (with_reducible refine kp_ite ?_ ?_)
    | (with_reducible refine kp_wr ?_ (fun _ _ => ?_))
    | (with_reducible refine kp_jn (fun _ _ _ => ?_) (fun _ _ => ?_))
    | (with_reducible refine rc_up (by decide) ?_)
    | (with_reducible refine kcl_X4_pointNeighboursTo_2 (fun _ _ _ => ?_) _ _ _ (by assumption))
    | (with_reducible refine kp_bd ?_ (fun _ _ _ => ?_))
    | apply_assumption
theorem kcl_X4_pointAllTo_25 {c0 : Nat} {a1 a2 : Nat} {k : Nat → mg_F → mo} (hk : ∀ (v0 : Nat) (g : mg_F), Rc c0 g → KP (Rc c0) (k v0 g)) : ∀ (n v0 : Nat) (g : mg_F), Rc c0 g → KP (Rc c0) (L_X4_pointAllTo_25 a1 a2 k n v0 g) := by
  intro n
  induction n with
  | zero => intro v0 g _; rw [L_X4_pointAllTo_25]; exact kp_none
  | succ n ih =>
    intro v0 g h
    rw [L_X4_pointAllTo_25]
    repeat' first
      | assumption
      | (with_reducible refine kp_some ?_)
      | (with_reducible refine kp_ck ?_)
      | (with_reducible refine kp_ite ?_ ?_)
      | (with_reducible refine kp_wr ?_ (fun _ _ => ?_))
      | (with_reducible refine kp_jn (fun _ _ _ => ?_) (fun _ _ => ?_))
      | (with_reducible refine rc_up (by decide) ?_)
      | (with_reducible exact ih _ _ (by assumption))
      | (with_reducible exact hk _ _ (by assumption))
      | (with_reducible exact kc_X4_pointNeighboursTo (by assumption))
      | (with_reducible refine kp_bd ?_ (fun _ _ _ => ?_))
      | apply_assumption
theorem kcl_X4_pointAllTo_12 {c0 : Nat} {a1 : Nat} {k : Nat → mg_F → mo} (hk : ∀ (v0 : Nat) (g : mg_F), Rc c0 g → KP (Rc c0) (k v0 g)) : ∀ (n v0 : Nat) (g : mg_F), Rc c0 g → KP (Rc c0) (L_X4_pointAllTo_12 a1 k n v0 g) := by
  intro n
  induction n with
  | zero => intro v0 g _; rw [L_X4_pointAllTo_12]; exact kp_none
  | succ n ih =>
    intro v0 g h
    rw [L_X4_pointAllTo_12]
    repeat' first
      | assumption
      | (with_reducible refine kp_some ?_)
      | (with_reducible refine kp_ck ?_)
      | (with_reducible refine kp_ite ?_ ?_)
      | (with_reducible refine kp_wr ?_ (fun _ _ => ?_))
      | (with_reducible refine kp_jn (fun _ _ _ => ?_) (fun _ _ => ?_))
      | (with_reducible refine rc_up (by decide) ?_)
      | (with_reducible exact ih _ _ (by assumption))
      | (with_reducible exact hk _ _ (by assumption))
      | (with_reducible refine kcl_X4_pointAllTo_25 (fun _ _ _ => ?_) _ _ _ (by assumption))
      | (with_reducible refine kp_bd ?_ (fun _ _ _ => ?_))
      | apply_assumption
theorem kc_X4_pointAllTo {c0 : Nat} {a : Nat} {g : mg_F} (h : Rc c0 g) : KP (Rc c0) (P_X4_pointAllTo a g) := by
  unfold P_X4_pointAllTo
  repeat' first
    | assumption
    | (with_reducible refine kp_some ?_)
    | (with_reducible refine kp_ck ?_)
    | (with_reducible refine kp_ite ?_ ?_)
    | (with_reducible refine kp_wr ?_ (fun _ _ => ?_))
    | (with_reducible refine kp_jn (fun _ _ _ => ?_) (fun _ _ => ?_))
    | (with_reducible refine rc_up (by decide) ?_)
    | (with_reducible refine kcl_X4_pointAllTo_12 (fun _ _ _ => ?_) _ _ _ (by assumption))
    | (with_reducible refine kp_bd ?_ (fun _ _ _ => ?_))
    | apply_assumption
theorem kcl_X4_open_86 {c0 : Nat} {a1 a2 a3 : Nat} {k : Nat → mg_F → mo} (hk : ∀ (v0 : Nat) (g : mg_F), Rc c0 g → KP (Rc c0) (k v0 g)) : ∀ (n v0 : Nat) (g : mg_F), Rc c0 g → KP (Rc c0) (L_X4_open_86 a1 a2 a3 k n v0 g) := by
  intro n
  induction n with
  | zero => intro v0 g _; rw [L_X4_open_86]; exact kp_none
  | succ n ih =>
    intro v0 g h
    rw [L_X4_open_86]
    repeat' first
      | assumption
      | (with_reducible refine kp_some ?_)
      | (with_reducible refine kp_ck ?_)
      | (with_reducible refine kp_ite ?_ ?_)
      | (with_reducible refine kp_wr ?_ (fun _ _ => ?_))
      | (with_reducible refine kp_jn (fun _ _ _ => ?_) (fun _ _ => ?_))
      | (with_reducible refine rc_up (by decide) ?_)
      | (with_reducible exact ih _ _ (by assumption))
      | (with_reducible exact hk _ _ (by assumption))
      | (with_reducible exact kc_X3_clear (by assumption))
      | (with_reducible exact kc_fill (by decide) (by assumption))
      | (with_reducible refine kp_bd ?_ (fun _ _ _ => ?_))
      | apply_assumption
theorem kc_X4_open {c0 : Nat} {a b c : Nat} {g : mg_F} (h : Rc c0 g) : KP (Rc c0) (P_X4_open a b c g) := by
  unfold P_X4_open
  repeat' first
    | assumption
    | (with_reducible refine kp_some ?_)
    | (with_reducible refine kp_ck ?_)
    | (with_reducible refine kp_ite ?_ ?_)
    | (with_reducible refine kp_wr ?_ (fun _ _ => ?_))
    | (with_reducible refine kp_jn (fun _ _ _ => ?_) (fun _ _ => ?_))
    | (with_reducible refine rc_up (by decide) ?_)
    | (with_reducible refine kcl_X4_open_86 (fun _ _ _ => ?_) _ _ _ (by assumption))
    | (with_reducible exact kc_X0_has (by assumption))
    | (with_reducible exact kc_X0_parts (by assumption))
    | (with_reducible exact kc_X4_pointAllTo (by assumption))
    | (with_reducible refine kp_bd ?_ (fun _ _ _ => ?_))
    | apply_assumption
theorem kc_X4_isStation {c0 : Nat} {a : Nat} {g : mg_F} (h : Rc c0 g) : KP (Rc c0) (P_X4_isStation a g) := by
  unfold P_X4_isStation
  repeat' first
    | assumption
    | (with_reducible refine kp_some ?_)
    | (with_reducible refine kp_ck ?_)
    | (with_reducible refine kp_ite ?_ ?_)
    | (with_reducible refine kp_wr ?_ (fun _ _ => ?_))
    | (with_reducible refine kp_jn (fun _ _ _ => ?_) (fun _ _ => ?_))
    | (with_reducible refine rc_up (by decide) ?_)
    | (with_reducible exact kc_X0_has (by assumption))
    | (with_reducible refine kp_bd ?_ (fun _ _ _ => ?_))
    | apply_assumption
theorem kc_X4_isUp {c0 : Nat} {a : Nat} {g : mg_F} (h : Rc c0 g) : KP (Rc c0) (P_X4_isUp a g) := by
  unfold P_X4_isUp
  repeat' first
    | assumption
    | (with_reducible refine kp_some ?_)
    | (with_reducible refine kp_ck ?_)
    | (with_reducible refine kp_ite ?_ ?_)
    | (with_reducible refine kp_wr ?_ (fun _ _ => ?_))
    | (with_reducible refine kp_jn (fun _ _ _ => ?_) (fun _ _ => ?_))
    | (with_reducible refine rc_up (by decide) ?_)
    | (with_reducible exact kc_X4_isStation (by assumption))
    | (with_reducible refine kp_bd ?_ (fun _ _ _ => ?_))
    | apply_assumption
theorem kc_X4_want {c0 : Nat} {a b : Nat} {g : mg_F} (h : Rc c0 g) : KP (Rc c0) (P_X4_want a b g) := by
  unfold P_X4_want
  repeat' first
    | assumption
    | (with_reducible refine kp_some ?_)
    | (with_reducible refine kp_ck ?_)
    | (with_reducible refine kp_ite ?_ ?_)
    | (with_reducible refine kp_wr ?_ (fun _ _ => ?_))
    | (with_reducible refine kp_jn (fun _ _ _ => ?_) (fun _ _ => ?_))
    | (with_reducible refine rc_up (by decide) ?_)
    | (with_reducible exact kc_X2_add (by assumption))
    | (with_reducible exact kc_X3_wants (by assumption))
    | (with_reducible exact kc_X4_isUp (by assumption))
    | (with_reducible refine kp_bd ?_ (fun _ _ _ => ?_))
    | apply_assumption
theorem kcl_X4_tellOthersOfBegin_2 {c0 : Nat} {a1 : Nat} {k : Nat → mg_F → mo} (hk : ∀ (v0 : Nat) (g : mg_F), Rc c0 g → KP (Rc c0) (k v0 g)) : ∀ (n v0 : Nat) (g : mg_F), Rc c0 g → KP (Rc c0) (L_X4_tellOthersOfBegin_2 a1 k n v0 g) := by
  intro n
  induction n with
  | zero => intro v0 g _; rw [L_X4_tellOthersOfBegin_2]; exact kp_none
  | succ n ih =>
    intro v0 g h
    rw [L_X4_tellOthersOfBegin_2]
    repeat' first
      | assumption
      | (with_reducible refine kp_some ?_)
      | (with_reducible refine kp_ck ?_)
      | (with_reducible refine kp_ite ?_ ?_)
      | (with_reducible refine kp_wr ?_ (fun _ _ => ?_))
      | (with_reducible refine kp_jn (fun _ _ _ => ?_) (fun _ _ => ?_))
      | (with_reducible refine rc_up (by decide) ?_)
      | (with_reducible exact ih _ _ (by assumption))
      | (with_reducible exact hk _ _ (by assumption))
      | (with_reducible refine kp_bd ?_ (fun _ _ _ => ?_))
      | apply_assumption
theorem kc_X4_tellOthersOfBegin {c0 : Nat} {a : Nat} {g : mg_F} (h : Rc c0 g) : KP (Rc c0) (P_X4_tellOthersOfBegin a g) := by
  unfold P_X4_tellOthersOfBegin
  repeat' first
    | assumption
    | (with_reducible refine kp_some ?_)
    | (with_reducible refine kp_ck ?_)
    | (with_reducible refine kp_ite ?_ ?_)
    | (with_reducible refine kp_wr ?_ (fun _ _ => ?_))
    | (with_reducible refine kp_jn (fun _ _ _ => ?_) (fun _ _ => ?_))
    | (with_reducible refine rc_up (by decide) ?_)
    | (with_reducible refine kcl_X4_tellOthersOfBegin_2 (fun _ _ _ => ?_) _ _ _ (by assumption))
    | (with_reducible refine kp_bd ?_ (fun _ _ _ => ?_))
    | apply_assumption
theorem kc_X4_begin {c0 : Nat} {a : Nat} {g : mg_F} (h : Rc c0 g) : KP (Rc c0) (P_X4_begin a g) := by
  unfold P_X4_begin
  repeat' first
    | assumption
    | (with_reducible refine kp_some ?_)
    | (with_reducible refine kp_ck ?_)
    | (with_reducible refine kp_ite ?_ ?_)
    | (with_reducible refine kp_wr ?_ (fun _ _ => ?_))
    | (with_reducible refine kp_jn (fun _ _ _ => ?_) (fun _ _ => ?_))
    | (with_reducible refine rc_up (by decide) ?_)
    | (with_reducible exact kc_X2_serve (by assumption))
    | (with_reducible exact kc_X3_firstPlace (by assumption))
    | (with_reducible exact kc_X3_holds (by assumption))
    | (with_reducible exact kc_X4_isUp (by assumption))
    | (with_reducible exact kc_X4_tellOthersOfBegin (by assumption))
    | (with_reducible refine kp_bd ?_ (fun _ _ _ => ?_))
    | apply_assumption
theorem kc_X4_end {c0 : Nat} {a : Nat} {g : mg_F} (h : Rc c0 g) : KP (Rc c0) (P_X4_end a g) := by
  unfold P_X4_end
  repeat' first
    | assumption
    | (with_reducible refine kp_some ?_)
    | (with_reducible refine kp_ck ?_)
    | (with_reducible refine kp_ite ?_ ?_)
    | (with_reducible refine kp_wr ?_ (fun _ _ => ?_))
    | (with_reducible refine kp_jn (fun _ _ _ => ?_) (fun _ _ => ?_))
    | (with_reducible refine rc_up (by decide) ?_)
    | (with_reducible exact kc_X3_stopPumping (by assumption))
    | (with_reducible exact kc_X4_isStation (by assumption))
    | (with_reducible refine kp_bd ?_ (fun _ _ _ => ?_))
    | apply_assumption
theorem kc_X4_canPassOn {c0 : Nat} {t : Nat} {g : mg_F} (h : Rc c0 g) : KP (Rc c0) (P_X4_canPassOn t g) := by
  unfold P_X4_canPassOn
  repeat' first
    | assumption
    | (with_reducible refine kp_some ?_)
    | (with_reducible refine kp_ck ?_)
    | (with_reducible refine kp_ite ?_ ?_)
    | (with_reducible refine kp_wr ?_ (fun _ _ => ?_))
    | (with_reducible refine kp_jn (fun _ _ _ => ?_) (fun _ _ => ?_))
    | (with_reducible refine rc_up (by decide) ?_)
    | (with_reducible exact kc_X3_firstPlace (by assumption))
    | (with_reducible exact kc_X3_holds (by assumption))
    | (with_reducible refine kp_bd ?_ (fun _ _ _ => ?_))
    | apply_assumption
theorem kc_X4_copyFirst {c0 : Nat} {a b : Nat} {g : mg_F} (h : Rc c0 g) : KP (Rc c0) (P_X4_copyFirst a b g) := by
  unfold P_X4_copyFirst
  repeat' first
    | assumption
    | (with_reducible refine kp_some ?_)
    | (with_reducible refine kp_ck ?_)
    | (with_reducible refine kp_ite ?_ ?_)
    | (with_reducible refine kp_wr ?_ (fun _ _ => ?_))
    | (with_reducible refine kp_jn (fun _ _ _ => ?_) (fun _ _ => ?_))
    | (with_reducible refine rc_up (by decide) ?_)
    | (with_reducible exact kc_X1_addCopy (by assumption))
    | (with_reducible exact kc_X1_firstBetween (by assumption))
    | (with_reducible refine kp_bd ?_ (fun _ _ _ => ?_))
    | apply_assumption
theorem kc_X4_send {c0 : Nat} {a b c d : Nat} {g : mg_F} (h : Rc c0 g) : KP (Rc c0) (P_X4_send a b c d g) := by
  unfold P_X4_send
  repeat' first
    | assumption
    | (with_reducible refine kp_some ?_)
    | (with_reducible refine kp_ck ?_)
    | (with_reducible refine kp_ite ?_ ?_)
    | (with_reducible refine kp_wr ?_ (fun _ _ => ?_))
    | (with_reducible refine kp_jn (fun _ _ _ => ?_) (fun _ _ => ?_))
    | (with_reducible refine rc_up (by decide) ?_)
    | (with_reducible exact kc_X1_add (by assumption))
    | (with_reducible exact kc_X1_firstBetween (by assumption))
    | (with_reducible exact kc_X4_copyFirst (by assumption))
    | (with_reducible refine kp_bd ?_ (fun _ _ _ => ?_))
    | apply_assumption
theorem kc_X4_ask {c0 : Nat} {t : Nat} {g : mg_F} (h : Rc c0 g) : KP (Rc c0) (P_X4_ask t g) := by
  unfold P_X4_ask
  repeat' first
    | assumption
    | (with_reducible refine kp_some ?_)
    | (with_reducible refine kp_ck ?_)
    | (with_reducible refine kp_ite ?_ ?_)
    | (with_reducible refine kp_wr ?_ (fun _ _ => ?_))
    | (with_reducible refine kp_jn (fun _ _ _ => ?_) (fun _ _ => ?_))
    | (with_reducible refine rc_up (by decide) ?_)
    | (with_reducible exact kc_X2_greatestRank (by assumption))
    | (with_reducible exact kc_X4_send (by assumption))
    | (with_reducible refine kp_bd ?_ (fun _ _ _ => ?_))
    | apply_assumption
theorem kc_X4_passOn {c0 : Nat} {t : Nat} {g : mg_F} (h : Rc c0 g) : KP (Rc c0) (P_X4_passOn t g) := by
  unfold P_X4_passOn
  repeat' first
    | assumption
    | (with_reducible refine kp_some ?_)
    | (with_reducible refine kp_ck ?_)
    | (with_reducible refine kp_ite ?_ ?_)
    | (with_reducible refine kp_wr ?_ (fun _ _ => ?_))
    | (with_reducible refine kp_jn (fun _ _ _ => ?_) (fun _ _ => ?_))
    | (with_reducible refine rc_up (by decide) ?_)
    | (with_reducible exact kc_X2_serve (by assumption))
    | (with_reducible exact kc_X3_firstPlace (by assumption))
    | (with_reducible exact kc_X4_ask (by assumption))
    | (with_reducible exact kc_X4_send (by assumption))
    | (with_reducible refine kp_bd ?_ (fun _ _ _ => ?_))
    | apply_assumption
theorem kc_X4_step {c0 : Nat} {a : Nat} {g : mg_F} (h : Rc c0 g) : KP (Rc c0) (P_X4_step a g) := by
  unfold P_X4_step
  repeat' first
    | assumption
    | (with_reducible refine kp_some ?_)
    | (with_reducible refine kp_ck ?_)
    | (with_reducible refine kp_ite ?_ ?_)
    | (with_reducible refine kp_wr ?_ (fun _ _ => ?_))
    | (with_reducible refine kp_jn (fun _ _ _ => ?_) (fun _ _ => ?_))
    | (with_reducible refine rc_up (by decide) ?_)
    | (with_reducible exact kc_X2_greatestRank (by assumption))
    | (with_reducible exact kc_X3_pointsAway (by assumption))
    | (with_reducible exact kc_X4_ask (by assumption))
    | (with_reducible exact kc_X4_canPassOn (by assumption))
    | (with_reducible exact kc_X4_isUp (by assumption))
    | (with_reducible exact kc_X4_passOn (by assumption))
    | (with_reducible refine kp_bd ?_ (fun _ _ _ => ?_))
    | apply_assumption
theorem kc_X4_isCopy {c0 : Nat} {a : Nat} {g : mg_F} (h : Rc c0 g) : KP (Rc c0) (P_X4_isCopy a g) := by
  unfold P_X4_isCopy
  repeat' first
    | assumption
    | (with_reducible refine kp_some ?_)
    | (with_reducible refine kp_ck ?_)
    | (with_reducible refine kp_ite ?_ ?_)
    | (with_reducible refine kp_wr ?_ (fun _ _ => ?_))
    | (with_reducible refine kp_jn (fun _ _ _ => ?_) (fun _ _ => ?_))
    | (with_reducible refine rc_up (by decide) ?_)
    | (with_reducible refine kp_bd ?_ (fun _ _ _ => ?_))
    | apply_assumption
theorem kc_X4_takeOut {c0 : Nat} {a b c : Nat} {g : mg_F} (h : Rc c0 g) : KP (Rc c0) (P_X4_takeOut a b c g) := by
  unfold P_X4_takeOut
  repeat' first
    | assumption
    | (with_reducible refine kp_some ?_)
    | (with_reducible refine kp_ck ?_)
    | (with_reducible refine kp_ite ?_ ?_)
    | (with_reducible refine kp_wr ?_ (fun _ _ => ?_))
    | (with_reducible refine kp_jn (fun _ _ _ => ?_) (fun _ _ => ?_))
    | (with_reducible refine rc_up (by decide) ?_)
    | (with_reducible exact kc_X1_firstBetween (by assumption))
    | (with_reducible exact kc_X1_remove (by assumption))
    | (with_reducible exact kc_X4_copyFirst (by assumption))
    | (with_reducible refine kp_bd ?_ (fun _ _ _ => ?_))
    | apply_assumption
theorem kc_X4_read {c0 : Nat} {a b c d : Nat} {g : mg_F} (h : Rc c0 g) : KP (Rc c0) (P_X4_read a b c d g) := by
  unfold P_X4_read
  repeat' first
    | assumption
    | (with_reducible refine kp_some ?_)
    | (with_reducible refine kp_ck ?_)
    | (with_reducible refine kp_ite ?_ ?_)
    | (with_reducible refine kp_wr ?_ (fun _ _ => ?_))
    | (with_reducible refine kp_jn (fun _ _ _ => ?_) (fun _ _ => ?_))
    | (with_reducible refine rc_up (by decide) ?_)
    | (with_reducible exact kc_X2_admit (by assumption))
    | (with_reducible refine kp_bd ?_ (fun _ _ _ => ?_))
    | apply_assumption
theorem kc_X4_deliver {c0 : Nat} {a : Nat} {g : mg_F} (h : Rc c0 g) : KP (Rc c0) (P_X4_deliver a g) := by
  unfold P_X4_deliver
  repeat' first
    | assumption
    | (with_reducible refine kp_some ?_)
    | (with_reducible refine kp_ck ?_)
    | (with_reducible refine kp_ite ?_ ?_)
    | (with_reducible refine kp_wr ?_ (fun _ _ => ?_))
    | (with_reducible refine kp_jn (fun _ _ _ => ?_) (fun _ _ => ?_))
    | (with_reducible refine rc_up (by decide) ?_)
    | (with_reducible exact kc_X1_add (by assumption))
    | (with_reducible exact kc_X1_remove (by assumption))
    | (with_reducible exact kc_X4_isCopy (by assumption))
    | (with_reducible exact kc_X4_read (by assumption))
    | (with_reducible exact kc_X4_takeOut (by assumption))
    | (with_reducible refine kp_bd ?_ (fun _ _ _ => ?_))
    | apply_assumption
theorem kc_X4_lose {c0 : Nat} {a : Nat} {g : mg_F} (h : Rc c0 g) : KP (Rc c0) (P_X4_lose a g) := by
  unfold P_X4_lose
  repeat' first
    | assumption
    | (with_reducible refine kp_some ?_)
    | (with_reducible refine kp_ck ?_)
    | (with_reducible refine kp_ite ?_ ?_)
    | (with_reducible refine kp_wr ?_ (fun _ _ => ?_))
    | (with_reducible refine kp_jn (fun _ _ _ => ?_) (fun _ _ => ?_))
    | (with_reducible refine rc_up (by decide) ?_)
    | (with_reducible exact kc_X1_remove (by assumption))
    | (with_reducible exact kc_X4_isCopy (by assumption))
    | (with_reducible refine kp_bd ?_ (fun _ _ _ => ?_))
    | apply_assumption
theorem kc_X4_twin {c0 : Nat} {a : Nat} {g : mg_F} (h : Rc c0 g) : KP (Rc c0) (P_X4_twin a g) := by
  unfold P_X4_twin
  repeat' first
    | assumption
    | (with_reducible refine kp_some ?_)
    | (with_reducible refine kp_ck ?_)
    | (with_reducible refine kp_ite ?_ ?_)
    | (with_reducible refine kp_wr ?_ (fun _ _ => ?_))
    | (with_reducible refine kp_jn (fun _ _ _ => ?_) (fun _ _ => ?_))
    | (with_reducible refine rc_up (by decide) ?_)
    | (with_reducible exact kc_X1_addCopy (by assumption))
    | (with_reducible exact kc_X4_isCopy (by assumption))
    | (with_reducible refine kp_bd ?_ (fun _ _ _ => ?_))
    | apply_assumption
theorem kcl_X4_resend_12 {c0 : Nat} {a1 : Nat} {k : Nat → mg_F → mo} (hk : ∀ (v0 : Nat) (g : mg_F), Rc c0 g → KP (Rc c0) (k v0 g)) : ∀ (n v0 : Nat) (g : mg_F), Rc c0 g → KP (Rc c0) (L_X4_resend_12 a1 k n v0 g) := by
  intro n
  induction n with
  | zero => intro v0 g _; rw [L_X4_resend_12]; exact kp_none
  | succ n ih =>
    intro v0 g h
    rw [L_X4_resend_12]
    repeat' first
      | assumption
      | (with_reducible refine kp_some ?_)
      | (with_reducible refine kp_ck ?_)
      | (with_reducible refine kp_ite ?_ ?_)
      | (with_reducible refine kp_wr ?_ (fun _ _ => ?_))
      | (with_reducible refine kp_jn (fun _ _ _ => ?_) (fun _ _ => ?_))
      | (with_reducible refine rc_up (by decide) ?_)
      | (with_reducible exact ih _ _ (by assumption))
      | (with_reducible exact hk _ _ (by assumption))
      | (with_reducible exact kc_X4_copyFirst (by assumption))
      | (with_reducible refine kp_bd ?_ (fun _ _ _ => ?_))
      | apply_assumption
theorem kc_X4_resend {c0 : Nat} {a : Nat} {g : mg_F} (h : Rc c0 g) : KP (Rc c0) (P_X4_resend a g) := by
  unfold P_X4_resend
  repeat' first
    | assumption
    | (with_reducible refine kp_some ?_)
    | (with_reducible refine kp_ck ?_)
    | (with_reducible refine kp_ite ?_ ?_)
    | (with_reducible refine kp_wr ?_ (fun _ _ => ?_))
    | (with_reducible refine kp_jn (fun _ _ _ => ?_) (fun _ _ => ?_))
    | (with_reducible refine rc_up (by decide) ?_)
    | (with_reducible refine kcl_X4_resend_12 (fun _ _ _ => ?_) _ _ _ (by assumption))
    | (with_reducible exact kc_X4_isUp (by assumption))
    | (with_reducible refine kp_bd ?_ (fun _ _ _ => ?_))
    | apply_assumption
theorem kc_X4_crash {c0 : Nat} {a : Nat} {g : mg_F} (h : Rc c0 g) : KP (Rc c0) (P_X4_crash a g) := by
  unfold P_X4_crash
  repeat' first
    | assumption
    | (with_reducible refine kp_some ?_)
    | (with_reducible refine kp_ck ?_)
    | (with_reducible refine kp_ite ?_ ?_)
    | (with_reducible refine kp_wr ?_ (fun _ _ => ?_))
    | (with_reducible refine kp_jn (fun _ _ _ => ?_) (fun _ _ => ?_))
    | (with_reducible refine rc_up (by decide) ?_)
    | (with_reducible exact kc_X3_stopPumping (by assumption))
    | (with_reducible exact kc_X4_isUp (by assumption))
    | (with_reducible refine kp_bd ?_ (fun _ _ _ => ?_))
    | apply_assumption
theorem kc_X4_restart {c0 : Nat} {a : Nat} {g : mg_F} (h : Rc c0 g) : KP (Rc c0) (P_X4_restart a g) := by
  unfold P_X4_restart
  repeat' first
    | assumption
    | (with_reducible refine kp_some ?_)
    | (with_reducible refine kp_ck ?_)
    | (with_reducible refine kp_ite ?_ ?_)
    | (with_reducible refine kp_wr ?_ (fun _ _ => ?_))
    | (with_reducible refine kp_jn (fun _ _ _ => ?_) (fun _ _ => ?_))
    | (with_reducible refine rc_up (by decide) ?_)
    | (with_reducible exact kc_X4_isStation (by assumption))
    | (with_reducible refine kp_bd ?_ (fun _ _ _ => ?_))
    | apply_assumption
theorem kcl_X4_whoHolds_2 {c0 : Nat} {k : Nat → mg_F → mo} (hk : ∀ (v0 : Nat) (g : mg_F), Rc c0 g → KP (Rc c0) (k v0 g)) : ∀ (n v0 : Nat) (g : mg_F), Rc c0 g → KP (Rc c0) (L_X4_whoHolds_2 k n v0 g) := by
  intro n
  induction n with
  | zero => intro v0 g _; rw [L_X4_whoHolds_2]; exact kp_none
  | succ n ih =>
    intro v0 g h
    rw [L_X4_whoHolds_2]
    repeat' first
      | assumption
      | (with_reducible refine kp_some ?_)
      | (with_reducible refine kp_ck ?_)
      | (with_reducible refine kp_ite ?_ ?_)
      | (with_reducible refine kp_wr ?_ (fun _ _ => ?_))
      | (with_reducible refine kp_jn (fun _ _ _ => ?_) (fun _ _ => ?_))
      | (with_reducible refine rc_up (by decide) ?_)
      | (with_reducible exact ih _ _ (by assumption))
      | (with_reducible exact hk _ _ (by assumption))
      | (with_reducible exact kc_X3_holds (by assumption))
      | (with_reducible refine kp_bd ?_ (fun _ _ _ => ?_))
      | apply_assumption
theorem kc_X4_whoHolds {c0 : Nat} {g : mg_F} (h : Rc c0 g) : KP (Rc c0) (P_X4_whoHolds g) := by
  unfold P_X4_whoHolds
  repeat' first
    | assumption
    | (with_reducible refine kp_some ?_)
    | (with_reducible refine kp_ck ?_)
    | (with_reducible refine kp_ite ?_ ?_)
    | (with_reducible refine kp_wr ?_ (fun _ _ => ?_))
    | (with_reducible refine kp_jn (fun _ _ _ => ?_) (fun _ _ => ?_))
    | (with_reducible refine rc_up (by decide) ?_)
    | (with_reducible refine kcl_X4_whoHolds_2 (fun _ _ _ => ?_) _ _ _ (by assumption))
    | (with_reducible refine kp_bd ?_ (fun _ _ _ => ?_))
    | apply_assumption
theorem kcl_X4_placeOfRight_7 {c0 : Nat} {k : Nat → Nat → mg_F → mo} (hk : ∀ (v0 v1 : Nat) (g : mg_F), Rc c0 g → KP (Rc c0) (k v0 v1 g)) : ∀ (n v0 v1 : Nat) (g : mg_F), Rc c0 g → KP (Rc c0) (L_X4_placeOfRight_7 k n v0 v1 g) := by
  intro n
  induction n with
  | zero => intro v0 v1 g _; rw [L_X4_placeOfRight_7]; exact kp_none
  | succ n ih =>
    intro v0 v1 g h
    rw [L_X4_placeOfRight_7]
    repeat' first
      | assumption
      | (with_reducible refine kp_some ?_)
      | (with_reducible refine kp_ck ?_)
      | (with_reducible refine kp_ite ?_ ?_)
      | (with_reducible refine kp_wr ?_ (fun _ _ => ?_))
      | (with_reducible refine kp_jn (fun _ _ _ => ?_) (fun _ _ => ?_))
      | (with_reducible refine rc_up (by decide) ?_)
      | (with_reducible exact ih _ _ _ (by assumption))
      | (with_reducible exact hk _ _ _ (by assumption))
      | (with_reducible refine kp_bd ?_ (fun _ _ _ => ?_))
      | apply_assumption
theorem kc_X4_placeOfRight {c0 : Nat} {g : mg_F} (h : Rc c0 g) : KP (Rc c0) (P_X4_placeOfRight g) := by
  unfold P_X4_placeOfRight
  repeat' first
    | assumption
    | (with_reducible refine kp_some ?_)
    | (with_reducible refine kp_ck ?_)
    | (with_reducible refine kp_ite ?_ ?_)
    | (with_reducible refine kp_wr ?_ (fun _ _ => ?_))
    | (with_reducible refine kp_jn (fun _ _ _ => ?_) (fun _ _ => ?_))
    | (with_reducible refine rc_up (by decide) ?_)
    | (with_reducible refine kcl_X4_placeOfRight_7 (fun _ _ _ _ => ?_) _ _ _ _ (by assumption))
    | (with_reducible exact kc_X4_whoHolds (by assumption))
    | (with_reducible refine kp_bd ?_ (fun _ _ _ => ?_))
    | apply_assumption
theorem kcl_X4_hasMarkFrom_4 {c0 : Nat} {a1 : Nat} {k : Nat → Nat → mg_F → mo} (hk : ∀ (v0 v1 : Nat) (g : mg_F), Rc c0 g → KP (Rc c0) (k v0 v1 g)) : ∀ (n v0 v1 : Nat) (g : mg_F), Rc c0 g → KP (Rc c0) (L_X4_hasMarkFrom_4 a1 k n v0 v1 g) := by
  intro n
  induction n with
  | zero => intro v0 v1 g _; rw [L_X4_hasMarkFrom_4]; exact kp_none
  | succ n ih =>
    intro v0 v1 g h
    rw [L_X4_hasMarkFrom_4]
    repeat' first
      | assumption
      | (with_reducible refine kp_some ?_)
      | (with_reducible refine kp_ck ?_)
      | (with_reducible refine kp_ite ?_ ?_)
      | (with_reducible refine kp_wr ?_ (fun _ _ => ?_))
      | (with_reducible refine kp_jn (fun _ _ _ => ?_) (fun _ _ => ?_))
      | (with_reducible refine rc_up (by decide) ?_)
      | (with_reducible exact ih _ _ _ (by assumption))
      | (with_reducible exact hk _ _ _ (by assumption))
      | (with_reducible exact kc_X3_pointsAway (by assumption))
      | (with_reducible refine kp_bd ?_ (fun _ _ _ => ?_))
      | apply_assumption
theorem kc_X4_hasMarkFrom {c0 : Nat} {a : Nat} {g : mg_F} (h : Rc c0 g) : KP (Rc c0) (P_X4_hasMarkFrom a g) := by
  unfold P_X4_hasMarkFrom
  repeat' first
    | assumption
    | (with_reducible refine kp_some ?_)
    | (with_reducible refine kp_ck ?_)
    | (with_reducible refine kp_ite ?_ ?_)
    | (with_reducible refine kp_wr ?_ (fun _ _ => ?_))
    | (with_reducible refine kp_jn (fun _ _ _ => ?_) (fun _ _ => ?_))
    | (with_reducible refine rc_up (by decide) ?_)
    | (with_reducible refine kcl_X4_hasMarkFrom_4 (fun _ _ _ _ => ?_) _ _ _ _ (by assumption))
    | (with_reducible refine kp_bd ?_ (fun _ _ _ => ?_))
    | apply_assumption
theorem kcl_X4_turnPointers_8 {c0 : Nat} {a1 a2 : Nat} {k : Nat → Nat → Nat → mg_F → mo} (hk : ∀ (v0 v1 v2 : Nat) (g : mg_F), Rc c0 g → KP (Rc c0) (k v0 v1 v2 g)) : ∀ (n v0 v1 v2 : Nat) (g : mg_F), Rc c0 g → KP (Rc c0) (L_X4_turnPointers_8 a1 a2 k n v0 v1 v2 g) := by
  intro n
  induction n with
  | zero => intro v0 v1 v2 g _; rw [L_X4_turnPointers_8]; exact kp_none
  | succ n ih =>
    intro v0 v1 v2 g h
    rw [L_X4_turnPointers_8]
    repeat' first
      | assumption
      | (with_reducible refine kp_some ?_)
      | (with_reducible refine kp_ck ?_)
      | (with_reducible refine kp_ite ?_ ?_)
      | (with_reducible refine kp_wr ?_ (fun _ _ => ?_))
      | (with_reducible refine kp_jn (fun _ _ _ => ?_) (fun _ _ => ?_))
      | (with_reducible refine rc_up (by decide) ?_)
      | (with_reducible exact ih _ _ _ _ (by assumption))
      | (with_reducible exact hk _ _ _ _ (by assumption))
      | (with_reducible refine kp_bd ?_ (fun _ _ _ => ?_))
      | apply_assumption
theorem kc_X4_turnPointers {c0 : Nat} {a b : Nat} {g : mg_F} (h : Rc c0 g) : KP (Rc c0) (P_X4_turnPointers a b g) := by
  unfold P_X4_turnPointers
  repeat' first
    | assumption
    | (with_reducible refine kp_some ?_)
    | (with_reducible refine kp_ck ?_)
    | (with_reducible refine kp_ite ?_ ?_)
    | (with_reducible refine kp_wr ?_ (fun _ _ => ?_))
    | (with_reducible refine kp_jn (fun _ _ _ => ?_) (fun _ _ => ?_))
    | (with_reducible refine rc_up (by decide) ?_)
    | (with_reducible refine kcl_X4_turnPointers_8 (fun _ _ _ _ _ => ?_) _ _ _ _ _ (by assumption))
    | (with_reducible refine kp_bd ?_ (fun _ _ _ => ?_))
    | apply_assumption
theorem kc_X4_holder {c0 : Nat} {g : mg_F} (h : Rc c0 g) : KP (Rc c0) (P_X4_holder g) := by
  unfold P_X4_holder
  repeat' first
    | assumption
    | (with_reducible refine kp_some ?_)
    | (with_reducible refine kp_ck ?_)
    | (with_reducible refine kp_ite ?_ ?_)
    | (with_reducible refine kp_wr ?_ (fun _ _ => ?_))
    | (with_reducible refine kp_jn (fun _ _ _ => ?_) (fun _ _ => ?_))
    | (with_reducible refine rc_up (by decide) ?_)
    | (with_reducible exact kc_X4_whoHolds (by assumption))
    | (with_reducible refine kp_bd ?_ (fun _ _ _ => ?_))
    | apply_assumption
theorem kc_X4_pointer {c0 : Nat} {a : Nat} {g : mg_F} (h : Rc c0 g) : KP (Rc c0) (P_X4_pointer a g) := by
  unfold P_X4_pointer
  repeat' first
    | assumption
    | (with_reducible refine kp_some ?_)
    | (with_reducible refine kp_ck ?_)
    | (with_reducible refine kp_ite ?_ ?_)
    | (with_reducible refine kp_wr ?_ (fun _ _ => ?_))
    | (with_reducible refine kp_jn (fun _ _ _ => ?_) (fun _ _ => ?_))
    | (with_reducible refine rc_up (by decide) ?_)
    | (with_reducible exact kc_X4_isStation (by assumption))
    | (with_reducible refine kp_bd ?_ (fun _ _ _ => ?_))
    | apply_assumption
theorem kc_X4_queue {c0 : Nat} {a b c : Nat} {g : mg_F} (h : Rc c0 g) : KP (Rc c0) (P_X4_queue a b c g) := by
  unfold P_X4_queue
  repeat' first
    | assumption
    | (with_reducible refine kp_some ?_)
    | (with_reducible refine kp_ck ?_)
    | (with_reducible refine kp_ite ?_ ?_)
    | (with_reducible refine kp_wr ?_ (fun _ _ => ?_))
    | (with_reducible refine kp_jn (fun _ _ _ => ?_) (fun _ _ => ?_))
    | (with_reducible refine rc_up (by decide) ?_)
    | (with_reducible exact kc_X4_isStation (by assumption))
    | (with_reducible refine kp_bd ?_ (fun _ _ _ => ?_))
    | apply_assumption
theorem kc_X4_letter {c0 : Nat} {a b : Nat} {g : mg_F} (h : Rc c0 g) : KP (Rc c0) (P_X4_letter a b g) := by
  unfold P_X4_letter
  repeat' first
    | assumption
    | (with_reducible refine kp_some ?_)
    | (with_reducible refine kp_ck ?_)
    | (with_reducible refine kp_ite ?_ ?_)
    | (with_reducible refine kp_wr ?_ (fun _ _ => ?_))
    | (with_reducible refine kp_jn (fun _ _ _ => ?_) (fun _ _ => ?_))
    | (with_reducible refine rc_up (by decide) ?_)
    | (with_reducible exact kc_X4_isCopy (by assumption))
    | (with_reducible refine kp_bd ?_ (fun _ _ _ => ?_))
    | apply_assumption
theorem kc_X4_told {c0 : Nat} {a b : Nat} {g : mg_F} (h : Rc c0 g) : KP (Rc c0) (P_X4_told a b g) := by
  unfold P_X4_told
  repeat' first
    | assumption
    | (with_reducible refine kp_some ?_)
    | (with_reducible refine kp_ck ?_)
    | (with_reducible refine kp_ite ?_ ?_)
    | (with_reducible refine kp_wr ?_ (fun _ _ => ?_))
    | (with_reducible refine kp_jn (fun _ _ _ => ?_) (fun _ _ => ?_))
    | (with_reducible refine rc_up (by decide) ?_)
    | (with_reducible exact kc_X0_neighboursOf (by assumption))
    | (with_reducible exact kc_X1_sentBy (by assumption))
    | (with_reducible exact kc_X4_isStation (by assumption))
    | (with_reducible refine kp_bd ?_ (fun _ _ _ => ?_))
    | apply_assumption
theorem kcl_X4_whoPumps_2 {c0 : Nat} {k : Nat → mg_F → mo} (hk : ∀ (v0 : Nat) (g : mg_F), Rc c0 g → KP (Rc c0) (k v0 g)) : ∀ (n v0 : Nat) (g : mg_F), Rc c0 g → KP (Rc c0) (L_X4_whoPumps_2 k n v0 g) := by
  intro n
  induction n with
  | zero => intro v0 g _; rw [L_X4_whoPumps_2]; exact kp_none
  | succ n ih =>
    intro v0 g h
    rw [L_X4_whoPumps_2]
    repeat' first
      | assumption
      | (with_reducible refine kp_some ?_)
      | (with_reducible refine kp_ck ?_)
      | (with_reducible refine kp_ite ?_ ?_)
      | (with_reducible refine kp_wr ?_ (fun _ _ => ?_))
      | (with_reducible refine kp_jn (fun _ _ _ => ?_) (fun _ _ => ?_))
      | (with_reducible refine rc_up (by decide) ?_)
      | (with_reducible exact ih _ _ (by assumption))
      | (with_reducible exact hk _ _ (by assumption))
      | (with_reducible refine kp_bd ?_ (fun _ _ _ => ?_))
      | apply_assumption
theorem kc_X4_whoPumps {c0 : Nat} {g : mg_F} (h : Rc c0 g) : KP (Rc c0) (P_X4_whoPumps g) := by
  unfold P_X4_whoPumps
  repeat' first
    | assumption
    | (with_reducible refine kp_some ?_)
    | (with_reducible refine kp_ck ?_)
    | (with_reducible refine kp_ite ?_ ?_)
    | (with_reducible refine kp_wr ?_ (fun _ _ => ?_))
    | (with_reducible refine kp_jn (fun _ _ _ => ?_) (fun _ _ => ?_))
    | (with_reducible refine rc_up (by decide) ?_)
    | (with_reducible refine kcl_X4_whoPumps_2 (fun _ _ _ => ?_) _ _ _ (by assumption))
    | (with_reducible refine kp_bd ?_ (fun _ _ _ => ?_))
    | apply_assumption
theorem kc_X4_count {c0 : Nat} {a : Nat} {g : mg_F} (h : Rc c0 g) : KP (Rc c0) (P_X4_count a g) := by
  unfold P_X4_count
  repeat' first
    | assumption
    | (with_reducible refine kp_some ?_)
    | (with_reducible refine kp_ck ?_)
    | (with_reducible refine kp_ite ?_ ?_)
    | (with_reducible refine kp_wr ?_ (fun _ _ => ?_))
    | (with_reducible refine kp_jn (fun _ _ _ => ?_) (fun _ _ => ?_))
    | (with_reducible refine rc_up (by decide) ?_)
    | (with_reducible exact kc_X0_parts (by assumption))
    | (with_reducible exact kc_X4_placeOfRight (by assumption))
    | (with_reducible exact kc_X4_whoPumps (by assumption))
    | (with_reducible refine kp_bd ?_ (fun _ _ _ => ?_))
    | apply_assumption
theorem kml_X5_part_2 {c0 : Nat} {F0 : Nat → Nat} {k : Nat → mg_F → mo} (hk : ∀ (v0 : Nat) (g : mg_F), Rm c0 F0 g → KP (Rm c0 F0) (k v0 g)) : ∀ (n v0 : Nat) (g : mg_F), Rm c0 F0 g → KP (Rm c0 F0) (L_X5_part_2 k n v0 g) := by
  intro n
  induction n with
  | zero => intro v0 g _; rw [L_X5_part_2]; exact kp_none
  | succ n ih =>
    intro v0 g h
    rw [L_X5_part_2]
    repeat' first
      | assumption
      | (with_reducible refine kp_some ?_)
      | (with_reducible refine kp_ck ?_)
      | (with_reducible refine kp_ite ?_ ?_)
      | (with_reducible refine kp_wr ?_ (fun _ _ => ?_))
      | (with_reducible refine kp_jn (fun _ _ _ => ?_) (fun _ _ => ?_))
      | (with_reducible refine rm_up (by decide) (by decide) ?_)
      | (with_reducible exact ih _ _ (by assumption))
      | (with_reducible exact hk _ _ (by assumption))
      | (with_reducible refine kp_bd ?_ (fun _ _ _ => ?_))
      | apply_assumption
theorem kml_X5_part_45 {c0 : Nat} {F0 : Nat → Nat} {a1 a2 : Nat} {k : Nat → mg_F → mo} (hk : ∀ (v0 : Nat) (g : mg_F), Rm c0 F0 g → KP (Rm c0 F0) (k v0 g)) : ∀ (n v0 : Nat) (g : mg_F), Rm c0 F0 g → KP (Rm c0 F0) (L_X5_part_45 a1 a2 k n v0 g) := by
  intro n
  induction n with
  | zero => intro v0 g _; rw [L_X5_part_45]; exact kp_none
  | succ n ih =>
    intro v0 g h
    rw [L_X5_part_45]
    repeat' first
      | assumption
      | (with_reducible refine kp_some ?_)
      | (with_reducible refine kp_ck ?_)
      | (with_reducible refine kp_ite ?_ ?_)
      | (with_reducible refine kp_wr ?_ (fun _ _ => ?_))
      | (with_reducible refine kp_jn (fun _ _ _ => ?_) (fun _ _ => ?_))
      | (with_reducible refine rm_up (by decide) (by decide) ?_)
      | (with_reducible exact ih _ _ (by assumption))
      | (with_reducible exact hk _ _ (by assumption))
      | (with_reducible refine kp_bd ?_ (fun _ _ _ => ?_))
      | apply_assumption
theorem kml_X5_part_35 {c0 : Nat} {F0 : Nat → Nat} {a1 : Nat} {k : Nat → mg_F → mo} (hk : ∀ (v0 : Nat) (g : mg_F), Rm c0 F0 g → KP (Rm c0 F0) (k v0 g)) : ∀ (n v0 : Nat) (g : mg_F), Rm c0 F0 g → KP (Rm c0 F0) (L_X5_part_35 a1 k n v0 g) := by
  intro n
  induction n with
  | zero => intro v0 g _; rw [L_X5_part_35]; exact kp_none
  | succ n ih =>
    intro v0 g h
    rw [L_X5_part_35]
    repeat' first
      | assumption
      | (with_reducible refine kp_some ?_)
      | (with_reducible refine kp_ck ?_)
      | (with_reducible refine kp_ite ?_ ?_)
      | (with_reducible refine kp_wr ?_ (fun _ _ => ?_))
      | (with_reducible refine kp_jn (fun _ _ _ => ?_) (fun _ _ => ?_))
      | (with_reducible refine rm_up (by decide) (by decide) ?_)
      | (with_reducible exact ih _ _ (by assumption))
      | (with_reducible exact hk _ _ (by assumption))
      | (with_reducible refine kml_X5_part_45 (fun _ _ _ => ?_) _ _ _ (by assumption))
      | (with_reducible refine kp_bd ?_ (fun _ _ _ => ?_))
      | apply_assumption
theorem kml_X5_part_25 {c0 : Nat} {F0 : Nat → Nat} {k : Nat → mg_F → mo} (hk : ∀ (v0 : Nat) (g : mg_F), Rm c0 F0 g → KP (Rm c0 F0) (k v0 g)) : ∀ (n v0 : Nat) (g : mg_F), Rm c0 F0 g → KP (Rm c0 F0) (L_X5_part_25 k n v0 g) := by
  intro n
  induction n with
  | zero => intro v0 g _; rw [L_X5_part_25]; exact kp_none
  | succ n ih =>
    intro v0 g h
    rw [L_X5_part_25]
    repeat' first
      | assumption
      | (with_reducible refine kp_some ?_)
      | (with_reducible refine kp_ck ?_)
      | (with_reducible refine kp_ite ?_ ?_)
      | (with_reducible refine kp_wr ?_ (fun _ _ => ?_))
      | (with_reducible refine kp_jn (fun _ _ _ => ?_) (fun _ _ => ?_))
      | (with_reducible refine rm_up (by decide) (by decide) ?_)
      | (with_reducible exact ih _ _ (by assumption))
      | (with_reducible exact hk _ _ (by assumption))
      | (with_reducible refine kml_X5_part_35 (fun _ _ _ => ?_) _ _ _ (by assumption))
      | (with_reducible refine kp_bd ?_ (fun _ _ _ => ?_))
      | apply_assumption
theorem kml_X5_part_125 {c0 : Nat} {F0 : Nat → Nat} {k : Nat → Nat → mg_F → mo} (hk : ∀ (v0 v1 : Nat) (g : mg_F), Rm c0 F0 g → KP (Rm c0 F0) (k v0 v1 g)) : ∀ (n v0 v1 : Nat) (g : mg_F), Rm c0 F0 g → KP (Rm c0 F0) (L_X5_part_125 k n v0 v1 g) := by
  intro n
  induction n with
  | zero => intro v0 v1 g _; rw [L_X5_part_125]; exact kp_none
  | succ n ih =>
    intro v0 v1 g h
    rw [L_X5_part_125]
    repeat' first
      | assumption
      | (with_reducible refine kp_some ?_)
      | (with_reducible refine kp_ck ?_)
      | (with_reducible refine kp_ite ?_ ?_)
      | (with_reducible refine kp_wr ?_ (fun _ _ => ?_))
      | (with_reducible refine kp_jn (fun _ _ _ => ?_) (fun _ _ => ?_))
      | (with_reducible refine rm_up (by decide) (by decide) ?_)
      | (with_reducible exact ih _ _ _ (by assumption))
      | (with_reducible exact hk _ _ _ (by assumption))
      | (with_reducible refine kp_bd ?_ (fun _ _ _ => ?_))
      | apply_assumption
theorem km_X5_part {c0 : Nat} {F0 : Nat → Nat} {g : mg_F} (h : Rm c0 F0 g) : KP (Rm c0 F0) (P_X5_part g) := by
  unfold P_X5_part
  repeat' first
    | assumption
    | (with_reducible refine kp_some ?_)
    | (with_reducible refine kp_ck ?_)
    | (with_reducible refine kp_ite ?_ ?_)
    | (with_reducible refine kp_wr ?_ (fun _ _ => ?_))
    | (with_reducible refine kp_jn (fun _ _ _ => ?_) (fun _ _ => ?_))
    | (with_reducible refine rm_up (by decide) (by decide) ?_)
    | (with_reducible refine kml_X5_part_125 (fun _ _ _ _ => ?_) _ _ _ _ (by assumption))
    | (with_reducible refine kml_X5_part_2 (fun _ _ _ => ?_) _ _ _ (by assumption))
    | (with_reducible refine kml_X5_part_25 (fun _ _ _ => ?_) _ _ _ (by assumption))
    | (with_reducible refine kp_bd ?_ (fun _ _ _ => ?_))
    | apply_assumption
theorem km_X5_isStation {c0 : Nat} {F0 : Nat → Nat} {a : Nat} {g : mg_F} (h : Rm c0 F0 g) : KP (Rm c0 F0) (P_X5_isStation a g) := by
  unfold P_X5_isStation
  repeat' first
    | assumption
    | (with_reducible refine kp_some ?_)
    | (with_reducible refine kp_ck ?_)
    | (with_reducible refine kp_ite ?_ ?_)
    | (with_reducible refine kp_wr ?_ (fun _ _ => ?_))
    | (with_reducible refine kp_jn (fun _ _ _ => ?_) (fun _ _ => ?_))
    | (with_reducible refine rm_up (by decide) (by decide) ?_)
    | (with_reducible refine kp_bd ?_ (fun _ _ _ => ?_))
    | apply_assumption
theorem kml_X5_open_77 {c0 : Nat} {F0 : Nat → Nat} {a1 a2 a3 : Nat} {k : Nat → mg_F → mo} (hk : ∀ (v0 : Nat) (g : mg_F), Rm c0 F0 g → KP (Rm c0 F0) (k v0 g)) : ∀ (n v0 : Nat) (g : mg_F), Rm c0 F0 g → KP (Rm c0 F0) (L_X5_open_77 a1 a2 a3 k n v0 g) := by
  intro n
  induction n with
  | zero => intro v0 g _; rw [L_X5_open_77]; exact kp_none
  | succ n ih =>
    intro v0 g h
    rw [L_X5_open_77]
    repeat' first
      | assumption
      | (with_reducible refine kp_some ?_)
      | (with_reducible refine kp_ck ?_)
      | (with_reducible refine kp_ite ?_ ?_)
      | (with_reducible refine kp_wr ?_ (fun _ _ => ?_))
      | (with_reducible refine kp_jn (fun _ _ _ => ?_) (fun _ _ => ?_))
      | (with_reducible refine rm_up (by decide) (by decide) ?_)
      | (with_reducible exact ih _ _ (by assumption))
      | (with_reducible exact hk _ _ (by assumption))
      | (with_reducible refine kp_bd ?_ (fun _ _ _ => ?_))
      | apply_assumption
theorem kml_X5_open_110 {c0 : Nat} {F0 : Nat → Nat} {a1 a2 a3 : Nat} {k : Nat → mg_F → mo} (hk : ∀ (v0 : Nat) (g : mg_F), Rm c0 F0 g → KP (Rm c0 F0) (k v0 g)) : ∀ (n v0 : Nat) (g : mg_F), Rm c0 F0 g → KP (Rm c0 F0) (L_X5_open_110 a1 a2 a3 k n v0 g) := by
  intro n
  induction n with
  | zero => intro v0 g _; rw [L_X5_open_110]; exact kp_none
  | succ n ih =>
    intro v0 g h
    rw [L_X5_open_110]
    repeat' first
      | assumption
      | (with_reducible refine kp_some ?_)
      | (with_reducible refine kp_ck ?_)
      | (with_reducible refine kp_ite ?_ ?_)
      | (with_reducible refine kp_wr ?_ (fun _ _ => ?_))
      | (with_reducible refine kp_jn (fun _ _ _ => ?_) (fun _ _ => ?_))
      | (with_reducible refine rm_up (by decide) (by decide) ?_)
      | (with_reducible exact ih _ _ (by assumption))
      | (with_reducible exact hk _ _ (by assumption))
      | (with_reducible refine kp_bd ?_ (fun _ _ _ => ?_))
      | apply_assumption
theorem kml_X5_open_244 {c0 : Nat} {F0 : Nat → Nat} {a1 a2 a3 a4 a5 : Nat} {k : Nat → mg_F → mo} (hk : ∀ (v0 : Nat) (g : mg_F), Rm c0 F0 g → KP (Rm c0 F0) (k v0 g)) : ∀ (n v0 : Nat) (g : mg_F), Rm c0 F0 g → KP (Rm c0 F0) (L_X5_open_244 a1 a2 a3 a4 a5 k n v0 g) := by
  intro n
  induction n with
  | zero => intro v0 g _; rw [L_X5_open_244]; exact kp_none
  | succ n ih =>
    intro v0 g h
    rw [L_X5_open_244]
    repeat' first
      | assumption
      | (with_reducible refine kp_some ?_)
      | (with_reducible refine kp_ck ?_)
      | (with_reducible refine kp_ite ?_ ?_)
      | (with_reducible refine kp_wr ?_ (fun _ _ => ?_))
      | (with_reducible refine kp_jn (fun _ _ _ => ?_) (fun _ _ => ?_))
      | (with_reducible refine rm_up (by decide) (by decide) ?_)
      | (with_reducible exact ih _ _ (by assumption))
      | (with_reducible exact hk _ _ (by assumption))
      | (with_reducible refine kp_bd ?_ (fun _ _ _ => ?_))
      | apply_assumption
theorem kml_X5_open_232 {c0 : Nat} {F0 : Nat → Nat} {a1 a2 a3 a4 : Nat} {k : Nat → mg_F → mo} (hk : ∀ (v0 : Nat) (g : mg_F), Rm c0 F0 g → KP (Rm c0 F0) (k v0 g)) : ∀ (n v0 : Nat) (g : mg_F), Rm c0 F0 g → KP (Rm c0 F0) (L_X5_open_232 a1 a2 a3 a4 k n v0 g) := by
  intro n
  induction n with
  | zero => intro v0 g _; rw [L_X5_open_232]; exact kp_none
  | succ n ih =>
    intro v0 g h
    rw [L_X5_open_232]
    repeat' first
      | assumption
      | (with_reducible refine kp_some ?_)
      | (with_reducible refine kp_ck ?_)
      | (with_reducible refine kp_ite ?_ ?_)
      | (with_reducible refine kp_wr ?_ (fun _ _ => ?_))
      | (with_reducible refine kp_jn (fun _ _ _ => ?_) (fun _ _ => ?_))
      | (with_reducible refine rm_up (by decide) (by decide) ?_)
      | (with_reducible exact ih _ _ (by assumption))
      | (with_reducible exact hk _ _ (by assumption))
      | (with_reducible refine kml_X5_open_244 (fun _ _ _ => ?_) _ _ _ (by assumption))
      | (with_reducible refine kp_bd ?_ (fun _ _ _ => ?_))
      | apply_assumption
theorem kml_X5_open_220 {c0 : Nat} {F0 : Nat → Nat} {a1 a2 a3 : Nat} {k : Nat → mg_F → mo} (hk : ∀ (v0 : Nat) (g : mg_F), Rm c0 F0 g → KP (Rm c0 F0) (k v0 g)) : ∀ (n v0 : Nat) (g : mg_F), Rm c0 F0 g → KP (Rm c0 F0) (L_X5_open_220 a1 a2 a3 k n v0 g) := by
  intro n
  induction n with
  | zero => intro v0 g _; rw [L_X5_open_220]; exact kp_none
  | succ n ih =>
    intro v0 g h
    rw [L_X5_open_220]
    repeat' first
      | assumption
      | (with_reducible refine kp_some ?_)
      | (with_reducible refine kp_ck ?_)
      | (with_reducible refine kp_ite ?_ ?_)
      | (with_reducible refine kp_wr ?_ (fun _ _ => ?_))
      | (with_reducible refine kp_jn (fun _ _ _ => ?_) (fun _ _ => ?_))
      | (with_reducible refine rm_up (by decide) (by decide) ?_)
      | (with_reducible exact ih _ _ (by assumption))
      | (with_reducible exact hk _ _ (by assumption))
      | (with_reducible refine kml_X5_open_232 (fun _ _ _ => ?_) _ _ _ (by assumption))
      | (with_reducible refine kp_bd ?_ (fun _ _ _ => ?_))
      | apply_assumption
theorem km_X5_open {c0 : Nat} {F0 : Nat → Nat} {a b c : Nat} {g : mg_F} (h : Rm c0 F0 g) : KP (Rm c0 F0) (P_X5_open a b c g) := by
  unfold P_X5_open
  repeat' first
    | assumption
    | (with_reducible refine kp_some ?_)
    | (with_reducible refine kp_ck ?_)
    | (with_reducible refine kp_ite ?_ ?_)
    | (with_reducible refine kp_wr ?_ (fun _ _ => ?_))
    | (with_reducible refine kp_jn (fun _ _ _ => ?_) (fun _ _ => ?_))
    | (with_reducible refine rm_up (by decide) (by decide) ?_)
    | (with_reducible refine kml_X5_open_110 (fun _ _ _ => ?_) _ _ _ (by assumption))
    | (with_reducible refine kml_X5_open_220 (fun _ _ _ => ?_) _ _ _ (by assumption))
    | (with_reducible refine kml_X5_open_77 (fun _ _ _ => ?_) _ _ _ (by assumption))
    | (with_reducible exact km_X5_isStation (by assumption))
    | (with_reducible exact km_X5_part (by assumption))
    | (with_reducible refine kp_bd ?_ (fun _ _ _ => ?_))
    | apply_assumption
theorem km_X5_isUp {c0 : Nat} {F0 : Nat → Nat} {a : Nat} {g : mg_F} (h : Rm c0 F0 g) : KP (Rm c0 F0) (P_X5_isUp a g) := by
  unfold P_X5_isUp
  repeat' first
    | assumption
    | (with_reducible refine kp_some ?_)
    | (with_reducible refine kp_ck ?_)
    | (with_reducible refine kp_ite ?_ ?_)
    | (with_reducible refine kp_wr ?_ (fun _ _ => ?_))
    | (with_reducible refine kp_jn (fun _ _ _ => ?_) (fun _ _ => ?_))
    | (with_reducible refine rm_up (by decide) (by decide) ?_)
    | (with_reducible exact km_X5_isStation (by assumption))
    | (with_reducible refine kp_bd ?_ (fun _ _ _ => ?_))
    | apply_assumption
theorem km_X5_entry {c0 : Nat} {F0 : Nat → Nat} {a b : Nat} {g : mg_F} (h : Rm c0 F0 g) : KP (Rm c0 F0) (P_X5_entry a b g) := by
  unfold P_X5_entry
  repeat' first
    | assumption
    | (with_reducible refine kp_some ?_)
    | (with_reducible refine kp_ck ?_)
    | (with_reducible refine kp_ite ?_ ?_)
    | (with_reducible refine kp_wr ?_ (fun _ _ => ?_))
    | (with_reducible refine kp_jn (fun _ _ _ => ?_) (fun _ _ => ?_))
    | (with_reducible refine rm_up (by decide) (by decide) ?_)
    | (with_reducible refine kp_bd ?_ (fun _ _ _ => ?_))
    | apply_assumption
theorem kml_X5_placeOf_5 {c0 : Nat} {F0 : Nat → Nat} {a1 a2 : Nat} {k : Nat → Nat → mg_F → mo} (hk : ∀ (v0 v1 : Nat) (g : mg_F), Rm c0 F0 g → KP (Rm c0 F0) (k v0 v1 g)) : ∀ (n v0 v1 : Nat) (g : mg_F), Rm c0 F0 g → KP (Rm c0 F0) (L_X5_placeOf_5 a1 a2 k n v0 v1 g) := by
  intro n
  induction n with
  | zero => intro v0 v1 g _; rw [L_X5_placeOf_5]; exact kp_none
  | succ n ih =>
    intro v0 v1 g h
    rw [L_X5_placeOf_5]
    repeat' first
      | assumption
      | (with_reducible refine kp_some ?_)
      | (with_reducible refine kp_ck ?_)
      | (with_reducible refine kp_ite ?_ ?_)
      | (with_reducible refine kp_wr ?_ (fun _ _ => ?_))
      | (with_reducible refine kp_jn (fun _ _ _ => ?_) (fun _ _ => ?_))
      | (with_reducible refine rm_up (by decide) (by decide) ?_)
      | (with_reducible exact ih _ _ _ (by assumption))
      | (with_reducible exact hk _ _ _ (by assumption))
      | (with_reducible exact km_X5_entry (by assumption))
      | (with_reducible refine kp_bd ?_ (fun _ _ _ => ?_))
      | apply_assumption
theorem km_X5_placeOf {c0 : Nat} {F0 : Nat → Nat} {a b : Nat} {g : mg_F} (h : Rm c0 F0 g) : KP (Rm c0 F0) (P_X5_placeOf a b g) := by
  unfold P_X5_placeOf
  repeat' first
    | assumption
    | (with_reducible refine kp_some ?_)
    | (with_reducible refine kp_ck ?_)
    | (with_reducible refine kp_ite ?_ ?_)
    | (with_reducible refine kp_wr ?_ (fun _ _ => ?_))
    | (with_reducible refine kp_jn (fun _ _ _ => ?_) (fun _ _ => ?_))
    | (with_reducible refine rm_up (by decide) (by decide) ?_)
    | (with_reducible refine kml_X5_placeOf_5 (fun _ _ _ _ => ?_) _ _ _ _ (by assumption))
    | (with_reducible refine kp_bd ?_ (fun _ _ _ => ?_))
    | apply_assumption
theorem km_X5_come {c0 : Nat} {F0 : Nat → Nat} {a b c : Nat} {g : mg_F} (h : Rm c0 F0 g) : KP (Rm c0 F0) (P_X5_come a b c g) := by
  unfold P_X5_come
  repeat' first
    | assumption
    | (with_reducible refine kp_some ?_)
    | (with_reducible refine kp_ck ?_)
    | (with_reducible refine kp_ite ?_ ?_)
    | (with_reducible refine kp_wr ?_ (fun _ _ => ?_))
    | (with_reducible refine kp_jn (fun _ _ _ => ?_) (fun _ _ => ?_))
    | (with_reducible refine rm_up (by decide) (by decide) ?_)
    | (with_reducible exact km_X5_entry (by assumption))
    | (with_reducible exact km_X5_placeOf (by assumption))
    | (with_reducible refine kp_bd ?_ (fun _ _ _ => ?_))
    | apply_assumption
theorem kml_X5_leave_2 {c0 : Nat} {F0 : Nat → Nat} {a1 a2 : Nat} {k : Nat → mg_F → mo} (hk : ∀ (v0 : Nat) (g : mg_F), Rm c0 F0 g → KP (Rm c0 F0) (k v0 g)) : ∀ (n v0 : Nat) (g : mg_F), Rm c0 F0 g → KP (Rm c0 F0) (L_X5_leave_2 a1 a2 k n v0 g) := by
  intro n
  induction n with
  | zero => intro v0 g _; rw [L_X5_leave_2]; exact kp_none
  | succ n ih =>
    intro v0 g h
    rw [L_X5_leave_2]
    repeat' first
      | assumption
      | (with_reducible refine kp_some ?_)
      | (with_reducible refine kp_ck ?_)
      | (with_reducible refine kp_ite ?_ ?_)
      | (with_reducible refine kp_wr ?_ (fun _ _ => ?_))
      | (with_reducible refine kp_jn (fun _ _ _ => ?_) (fun _ _ => ?_))
      | (with_reducible refine rm_up (by decide) (by decide) ?_)
      | (with_reducible exact ih _ _ (by assumption))
      | (with_reducible exact hk _ _ (by assumption))
      | (with_reducible exact km_X5_entry (by assumption))
      | (with_reducible refine kp_bd ?_ (fun _ _ _ => ?_))
      | apply_assumption
theorem kml_X5_leave_80 {c0 : Nat} {F0 : Nat → Nat} {a1 a2 : Nat} {k : Nat → mg_F → mo} (hk : ∀ (v0 : Nat) (g : mg_F), Rm c0 F0 g → KP (Rm c0 F0) (k v0 g)) : ∀ (n v0 : Nat) (g : mg_F), Rm c0 F0 g → KP (Rm c0 F0) (L_X5_leave_80 a1 a2 k n v0 g) := by
  intro n
  induction n with
  | zero => intro v0 g _; rw [L_X5_leave_80]; exact kp_none
  | succ n ih =>
    intro v0 g h
    rw [L_X5_leave_80]
    repeat' first
      | assumption
      | (with_reducible refine kp_some ?_)
      | (with_reducible refine kp_ck ?_)
      | (with_reducible refine kp_ite ?_ ?_)
      | (with_reducible refine kp_wr ?_ (fun _ _ => ?_))
      | (with_reducible refine kp_jn (fun _ _ _ => ?_) (fun _ _ => ?_))
      | (with_reducible refine rm_up (by decide) (by decide) ?_)
      | (with_reducible exact ih _ _ (by assumption))
      | (with_reducible exact hk _ _ (by assumption))
      | (with_reducible exact km_X5_entry (by assumption))
      | (with_reducible refine kp_bd ?_ (fun _ _ _ => ?_))
      | apply_assumption
theorem km_X5_leave {c0 : Nat} {F0 : Nat → Nat} {a b : Nat} {g : mg_F} (h : Rm c0 F0 g) : KP (Rm c0 F0) (P_X5_leave a b g) := by
  unfold P_X5_leave
  repeat' first
    | assumption
    | (with_reducible refine kp_some ?_)
    | (with_reducible refine kp_ck ?_)
    | (with_reducible refine kp_ite ?_ ?_)
    | (with_reducible refine kp_wr ?_ (fun _ _ => ?_))
    | (with_reducible refine kp_jn (fun _ _ _ => ?_) (fun _ _ => ?_))
    | (with_reducible refine rm_up (by decide) (by decide) ?_)
    | (with_reducible refine kml_X5_leave_2 (fun _ _ _ => ?_) _ _ _ (by assumption))
    | (with_reducible refine kml_X5_leave_80 (fun _ _ _ => ?_) _ _ _ (by assumption))
    | (with_reducible refine kp_bd ?_ (fun _ _ _ => ?_))
    | apply_assumption
theorem kml_X5_firstOf_59 {c0 : Nat} {F0 : Nat → Nat} {a1 a2 : Nat} {k : Nat → Nat → mg_F → mo} (hk : ∀ (v0 v1 : Nat) (g : mg_F), Rm c0 F0 g → KP (Rm c0 F0) (k v0 v1 g)) : ∀ (n v0 v1 : Nat) (g : mg_F), Rm c0 F0 g → KP (Rm c0 F0) (L_X5_firstOf_59 a1 a2 k n v0 v1 g) := by
  intro n
  induction n with
  | zero => intro v0 v1 g _; rw [L_X5_firstOf_59]; exact kp_none
  | succ n ih =>
    intro v0 v1 g h
    rw [L_X5_firstOf_59]
    repeat' first
      | assumption
      | (with_reducible refine kp_some ?_)
      | (with_reducible refine kp_ck ?_)
      | (with_reducible refine kp_ite ?_ ?_)
      | (with_reducible refine kp_wr ?_ (fun _ _ => ?_))
      | (with_reducible refine kp_jn (fun _ _ _ => ?_) (fun _ _ => ?_))
      | (with_reducible refine rm_up (by decide) (by decide) ?_)
      | (with_reducible exact ih _ _ _ (by assumption))
      | (with_reducible exact hk _ _ _ (by assumption))
      | (with_reducible exact km_X5_entry (by assumption))
      | (with_reducible refine kp_bd ?_ (fun _ _ _ => ?_))
      | apply_assumption
theorem km_X5_firstOf {c0 : Nat} {F0 : Nat → Nat} {a : Nat} {g : mg_F} (h : Rm c0 F0 g) : KP (Rm c0 F0) (P_X5_firstOf a g) := by
  unfold P_X5_firstOf
  repeat' first
    | assumption
    | (with_reducible refine kp_some ?_)
    | (with_reducible refine kp_ck ?_)
    | (with_reducible refine kp_ite ?_ ?_)
    | (with_reducible refine kp_wr ?_ (fun _ _ => ?_))
    | (with_reducible refine kp_jn (fun _ _ _ => ?_) (fun _ _ => ?_))
    | (with_reducible refine rm_up (by decide) (by decide) ?_)
    | (with_reducible refine kml_X5_firstOf_59 (fun _ _ _ _ => ?_) _ _ _ _ (by assumption))
    | (with_reducible exact km_X5_placeOf (by assumption))
    | (with_reducible refine kp_bd ?_ (fun _ _ _ => ?_))
    | apply_assumption
theorem kml_X5_greatest_4 {c0 : Nat} {F0 : Nat → Nat} {a1 : Nat} {k : Nat → Nat → mg_F → mo} (hk : ∀ (v0 v1 : Nat) (g : mg_F), Rm c0 F0 g → KP (Rm c0 F0) (k v0 v1 g)) : ∀ (n v0 v1 : Nat) (g : mg_F), Rm c0 F0 g → KP (Rm c0 F0) (L_X5_greatest_4 a1 k n v0 v1 g) := by
  intro n
  induction n with
  | zero => intro v0 v1 g _; rw [L_X5_greatest_4]; exact kp_none
  | succ n ih =>
    intro v0 v1 g h
    rw [L_X5_greatest_4]
    repeat' first
      | assumption
      | (with_reducible refine kp_some ?_)
      | (with_reducible refine kp_ck ?_)
      | (with_reducible refine kp_ite ?_ ?_)
      | (with_reducible refine kp_wr ?_ (fun _ _ => ?_))
      | (with_reducible refine kp_jn (fun _ _ _ => ?_) (fun _ _ => ?_))
      | (with_reducible refine rm_up (by decide) (by decide) ?_)
      | (with_reducible exact ih _ _ _ (by assumption))
      | (with_reducible exact hk _ _ _ (by assumption))
      | (with_reducible exact km_X5_entry (by assumption))
      | (with_reducible refine kp_bd ?_ (fun _ _ _ => ?_))
      | apply_assumption
theorem km_X5_greatest {c0 : Nat} {F0 : Nat → Nat} {a : Nat} {g : mg_F} (h : Rm c0 F0 g) : KP (Rm c0 F0) (P_X5_greatest a g) := by
  unfold P_X5_greatest
  repeat' first
    | assumption
    | (with_reducible refine kp_some ?_)
    | (with_reducible refine kp_ck ?_)
    | (with_reducible refine kp_ite ?_ ?_)
    | (with_reducible refine kp_wr ?_ (fun _ _ => ?_))
    | (with_reducible refine kp_jn (fun _ _ _ => ?_) (fun _ _ => ?_))
    | (with_reducible refine rm_up (by decide) (by decide) ?_)
    | (with_reducible refine kml_X5_greatest_4 (fun _ _ _ _ => ?_) _ _ _ _ (by assumption))
    | (with_reducible refine kp_bd ?_ (fun _ _ _ => ?_))
    | apply_assumption
theorem km_X5_send {c0 : Nat} {F0 : Nat → Nat} {a b c d : Nat} {g : mg_F} (h : Rm c0 F0 g) : KP (Rm c0 F0) (P_X5_send a b c d g) := by
  unfold P_X5_send
  repeat' first
    | assumption
    | (with_reducible refine kp_some ?_)
    | (with_reducible refine kp_ck ?_)
    | (with_reducible refine kp_ite ?_ ?_)
    | (with_reducible refine kp_wr ?_ (fun _ _ => ?_))
    | (with_reducible refine kp_jn (fun _ _ _ => ?_) (fun _ _ => ?_))
    | (with_reducible refine rm_up (by decide) (by decide) ?_)
    | (with_reducible refine kp_bd ?_ (fun _ _ _ => ?_))
    | apply_assumption
theorem kml_X5_firstLetter_9 {c0 : Nat} {F0 : Nat → Nat} {a1 : Nat} {k : Nat → Nat → mg_F → mo} (hk : ∀ (v0 v1 : Nat) (g : mg_F), Rm c0 F0 g → KP (Rm c0 F0) (k v0 v1 g)) : ∀ (n v0 v1 : Nat) (g : mg_F), Rm c0 F0 g → KP (Rm c0 F0) (L_X5_firstLetter_9 a1 k n v0 v1 g) := by
  intro n
  induction n with
  | zero => intro v0 v1 g _; rw [L_X5_firstLetter_9]; exact kp_none
  | succ n ih =>
    intro v0 v1 g h
    rw [L_X5_firstLetter_9]
    repeat' first
      | assumption
      | (with_reducible refine kp_some ?_)
      | (with_reducible refine kp_ck ?_)
      | (with_reducible refine kp_ite ?_ ?_)
      | (with_reducible refine kp_wr ?_ (fun _ _ => ?_))
      | (with_reducible refine kp_jn (fun _ _ _ => ?_) (fun _ _ => ?_))
      | (with_reducible refine rm_up (by decide) (by decide) ?_)
      | (with_reducible exact ih _ _ _ (by assumption))
      | (with_reducible exact hk _ _ _ (by assumption))
      | (with_reducible refine kp_bd ?_ (fun _ _ _ => ?_))
      | apply_assumption
theorem km_X5_firstLetter {c0 : Nat} {F0 : Nat → Nat} {a : Nat} {g : mg_F} (h : Rm c0 F0 g) : KP (Rm c0 F0) (P_X5_firstLetter a g) := by
  unfold P_X5_firstLetter
  repeat' first
    | assumption
    | (with_reducible refine kp_some ?_)
    | (with_reducible refine kp_ck ?_)
    | (with_reducible refine kp_ite ?_ ?_)
    | (with_reducible refine kp_wr ?_ (fun _ _ => ?_))
    | (with_reducible refine kp_jn (fun _ _ _ => ?_) (fun _ _ => ?_))
    | (with_reducible refine rm_up (by decide) (by decide) ?_)
    | (with_reducible refine kml_X5_firstLetter_9 (fun _ _ _ _ => ?_) _ _ _ _ (by assumption))
    | (with_reducible refine kp_bd ?_ (fun _ _ _ => ?_))
    | apply_assumption
theorem km_X5_sendFirst {c0 : Nat} {F0 : Nat → Nat} {a : Nat} {g : mg_F} (h : Rm c0 F0 g) : KP (Rm c0 F0) (P_X5_sendFirst a g) := by
  unfold P_X5_sendFirst
  repeat' first
    | assumption
    | (with_reducible refine kp_some ?_)
    | (with_reducible refine kp_ck ?_)
    | (with_reducible refine kp_ite ?_ ?_)
    | (with_reducible refine kp_wr ?_ (fun _ _ => ?_))
    | (with_reducible refine kp_jn (fun _ _ _ => ?_) (fun _ _ => ?_))
    | (with_reducible refine rm_up (by decide) (by decide) ?_)
    | (with_reducible exact km_X5_firstLetter (by assumption))
    | (with_reducible exact km_X5_send (by assumption))
    | (with_reducible refine kp_bd ?_ (fun _ _ _ => ?_))
    | apply_assumption
theorem km_X5_write {c0 : Nat} {F0 : Nat → Nat} {a b c : Nat} {g : mg_F} (h : Rm c0 F0 g) : KP (Rm c0 F0) (P_X5_write a b c g) := by
  unfold P_X5_write
  repeat' first
    | assumption
    | (with_reducible refine kp_some ?_)
    | (with_reducible refine kp_ck ?_)
    | (with_reducible refine kp_ite ?_ ?_)
    | (with_reducible refine kp_wr ?_ (fun _ _ => ?_))
    | (with_reducible refine kp_jn (fun _ _ _ => ?_) (fun _ _ => ?_))
    | (with_reducible refine rm_up (by decide) (by decide) ?_)
    | (with_reducible exact km_X5_firstLetter (by assumption))
    | (with_reducible exact km_X5_sendFirst (by assumption))
    | (with_reducible refine kp_bd ?_ (fun _ _ _ => ?_))
    | apply_assumption
theorem km_X5_writeAsk {c0 : Nat} {F0 : Nat → Nat} {a : Nat} {g : mg_F} (h : Rm c0 F0 g) : KP (Rm c0 F0) (P_X5_writeAsk a g) := by
  unfold P_X5_writeAsk
  repeat' first
    | assumption
    | (with_reducible refine kp_some ?_)
    | (with_reducible refine kp_ck ?_)
    | (with_reducible refine kp_ite ?_ ?_)
    | (with_reducible refine kp_wr ?_ (fun _ _ => ?_))
    | (with_reducible refine kp_jn (fun _ _ _ => ?_) (fun _ _ => ?_))
    | (with_reducible refine rm_up (by decide) (by decide) ?_)
    | (with_reducible exact km_X5_greatest (by assumption))
    | (with_reducible exact km_X5_write (by assumption))
    | (with_reducible refine kp_bd ?_ (fun _ _ _ => ?_))
    | apply_assumption
theorem kml_X5_dropLetter_12 {c0 : Nat} {F0 : Nat → Nat} {a1 : Nat} {k : Nat → mg_F → mo} (hk : ∀ (v0 : Nat) (g : mg_F), Rm c0 F0 g → KP (Rm c0 F0) (k v0 g)) : ∀ (n v0 : Nat) (g : mg_F), Rm c0 F0 g → KP (Rm c0 F0) (L_X5_dropLetter_12 a1 k n v0 g) := by
  intro n
  induction n with
  | zero => intro v0 g _; rw [L_X5_dropLetter_12]; exact kp_none
  | succ n ih =>
    intro v0 g h
    rw [L_X5_dropLetter_12]
    repeat' first
      | assumption
      | (with_reducible refine kp_some ?_)
      | (with_reducible refine kp_ck ?_)
      | (with_reducible refine kp_ite ?_ ?_)
      | (with_reducible refine kp_wr ?_ (fun _ _ => ?_))
      | (with_reducible refine kp_jn (fun _ _ _ => ?_) (fun _ _ => ?_))
      | (with_reducible refine rm_up (by decide) (by decide) ?_)
      | (with_reducible exact ih _ _ (by assumption))
      | (with_reducible exact hk _ _ (by assumption))
      | (with_reducible refine kp_bd ?_ (fun _ _ _ => ?_))
      | apply_assumption
theorem km_X5_dropLetter {c0 : Nat} {F0 : Nat → Nat} {a : Nat} {g : mg_F} (h : Rm c0 F0 g) : KP (Rm c0 F0) (P_X5_dropLetter a g) := by
  unfold P_X5_dropLetter
  repeat' first
    | assumption
    | (with_reducible refine kp_some ?_)
    | (with_reducible refine kp_ck ?_)
    | (with_reducible refine kp_ite ?_ ?_)
    | (with_reducible refine kp_wr ?_ (fun _ _ => ?_))
    | (with_reducible refine kp_jn (fun _ _ _ => ?_) (fun _ _ => ?_))
    | (with_reducible refine rm_up (by decide) (by decide) ?_)
    | (with_reducible refine kml_X5_dropLetter_12 (fun _ _ _ => ?_) _ _ _ (by assumption))
    | (with_reducible refine kp_bd ?_ (fun _ _ _ => ?_))
    | apply_assumption
theorem kml_X5_dropCopy_12 {c0 : Nat} {F0 : Nat → Nat} {a1 : Nat} {k : Nat → mg_F → mo} (hk : ∀ (v0 : Nat) (g : mg_F), Rm c0 F0 g → KP (Rm c0 F0) (k v0 g)) : ∀ (n v0 : Nat) (g : mg_F), Rm c0 F0 g → KP (Rm c0 F0) (L_X5_dropCopy_12 a1 k n v0 g) := by
  intro n
  induction n with
  | zero => intro v0 g _; rw [L_X5_dropCopy_12]; exact kp_none
  | succ n ih =>
    intro v0 g h
    rw [L_X5_dropCopy_12]
    repeat' first
      | assumption
      | (with_reducible refine kp_some ?_)
      | (with_reducible refine kp_ck ?_)
      | (with_reducible refine kp_ite ?_ ?_)
      | (with_reducible refine kp_wr ?_ (fun _ _ => ?_))
      | (with_reducible refine kp_jn (fun _ _ _ => ?_) (fun _ _ => ?_))
      | (with_reducible refine rm_up (by decide) (by decide) ?_)
      | (with_reducible exact ih _ _ (by assumption))
      | (with_reducible exact hk _ _ (by assumption))
      | (with_reducible refine kp_bd ?_ (fun _ _ _ => ?_))
      | apply_assumption
theorem km_X5_dropCopy {c0 : Nat} {F0 : Nat → Nat} {a : Nat} {g : mg_F} (h : Rm c0 F0 g) : KP (Rm c0 F0) (P_X5_dropCopy a g) := by
  unfold P_X5_dropCopy
  repeat' first
    | assumption
    | (with_reducible refine kp_some ?_)
    | (with_reducible refine kp_ck ?_)
    | (with_reducible refine kp_ite ?_ ?_)
    | (with_reducible refine kp_wr ?_ (fun _ _ => ?_))
    | (with_reducible refine kp_jn (fun _ _ _ => ?_) (fun _ _ => ?_))
    | (with_reducible refine rm_up (by decide) (by decide) ?_)
    | (with_reducible refine kml_X5_dropCopy_12 (fun _ _ _ => ?_) _ _ _ (by assumption))
    | (with_reducible refine kp_bd ?_ (fun _ _ _ => ?_))
    | apply_assumption
theorem km_X5_want {c0 : Nat} {F0 : Nat → Nat} {a b : Nat} {g : mg_F} (h : Rm c0 F0 g) : KP (Rm c0 F0) (P_X5_want a b g) := by
  unfold P_X5_want
  repeat' first
    | assumption
    | (with_reducible refine kp_some ?_)
    | (with_reducible refine kp_ck ?_)
    | (with_reducible refine kp_ite ?_ ?_)
    | (with_reducible refine kp_wr ?_ (fun _ _ => ?_))
    | (with_reducible refine kp_jn (fun _ _ _ => ?_) (fun _ _ => ?_))
    | (with_reducible refine rm_up (by decide) (by decide) ?_)
    | (with_reducible exact km_X5_come (by assumption))
    | (with_reducible exact km_X5_isUp (by assumption))
    | (with_reducible exact km_X5_placeOf (by assumption))
    | (with_reducible refine kp_bd ?_ (fun _ _ _ => ?_))
    | apply_assumption
theorem kml_X5_begin_133 {c0 : Nat} {F0 : Nat → Nat} {a1 a2 : Nat} {k : Nat → mg_F → mo} (hk : ∀ (v0 : Nat) (g : mg_F), Rm c0 F0 g → KP (Rm c0 F0) (k v0 g)) : ∀ (n v0 : Nat) (g : mg_F), Rm c0 F0 g → KP (Rm c0 F0) (L_X5_begin_133 a1 a2 k n v0 g) := by
  intro n
  induction n with
  | zero => intro v0 g _; rw [L_X5_begin_133]; exact kp_none
  | succ n ih =>
    intro v0 g h
    rw [L_X5_begin_133]
    repeat' first
      | assumption
      | (with_reducible refine kp_some ?_)
      | (with_reducible refine kp_ck ?_)
      | (with_reducible refine kp_ite ?_ ?_)
      | (with_reducible refine kp_wr ?_ (fun _ _ => ?_))
      | (with_reducible refine kp_jn (fun _ _ _ => ?_) (fun _ _ => ?_))
      | (with_reducible refine rm_up (by decide) (by decide) ?_)
      | (with_reducible exact ih _ _ (by assumption))
      | (with_reducible exact hk _ _ (by assumption))
      | (with_reducible exact km_X5_placeOf (by assumption))
      | (with_reducible refine kp_bd ?_ (fun _ _ _ => ?_))
      | apply_assumption
theorem km_X5_begin {c0 : Nat} {F0 : Nat → Nat} {a : Nat} {g : mg_F} (h : Rm c0 F0 g) : KP (Rm c0 F0) (P_X5_begin a g) := by
  unfold P_X5_begin
  repeat' first
    | assumption
    | (with_reducible refine kp_some ?_)
    | (with_reducible refine kp_ck ?_)
    | (with_reducible refine kp_ite ?_ ?_)
    | (with_reducible refine kp_wr ?_ (fun _ _ => ?_))
    | (with_reducible refine kp_jn (fun _ _ _ => ?_) (fun _ _ => ?_))
    | (with_reducible refine rm_up (by decide) (by decide) ?_)
    | (with_reducible refine kml_X5_begin_133 (fun _ _ _ => ?_) _ _ _ (by assumption))
    | (with_reducible exact km_X5_entry (by assumption))
    | (with_reducible exact km_X5_firstOf (by assumption))
    | (with_reducible exact km_X5_isUp (by assumption))
    | (with_reducible exact km_X5_leave (by assumption))
    | (with_reducible exact km_X5_placeOf (by assumption))
    | (with_reducible refine kp_bd ?_ (fun _ _ _ => ?_))
    | apply_assumption
theorem km_X5_stop {c0 : Nat} {F0 : Nat → Nat} {a : Nat} {g : mg_F} (h : Rm c0 F0 g) : KP (Rm c0 F0) (P_X5_stop a g) := by
  unfold P_X5_stop
  repeat' first
    | assumption
    | (with_reducible refine kp_some ?_)
    | (with_reducible refine kp_ck ?_)
    | (with_reducible refine kp_ite ?_ ?_)
    | (with_reducible refine kp_wr ?_ (fun _ _ => ?_))
    | (with_reducible refine kp_jn (fun _ _ _ => ?_) (fun _ _ => ?_))
    | (with_reducible refine rm_up (by decide) (by decide) ?_)
    | (with_reducible refine kp_bd ?_ (fun _ _ _ => ?_))
    | apply_assumption
theorem km_X5_end {c0 : Nat} {F0 : Nat → Nat} {a : Nat} {g : mg_F} (h : Rm c0 F0 g) : KP (Rm c0 F0) (P_X5_end a g) := by
  unfold P_X5_end
  repeat' first
    | assumption
    | (with_reducible refine kp_some ?_)
    | (with_reducible refine kp_ck ?_)
    | (with_reducible refine kp_ite ?_ ?_)
    | (with_reducible refine kp_wr ?_ (fun _ _ => ?_))
    | (with_reducible refine kp_jn (fun _ _ _ => ?_) (fun _ _ => ?_))
    | (with_reducible refine rm_up (by decide) (by decide) ?_)
    | (with_reducible exact km_X5_isStation (by assumption))
    | (with_reducible exact km_X5_stop (by assumption))
    | (with_reducible refine kp_bd ?_ (fun _ _ _ => ?_))
    | apply_assumption
theorem km_X5_step {c0 : Nat} {F0 : Nat → Nat} {a : Nat} {g : mg_F} (h : Rm c0 F0 g) : KP (Rm c0 F0) (P_X5_step a g) := by
  unfold P_X5_step
  repeat' first
    | assumption
    | (with_reducible refine kp_some ?_)
    | (with_reducible refine kp_ck ?_)
    | (with_reducible refine kp_ite ?_ ?_)
    | (with_reducible refine kp_wr ?_ (fun _ _ => ?_))
    | (with_reducible refine kp_jn (fun _ _ _ => ?_) (fun _ _ => ?_))
    | (with_reducible refine rm_up (by decide) (by decide) ?_)
    | (with_reducible exact km_X5_entry (by assumption))
    | (with_reducible exact km_X5_firstOf (by assumption))
    | (with_reducible exact km_X5_greatest (by assumption))
    | (with_reducible exact km_X5_isUp (by assumption))
    | (with_reducible exact km_X5_leave (by assumption))
    | (with_reducible exact km_X5_write (by assumption))
    | (with_reducible exact km_X5_writeAsk (by assumption))
    | (with_reducible refine kp_bd ?_ (fun _ _ _ => ?_))
    | apply_assumption
theorem km_X5_deliver {c0 : Nat} {F0 : Nat → Nat} {a : Nat} {g : mg_F} (h : Rm c0 F0 g) : KP (Rm c0 F0) (P_X5_deliver a g) := by
  unfold P_X5_deliver
  repeat' first
    | assumption
    | (with_reducible refine kp_some ?_)
    | (with_reducible refine kp_ck ?_)
    | (with_reducible refine kp_ite ?_ ?_)
    | (with_reducible refine kp_wr ?_ (fun _ _ => ?_))
    | (with_reducible refine kp_jn (fun _ _ _ => ?_) (fun _ _ => ?_))
    | (with_reducible refine rm_up (by decide) (by decide) ?_)
    | (with_reducible exact km_X5_come (by assumption))
    | (with_reducible exact km_X5_dropCopy (by assumption))
    | (with_reducible exact km_X5_dropLetter (by assumption))
    | (with_reducible exact km_X5_firstLetter (by assumption))
    | (with_reducible exact km_X5_send (by assumption))
    | (with_reducible exact km_X5_sendFirst (by assumption))
    | (with_reducible refine kp_bd ?_ (fun _ _ _ => ?_))
    | apply_assumption
theorem km_X5_lose {c0 : Nat} {F0 : Nat → Nat} {a : Nat} {g : mg_F} (h : Rm c0 F0 g) : KP (Rm c0 F0) (P_X5_lose a g) := by
  unfold P_X5_lose
  repeat' first
    | assumption
    | (with_reducible refine kp_some ?_)
    | (with_reducible refine kp_ck ?_)
    | (with_reducible refine kp_ite ?_ ?_)
    | (with_reducible refine kp_wr ?_ (fun _ _ => ?_))
    | (with_reducible refine kp_jn (fun _ _ _ => ?_) (fun _ _ => ?_))
    | (with_reducible refine rm_up (by decide) (by decide) ?_)
    | (with_reducible exact km_X5_dropCopy (by assumption))
    | (with_reducible refine kp_bd ?_ (fun _ _ _ => ?_))
    | apply_assumption
theorem km_X5_twin {c0 : Nat} {F0 : Nat → Nat} {a : Nat} {g : mg_F} (h : Rm c0 F0 g) : KP (Rm c0 F0) (P_X5_twin a g) := by
  unfold P_X5_twin
  repeat' first
    | assumption
    | (with_reducible refine kp_some ?_)
    | (with_reducible refine kp_ck ?_)
    | (with_reducible refine kp_ite ?_ ?_)
    | (with_reducible refine kp_wr ?_ (fun _ _ => ?_))
    | (with_reducible refine kp_jn (fun _ _ _ => ?_) (fun _ _ => ?_))
    | (with_reducible refine rm_up (by decide) (by decide) ?_)
    | (with_reducible exact km_X5_send (by assumption))
    | (with_reducible refine kp_bd ?_ (fun _ _ _ => ?_))
    | apply_assumption
theorem kml_X5_resend_12 {c0 : Nat} {F0 : Nat → Nat} {a1 : Nat} {k : Nat → mg_F → mo} (hk : ∀ (v0 : Nat) (g : mg_F), Rm c0 F0 g → KP (Rm c0 F0) (k v0 g)) : ∀ (n v0 : Nat) (g : mg_F), Rm c0 F0 g → KP (Rm c0 F0) (L_X5_resend_12 a1 k n v0 g) := by
  intro n
  induction n with
  | zero => intro v0 g _; rw [L_X5_resend_12]; exact kp_none
  | succ n ih =>
    intro v0 g h
    rw [L_X5_resend_12]
    repeat' first
      | assumption
      | (with_reducible refine kp_some ?_)
      | (with_reducible refine kp_ck ?_)
      | (with_reducible refine kp_ite ?_ ?_)
      | (with_reducible refine kp_wr ?_ (fun _ _ => ?_))
      | (with_reducible refine kp_jn (fun _ _ _ => ?_) (fun _ _ => ?_))
      | (with_reducible refine rm_up (by decide) (by decide) ?_)
      | (with_reducible exact ih _ _ (by assumption))
      | (with_reducible exact hk _ _ (by assumption))
      | (with_reducible exact km_X5_sendFirst (by assumption))
      | (with_reducible refine kp_bd ?_ (fun _ _ _ => ?_))
      | apply_assumption
theorem km_X5_resend {c0 : Nat} {F0 : Nat → Nat} {a : Nat} {g : mg_F} (h : Rm c0 F0 g) : KP (Rm c0 F0) (P_X5_resend a g) := by
  unfold P_X5_resend
  repeat' first
    | assumption
    | (with_reducible refine kp_some ?_)
    | (with_reducible refine kp_ck ?_)
    | (with_reducible refine kp_ite ?_ ?_)
    | (with_reducible refine kp_wr ?_ (fun _ _ => ?_))
    | (with_reducible refine kp_jn (fun _ _ _ => ?_) (fun _ _ => ?_))
    | (with_reducible refine rm_up (by decide) (by decide) ?_)
    | (with_reducible refine kml_X5_resend_12 (fun _ _ _ => ?_) _ _ _ (by assumption))
    | (with_reducible exact km_X5_isUp (by assumption))
    | (with_reducible refine kp_bd ?_ (fun _ _ _ => ?_))
    | apply_assumption
theorem km_X5_crash {c0 : Nat} {F0 : Nat → Nat} {a : Nat} {g : mg_F} (h : Rm c0 F0 g) : KP (Rm c0 F0) (P_X5_crash a g) := by
  unfold P_X5_crash
  repeat' first
    | assumption
    | (with_reducible refine kp_some ?_)
    | (with_reducible refine kp_ck ?_)
    | (with_reducible refine kp_ite ?_ ?_)
    | (with_reducible refine kp_wr ?_ (fun _ _ => ?_))
    | (with_reducible refine kp_jn (fun _ _ _ => ?_) (fun _ _ => ?_))
    | (with_reducible refine rm_up (by decide) (by decide) ?_)
    | (with_reducible exact km_X5_isUp (by assumption))
    | (with_reducible exact km_X5_stop (by assumption))
    | (with_reducible refine kp_bd ?_ (fun _ _ _ => ?_))
    | apply_assumption
theorem km_X5_restart {c0 : Nat} {F0 : Nat → Nat} {a : Nat} {g : mg_F} (h : Rm c0 F0 g) : KP (Rm c0 F0) (P_X5_restart a g) := by
  unfold P_X5_restart
  repeat' first
    | assumption
    | (with_reducible refine kp_some ?_)
    | (with_reducible refine kp_ck ?_)
    | (with_reducible refine kp_ite ?_ ?_)
    | (with_reducible refine kp_wr ?_ (fun _ _ => ?_))
    | (with_reducible refine kp_jn (fun _ _ _ => ?_) (fun _ _ => ?_))
    | (with_reducible refine rm_up (by decide) (by decide) ?_)
    | (with_reducible exact km_X5_isStation (by assumption))
    | (with_reducible refine kp_bd ?_ (fun _ _ _ => ?_))
    | apply_assumption
theorem kml_X5_rightAt_2 {c0 : Nat} {F0 : Nat → Nat} {k : Nat → mg_F → mo} (hk : ∀ (v0 : Nat) (g : mg_F), Rm c0 F0 g → KP (Rm c0 F0) (k v0 g)) : ∀ (n v0 : Nat) (g : mg_F), Rm c0 F0 g → KP (Rm c0 F0) (L_X5_rightAt_2 k n v0 g) := by
  intro n
  induction n with
  | zero => intro v0 g _; rw [L_X5_rightAt_2]; exact kp_none
  | succ n ih =>
    intro v0 g h
    rw [L_X5_rightAt_2]
    repeat' first
      | assumption
      | (with_reducible refine kp_some ?_)
      | (with_reducible refine kp_ck ?_)
      | (with_reducible refine kp_ite ?_ ?_)
      | (with_reducible refine kp_wr ?_ (fun _ _ => ?_))
      | (with_reducible refine kp_jn (fun _ _ _ => ?_) (fun _ _ => ?_))
      | (with_reducible refine rm_up (by decide) (by decide) ?_)
      | (with_reducible exact ih _ _ (by assumption))
      | (with_reducible exact hk _ _ (by assumption))
      | (with_reducible refine kp_bd ?_ (fun _ _ _ => ?_))
      | apply_assumption
theorem kml_X5_rightAt_33 {c0 : Nat} {F0 : Nat → Nat} {k : Nat → Nat → mg_F → mo} (hk : ∀ (v0 v1 : Nat) (g : mg_F), Rm c0 F0 g → KP (Rm c0 F0) (k v0 v1 g)) : ∀ (n v0 v1 : Nat) (g : mg_F), Rm c0 F0 g → KP (Rm c0 F0) (L_X5_rightAt_33 k n v0 v1 g) := by
  intro n
  induction n with
  | zero => intro v0 v1 g _; rw [L_X5_rightAt_33]; exact kp_none
  | succ n ih =>
    intro v0 v1 g h
    rw [L_X5_rightAt_33]
    repeat' first
      | assumption
      | (with_reducible refine kp_some ?_)
      | (with_reducible refine kp_ck ?_)
      | (with_reducible refine kp_ite ?_ ?_)
      | (with_reducible refine kp_wr ?_ (fun _ _ => ?_))
      | (with_reducible refine kp_jn (fun _ _ _ => ?_) (fun _ _ => ?_))
      | (with_reducible refine rm_up (by decide) (by decide) ?_)
      | (with_reducible exact ih _ _ _ (by assumption))
      | (with_reducible exact hk _ _ _ (by assumption))
      | (with_reducible refine kp_bd ?_ (fun _ _ _ => ?_))
      | apply_assumption
theorem km_X5_rightAt {c0 : Nat} {F0 : Nat → Nat} {g : mg_F} (h : Rm c0 F0 g) : KP (Rm c0 F0) (P_X5_rightAt g) := by
  unfold P_X5_rightAt
  repeat' first
    | assumption
    | (with_reducible refine kp_some ?_)
    | (with_reducible refine kp_ck ?_)
    | (with_reducible refine kp_ite ?_ ?_)
    | (with_reducible refine kp_wr ?_ (fun _ _ => ?_))
    | (with_reducible refine kp_jn (fun _ _ _ => ?_) (fun _ _ => ?_))
    | (with_reducible refine rm_up (by decide) (by decide) ?_)
    | (with_reducible refine kml_X5_rightAt_2 (fun _ _ _ => ?_) _ _ _ (by assumption))
    | (with_reducible refine kml_X5_rightAt_33 (fun _ _ _ _ => ?_) _ _ _ _ (by assumption))
    | (with_reducible refine kp_bd ?_ (fun _ _ _ => ?_))
    | apply_assumption
theorem kml_X5_holder_14 {c0 : Nat} {F0 : Nat → Nat} {k : Nat → Nat → mg_F → mo} (hk : ∀ (v0 v1 : Nat) (g : mg_F), Rm c0 F0 g → KP (Rm c0 F0) (k v0 v1 g)) : ∀ (n v0 v1 : Nat) (g : mg_F), Rm c0 F0 g → KP (Rm c0 F0) (L_X5_holder_14 k n v0 v1 g) := by
  intro n
  induction n with
  | zero => intro v0 v1 g _; rw [L_X5_holder_14]; exact kp_none
  | succ n ih =>
    intro v0 v1 g h
    rw [L_X5_holder_14]
    repeat' first
      | assumption
      | (with_reducible refine kp_some ?_)
      | (with_reducible refine kp_ck ?_)
      | (with_reducible refine kp_ite ?_ ?_)
      | (with_reducible refine kp_wr ?_ (fun _ _ => ?_))
      | (with_reducible refine kp_jn (fun _ _ _ => ?_) (fun _ _ => ?_))
      | (with_reducible refine rm_up (by decide) (by decide) ?_)
      | (with_reducible exact ih _ _ _ (by assumption))
      | (with_reducible exact hk _ _ _ (by assumption))
      | (with_reducible refine kp_bd ?_ (fun _ _ _ => ?_))
      | apply_assumption
theorem km_X5_holder {c0 : Nat} {F0 : Nat → Nat} {g : mg_F} (h : Rm c0 F0 g) : KP (Rm c0 F0) (P_X5_holder g) := by
  unfold P_X5_holder
  repeat' first
    | assumption
    | (with_reducible refine kp_some ?_)
    | (with_reducible refine kp_ck ?_)
    | (with_reducible refine kp_ite ?_ ?_)
    | (with_reducible refine kp_wr ?_ (fun _ _ => ?_))
    | (with_reducible refine kp_jn (fun _ _ _ => ?_) (fun _ _ => ?_))
    | (with_reducible refine rm_up (by decide) (by decide) ?_)
    | (with_reducible refine kml_X5_holder_14 (fun _ _ _ _ => ?_) _ _ _ _ (by assumption))
    | (with_reducible refine kp_bd ?_ (fun _ _ _ => ?_))
    | apply_assumption
theorem km_X5_pointer {c0 : Nat} {F0 : Nat → Nat} {a : Nat} {g : mg_F} (h : Rm c0 F0 g) : KP (Rm c0 F0) (P_X5_pointer a g) := by
  unfold P_X5_pointer
  repeat' first
    | assumption
    | (with_reducible refine kp_some ?_)
    | (with_reducible refine kp_ck ?_)
    | (with_reducible refine kp_ite ?_ ?_)
    | (with_reducible refine kp_wr ?_ (fun _ _ => ?_))
    | (with_reducible refine kp_jn (fun _ _ _ => ?_) (fun _ _ => ?_))
    | (with_reducible refine rm_up (by decide) (by decide) ?_)
    | (with_reducible exact km_X5_isStation (by assumption))
    | (with_reducible refine kp_bd ?_ (fun _ _ _ => ?_))
    | apply_assumption
theorem km_X5_queue {c0 : Nat} {F0 : Nat → Nat} {a b c : Nat} {g : mg_F} (h : Rm c0 F0 g) : KP (Rm c0 F0) (P_X5_queue a b c g) := by
  unfold P_X5_queue
  repeat' first
    | assumption
    | (with_reducible refine kp_some ?_)
    | (with_reducible refine kp_ck ?_)
    | (with_reducible refine kp_ite ?_ ?_)
    | (with_reducible refine kp_wr ?_ (fun _ _ => ?_))
    | (with_reducible refine kp_jn (fun _ _ _ => ?_) (fun _ _ => ?_))
    | (with_reducible refine rm_up (by decide) (by decide) ?_)
    | (with_reducible exact km_X5_entry (by assumption))
    | (with_reducible exact km_X5_isStation (by assumption))
    | (with_reducible refine kp_bd ?_ (fun _ _ _ => ?_))
    | apply_assumption
theorem km_X5_letter {c0 : Nat} {F0 : Nat → Nat} {a b : Nat} {g : mg_F} (h : Rm c0 F0 g) : KP (Rm c0 F0) (P_X5_letter a b g) := by
  unfold P_X5_letter
  repeat' first
    | assumption
    | (with_reducible refine kp_some ?_)
    | (with_reducible refine kp_ck ?_)
    | (with_reducible refine kp_ite ?_ ?_)
    | (with_reducible refine kp_wr ?_ (fun _ _ => ?_))
    | (with_reducible refine kp_jn (fun _ _ _ => ?_) (fun _ _ => ?_))
    | (with_reducible refine rm_up (by decide) (by decide) ?_)
    | (with_reducible refine kp_bd ?_ (fun _ _ _ => ?_))
    | apply_assumption
theorem kml_X5_told_159 {c0 : Nat} {F0 : Nat → Nat} {a1 a2 : Nat} {k : Nat → Nat → mg_F → mo} (hk : ∀ (v0 v1 : Nat) (g : mg_F), Rm c0 F0 g → KP (Rm c0 F0) (k v0 v1 g)) : ∀ (n v0 v1 : Nat) (g : mg_F), Rm c0 F0 g → KP (Rm c0 F0) (L_X5_told_159 a1 a2 k n v0 v1 g) := by
  intro n
  induction n with
  | zero => intro v0 v1 g _; rw [L_X5_told_159]; exact kp_none
  | succ n ih =>
    intro v0 v1 g h
    rw [L_X5_told_159]
    repeat' first
      | assumption
      | (with_reducible refine kp_some ?_)
      | (with_reducible refine kp_ck ?_)
      | (with_reducible refine kp_ite ?_ ?_)
      | (with_reducible refine kp_wr ?_ (fun _ _ => ?_))
      | (with_reducible refine kp_jn (fun _ _ _ => ?_) (fun _ _ => ?_))
      | (with_reducible refine rm_up (by decide) (by decide) ?_)
      | (with_reducible exact ih _ _ _ (by assumption))
      | (with_reducible exact hk _ _ _ (by assumption))
      | (with_reducible refine kp_bd ?_ (fun _ _ _ => ?_))
      | apply_assumption
theorem kml_X5_told_201 {c0 : Nat} {F0 : Nat → Nat} {a1 a2 : Nat} {k : Nat → Nat → mg_F → mo} (hk : ∀ (v0 v1 : Nat) (g : mg_F), Rm c0 F0 g → KP (Rm c0 F0) (k v0 v1 g)) : ∀ (n v0 v1 : Nat) (g : mg_F), Rm c0 F0 g → KP (Rm c0 F0) (L_X5_told_201 a1 a2 k n v0 v1 g) := by
  intro n
  induction n with
  | zero => intro v0 v1 g _; rw [L_X5_told_201]; exact kp_none
  | succ n ih =>
    intro v0 v1 g h
    rw [L_X5_told_201]
    repeat' first
      | assumption
      | (with_reducible refine kp_some ?_)
      | (with_reducible refine kp_ck ?_)
      | (with_reducible refine kp_ite ?_ ?_)
      | (with_reducible refine kp_wr ?_ (fun _ _ => ?_))
      | (with_reducible refine kp_jn (fun _ _ _ => ?_) (fun _ _ => ?_))
      | (with_reducible refine rm_up (by decide) (by decide) ?_)
      | (with_reducible exact ih _ _ _ (by assumption))
      | (with_reducible exact hk _ _ _ (by assumption))
      | (with_reducible refine kp_bd ?_ (fun _ _ _ => ?_))
      | apply_assumption
theorem km_X5_told {c0 : Nat} {F0 : Nat → Nat} {a b : Nat} {g : mg_F} (h : Rm c0 F0 g) : KP (Rm c0 F0) (P_X5_told a b g) := by
  unfold P_X5_told
  repeat' first
    | assumption
    | (with_reducible refine kp_some ?_)
    | (with_reducible refine kp_ck ?_)
    | (with_reducible refine kp_ite ?_ ?_)
    | (with_reducible refine kp_wr ?_ (fun _ _ => ?_))
    | (with_reducible refine kp_jn (fun _ _ _ => ?_) (fun _ _ => ?_))
    | (with_reducible refine rm_up (by decide) (by decide) ?_)
    | (with_reducible refine kml_X5_told_159 (fun _ _ _ _ => ?_) _ _ _ _ (by assumption))
    | (with_reducible refine kml_X5_told_201 (fun _ _ _ _ => ?_) _ _ _ _ (by assumption))
    | (with_reducible exact km_X5_isStation (by assumption))
    | (with_reducible refine kp_bd ?_ (fun _ _ _ => ?_))
    | apply_assumption
theorem kml_X5_count_43 {c0 : Nat} {F0 : Nat → Nat} {a1 : Nat} {k : Nat → Nat → mg_F → mo} (hk : ∀ (v0 v1 : Nat) (g : mg_F), Rm c0 F0 g → KP (Rm c0 F0) (k v0 v1 g)) : ∀ (n v0 v1 : Nat) (g : mg_F), Rm c0 F0 g → KP (Rm c0 F0) (L_X5_count_43 a1 k n v0 v1 g) := by
  intro n
  induction n with
  | zero => intro v0 v1 g _; rw [L_X5_count_43]; exact kp_none
  | succ n ih =>
    intro v0 v1 g h
    rw [L_X5_count_43]
    repeat' first
      | assumption
      | (with_reducible refine kp_some ?_)
      | (with_reducible refine kp_ck ?_)
      | (with_reducible refine kp_ite ?_ ?_)
      | (with_reducible refine kp_wr ?_ (fun _ _ => ?_))
      | (with_reducible refine kp_jn (fun _ _ _ => ?_) (fun _ _ => ?_))
      | (with_reducible refine rm_up (by decide) (by decide) ?_)
      | (with_reducible exact ih _ _ _ (by assumption))
      | (with_reducible exact hk _ _ _ (by assumption))
      | (with_reducible refine kp_bd ?_ (fun _ _ _ => ?_))
      | apply_assumption
theorem km_X5_count {c0 : Nat} {F0 : Nat → Nat} {a : Nat} {g : mg_F} (h : Rm c0 F0 g) : KP (Rm c0 F0) (P_X5_count a g) := by
  unfold P_X5_count
  repeat' first
    | assumption
    | (with_reducible refine kp_some ?_)
    | (with_reducible refine kp_ck ?_)
    | (with_reducible refine kp_ite ?_ ?_)
    | (with_reducible refine kp_wr ?_ (fun _ _ => ?_))
    | (with_reducible refine kp_jn (fun _ _ _ => ?_) (fun _ _ => ?_))
    | (with_reducible refine rm_up (by decide) (by decide) ?_)
    | (with_reducible refine kml_X5_count_43 (fun _ _ _ _ => ?_) _ _ _ _ (by assumption))
    | (with_reducible exact km_X5_part (by assumption))
    | (with_reducible exact km_X5_rightAt (by assumption))
    | (with_reducible refine kp_bd ?_ (fun _ _ _ => ?_))
    | apply_assumption
