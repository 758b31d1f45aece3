/-! ===== canal, link, open ===== -/
theorem cnt_all (n : Nat) : cnt (fun s => s == s) n = n := by
  induction n with
  | zero => rfl
  | succ n ih => rw [cnt, ih]; simp
section BUILD
variable {B : mg_F × mg_F} {N : Nat} {gc gm : mg_F}
theorem m_canal {a : Nat} {g : mg_F} : L_X5_canal_30 a (fun w6 g7 => some (0, g7)) 4000 0 g = some (0, aw g 35 0 0 (fun _ => 0) 576) := by
  obtain ⟨x, e1, e2⟩ := lp_ex (L := fun n x v => L_X5_canal_30 a (fun w6 g7 => some (0, g7)) n v x) (K := fun x => some (0, x)) (I := fun v x => x = aw g 35 0 0 (fun _ => 0) v) (N := 576) (by
    intro n x v hv hx
    subst hx
    refine ⟨_, ?_, aw_s g 35 0 0 (fun _ => 0) v (Nat.zero_le _)⟩
    show L_X5_canal_30 a _ (n + 1) v _ = _
    rw [L_X5_canal_30, if_pos ((sv_ltN (by omega) (by omega)).mpr hv), ck_t hv, wr_s]) (by
    intro n x hx
    show L_X5_canal_30 a _ (n + 1) 576 x = _
    rw [L_X5_canal_30, if_neg (by omega)]) 576 4000 g 0 (by omega) (by omega) (aw_0 _ _ _ _ _).symm
  rw [e1] at e2
  exact e2
theorem s_canal {a : Nat} (h : TT B N gc gm) (ha : a < 4294967296) : SM B (N + 2) (P_X4_canal a gc) (P_X5_canal a gm) := by
  have e1 := sv_om ha
  by_cases c1 : sv a < sv 2
  · exact SM_e h (by unfold P_X4_canal; rw [if_pos c1]) (by unfold P_X5_canal; rw [if_pos c1])
  · by_cases c2 : sv 24 < sv a
    · exact SM_e h (by unfold P_X4_canal; rw [if_neg c1, if_pos c2]) (by unfold P_X5_canal; rw [if_neg c1, if_pos c2])
    · have hr : 2 ≤ a ∧ a < 25 := by
        rw [sv_l2] at c1; rw [sv_l24] at c2; omega
      refine ⟨0, mg_up (mg_up (mg_upr (mg_up gc 4 0 6 0) 10 0 (mg_fl ((mg_up gc 4 0 6 0) 10 0) 24 0)) 0 0 1 a) 0 0 2 0, 0, aw (mg_up (mg_up (mg_up gm 5 0 0 a) 5 0 1 0) 5 0 4 0) 35 0 0 (fun _ => 0) 576, ?_, ?_, rfl, ?_⟩
      · unfold P_X4_canal P_X0_clear P_fill
        rw [if_neg c1, if_neg c2, wr_s, bd_s, wr_s, wr_s, bd_s]
      · unfold P_X5_canal
        rw [if_neg c1, if_neg c2, wr_s, wr_s, wr_s, m_canal]
      · have z35 : ∀ j, j < 576 → aw (mg_up (mg_up (mg_up gm 5 0 0 a) 5 0 1 0) 5 0 4 0) 35 0 0 (fun _ => 0) 576 35 0 j = 0 := fun j hj => by
          unfold aw; rw [if_pos ⟨rfl, rfl, Nat.zero_le _, hj⟩]
        have zk : ∀ k i j, k ≠ 35 → aw (mg_up (mg_up (mg_up gm 5 0 0 a) 5 0 1 0) 5 0 4 0) 35 0 0 (fun _ => 0) 576 k i j = mg_up (mg_up (mg_up gm 5 0 0 a) 5 0 1 0) 5 0 4 0 k i j := fun k i j hk => by
          unfold aw; rw [if_neg (fun q => hk q.1)]
        have z0 : aw (mg_up (mg_up (mg_up gm 5 0 0 a) 5 0 1 0) 5 0 4 0) 35 0 0 (fun _ => 0) 576 5 0 0 = a := by rw [zk _ _ _ (by omega)]; simp [ue]
        have z1 : aw (mg_up (mg_up (mg_up gm 5 0 0 a) 5 0 1 0) 5 0 4 0) 35 0 0 (fun _ => 0) 576 5 0 1 = 0 := by rw [zk _ _ _ (by omega)]; simp [ue]
        have z4 : aw (mg_up (mg_up (mg_up gm 5 0 0 a) 5 0 1 0) 5 0 4 0) 35 0 0 (fun _ => 0) 576 5 0 4 = 0 := by rw [zk _ _ _ (by omega)]; simp [ue]
        have c10 : ∀ x, x < 24 → mg_up (mg_up (mg_upr (mg_up gc 4 0 6 0) 10 0 (mg_fl ((mg_up gc 4 0 6 0) 10 0) 24 0)) 0 0 1 a) 0 0 2 0 10 0 x = 0 := fun x hx => by
          rw [ue, if_neg (by omega), ue, if_neg (by omega), ure, if_pos ⟨rfl, rfl⟩]
          unfold mg_fl; rw [if_pos hx]
        have noAJ : ∀ x y, ¬ AJ (aw (mg_up (mg_up (mg_up gm 5 0 0 a) 5 0 1 0) 5 0 4 0) 35 0 0 (fun _ => 0) 576) x y := fun x y q => by
          have := q.2.2
          have q1 := q.1
          have q2 := q.2.1
          rw [z35 _ (by omega)] at this; omega
        refine ⟨⟨fun k i j hk => ?_, fun k i j hk => ?_⟩, ⟨?_, ?_, ?_, ?_, ?_, ?_⟩, ⟨fun u v hu hv => ?_, fun u hu => ?_, fun u v hu hv q => ?_⟩, fun q => ?_, fun _ => ?_⟩
        · rw [ue, if_neg (by omega), ue, if_neg (by omega), ure, if_neg (by omega), ue, if_neg (by omega)]; exact h.1.1 k i j hk
        · rw [zk k i j (by omega), ue, if_neg (by omega), ue, if_neg (by omega), ue, if_neg (by omega)]; exact h.1.2 k i j hk
        · rw [z1]; simp [ue, ure]
        · rw [z1]; omega
        · rw [z0]; simp [ue]
        · rw [z0]; exact hr.1
        · rw [z0]; exact hr.2
        · rw [z4]; simp [ue]
        · rw [z35 _ (by omega), c10 u hu, Nat.zero_testBit]; rfl
        · rw [c10 u hu]; omega
        · rw [z35 _ (by omega)] at q; omega
        · rw [z1] at q; omega
        · refine ⟨by rw [z4]; simp [ue], fun x => x, fun _ => 4294967294, fun _ => 0, ⟨fun x hx => ⟨Nat.le_refl _, rch_refl⟩, fun x y q => absurd q (noAJ x y)⟩, ?_, fun x hx => Or.inl rfl, fun x y q => absurd q (noAJ x y)⟩
          rw [z0, z4, Nat.add_zero]; exact cnt_all a
/-- the path to the root, in a forest without a holder -/
theorem root_path {n e : Nat} {A : Nat → Nat → Prop} {p d Lb : Nat → Nat} (hn : n < 25) (he : e < n) (hL : ∀ a b, A a b → Lb a = Lb b) (hp : ∀ x, x < n → p x = 4294967294 ∨ (p x < n ∧ A x (p x) ∧ d (p x) < d x)) : ∃ m, m < n ∧ (∀ i, i ≤ m → pit p e i < n ∧ Lb (pit p e i) = Lb e) ∧ p (pit p e m) = 4294967294 ∧ (∀ i j, i ≤ m → j ≤ m → pit p e i = pit p e j → i = j) := by
  obtain ⟨m, q1, q2, q3⟩ := path_ex (n := n) (s := n) (p := p) (d := d) (Lb := fun x => if x = n then Lb e + 1 else Lb x) (fun x hx => by
    rcases hp x hx with q | q
    · left; exact q
    · right; right
      refine ⟨q.1, ?_⟩
      show (if p x = n then _ else Lb (p x)) = (if x = n then _ else Lb x)
      rw [if_neg (by omega), if_neg (by omega)]
      exact (hL _ _ q.2.1).symm) (fun x hx hx2 _ => by
    rcases hp x hx with q | q
    · exact absurd q hx2
    · exact q.2.2) (d e + 1) e (by omega) he (by
    show (if e = n then _ else Lb e) ≠ (if n = n then Lb e + 1 else _)
    rw [if_neg (by omega), if_pos rfl]; omega)
  have inj := path_inj (p := p) (d := d) (e := e) (m := m) q3
  have hm : m < n := by
    have := pigeon n (m + 1) (pit p e) (fun i hi => (q1 i (by omega)).1) (fun i j hi hj => inj i j (by omega) (by omega))
    omega
  refine ⟨m, hm, fun i hi => ⟨(q1 i hi).1, ?_⟩, q2, inj⟩
  have t := (q1 i hi).2
  have t' : (if pit p e i = n then Lb e + 1 else Lb (pit p e i)) = (if e = n then Lb e + 1 else Lb e) := t
  have := (q1 i hi).1
  rw [if_neg (by omega), if_neg (by omega)] at t'
  exact t'
theorem s_link {a b : Nat} (h : TT B N gc gm) (ha : a < 4294967296) (hb : b < 4294967296) : SM B (N + 2) (P_X4_link a b gc) (P_X5_link a b gm) := by
  obtain ⟨g', p1, p2, p3⟩ := part_ok h
  have hT := TT_61 h p2
  have n0 : g' 5 0 0 = gm 5 0 0 := p2 5 0 0 (by omega)
  have hAJ : AJ g' = AJ gm := by funext x y; unfold AJ; rw [p2 35 0 _ (by omega)]
  rw [← n0, ← hAJ] at p3
  rw [← n0] at p1
  obtain ⟨j1, j2, j3, j4⟩ := AJ_n hT.2.2.1
  obtain ⟨g1, g2, g3, g4, g5, g6⟩ := hT.2.1
  by_cases ho : g' 5 0 1 = 1
  · have no : ¬ sv (g' 5 0 1) = 0 := cl_o ho rfl
    have noc : ¬ sv (gc 4 0 6) = 0 := by rw [g1]; exact no
    exact SM_61 (r := 4294967295) h p2 (by unfold P_X4_link; rw [if_neg noc]) (by unfold P_X5_link; rw [p1, bd_s, if_neg no])
  · obtain ⟨o1, o2⟩ := op0 hT ho
    have oc : sv (gc 4 0 6) = 0 := by rw [o2, sv_0]
    have hz : g' 5 0 1 = 0 := by omega
    have qa : P_X0_has a gc = some (if a < g' 5 0 0 then 1 else 0, gc) := by rw [q_has ha (by omega), g3]
    have qb : P_X0_has b gc = some (if b < g' 5 0 0 then 1 else 0, gc) := by rw [q_has hb (by omega), g3]
    by_cases hs : a < g' 5 0 0
    · by_cases ht : b < g' 5 0 0
      · have a24 : a < 24 := by omega
        have b24 : b < 24 := by omega
        obtain ⟨ra, ra1, ra2, ra3⟩ := q_partOf (s := a) (n := g' 5 0 0) (g := gc) (A := AJ g') j4 hT.2.2.1.2.1 g3 g5 hs j1 j2
        have lla := (p3.1 a hs).1
        have llb := (p3.1 b ht).1
        by_cases hlab : g' 61 0 a = g' 61 0 b
        · have hbit : ra.testBit b = true := (ra3 b ht).mpr ((LBL_iff p3 hs ht).mp hlab)
          exact SM_61 (r := 4294967295) h p2 (by unfold P_X4_link; rw [if_pos oc, qa, bd_s, if_pos hs, if_neg sv10, qb, bd_s, if_pos ht, if_neg sv10, ra1, bd_s, q_cont (by omega) (by omega), bd_s, if_pos hbit, if_neg sv10]) (by unfold P_X5_link; rw [p1, bd_s, if_pos o1, st_m hT ha, bd_s, if_pos hs, if_neg sv10, st_m hT hb, bd_s, if_pos ht, if_neg sv10, ck_t a24, ck_t b24, if_pos (by rw [hlab])])
        · have hbit : ¬ ra.testBit b = true := fun q => hlab ((LBL_iff p3 hs ht).mpr ((ra3 b ht).mp q))
          have hlab' : ¬ sv (g' 61 0 a) = sv (g' 61 0 b) := by rw [sv_eqN (by omega) (by omega)]; exact hlab
          have hab : a ≠ b := fun q => hlab (by rw [q])
          obtain ⟨b1, L, p, d, b2, b3, b4, b5⟩ := hT.2.2.2.2 hz
          obtain ⟨t1, t2, t3⟩ := k_tie hT.1 hT.2.1 hT.2.2.1 hs ht hab
          have hLne : L a ≠ L b := fun q => hlab ((LBL_iff p3 hs ht).mpr ((LBL_iff b2 hs ht).mp q))
          obtain ⟨L', l1, l2⟩ := LBL_add b2 hs ht hLne
          have hAJ' : AJ (mjn g' a b 1 1) = fun x y => AJ g' x y ∨ (x = a ∧ y = b) ∨ (x = b ∧ y = a) := by
            funext x y
            apply propext
            unfold AJ
            constructor
            · intro q
              have q3 := q.2.2
              rw [mjn_35 a24 b24 q.2.1] at q3
              by_cases c : (x = a ∧ y = b) ∨ (x = b ∧ y = a)
              · right; exact c
              · rw [if_neg c] at q3; left; exact ⟨q.1, q.2.1, q3⟩
            · intro q
              rcases q with q | q
              · refine ⟨q.1, q.2.1, ?_⟩
                rw [mjn_35 a24 b24 q.2.1]; split
                · rfl
                · exact q.2.2
              · refine ⟨by omega, by omega, ?_⟩
                rw [mjn_35 a24 b24 (by omega), if_pos q]
          obtain ⟨m, m0, m1, m2, m3⟩ := root_path g5 ht b2.2 b4
          obtain ⟨f, hf⟩ := PF_ex (p := p) (e := b) (m := m) (o := a) (by omega) m3
          obtain ⟨d', hd'⟩ := PF_fall (n := g' 5 0 0) (Lb := L) (d := d) g5 hs (fun q => hLne q.symm) m0 m1 m3 (fun x hx => by
            rcases b4 x hx with q | q
            · left; exact q
            · right; exact ⟨q.1, (b2.2 _ _ q.2.1).symm, q.2.2⟩) hf
          have hedge := PF_edge (A := AJ g') g5 hf m2 j1 b5
          have hn' : mjn g' a b 1 1 5 0 0 = g' 5 0 0 := rfl
          refine ⟨tie gc a b 0 0 2, tie gc a b, mjn g' a b 1 1 5 0 4, mjn g' a b 1 1, ?_, ?_, t2.2.2.2.2.2, t1, t2, t3, fun q => ?_, fun _ => ?_⟩
          · unfold P_X4_link
            rw [if_pos oc, qa, bd_s, if_pos hs, if_neg sv10, qb, bd_s, if_pos ht, if_neg sv10, ra1, bd_s, q_cont (by omega) (by omega), bd_s, if_neg hbit, if_pos sv_0, q_tie a24 b24, bd_s]
          · unfold P_X5_link
            rw [p1, bd_s, if_pos o1, st_m hT ha, bd_s, if_pos hs, if_neg sv10, st_m hT hb, bd_s, if_pos ht, if_neg sv10, ck_t a24, ck_t b24, if_neg hlab', m_j1 a24 b24, bd_s]
          · have : g' 5 0 1 = 1 := q
            exact absurd this ho
          · have e4 : mjn g' a b 1 1 5 0 4 = g' 5 0 4 + 1 := by simp [mjn, ue]
            have e2 : tie gc a b 0 0 2 = gc 0 0 2 + 1 := by simp [tie, ue]
            refine ⟨by rw [e4, e2, b1], L', f, d', ?_, ?_, fun x hx => ?_, fun x y q => ?_⟩
            · rw [hAJ', hn']; exact l1
            · rw [hn', e4]; omega
            · rw [hn'] at hx ⊢
              by_cases c : f x = 4294967294
              · left; exact c
              · right
                have hfx := hd' x hx c
                obtain ⟨f1, f2, f3⟩ := hf
                by_cases cz : ∃ i, i ≤ m ∧ x = pit p b i
                · obtain ⟨i, hi, rfl⟩ := cz
                  cases i with
                  | zero =>
                    have t : f (pit p b 0) = a := f1
                    rw [t] at hfx ⊢
                    refine ⟨hs, ?_, hfx⟩
                    rw [hAJ']; right; right; exact ⟨rfl, rfl⟩
                  | succ i =>
                    have t : f (pit p b (i + 1)) = pit p b i := f2 i (by omega)
                    rw [t] at hfx ⊢
                    have hi2 := (m1 i (by omega)).1
                    refine ⟨hi2, ?_, hfx⟩
                    rw [hAJ']; left
                    rcases b4 _ hi2 with q | q
                    · have t2 : p (pit p b i) = pit p b (i + 1) := rfl
                      have := (m1 (i + 1) hi).1
                      omega
                    · exact j2 _ _ q.2.1
                · have t : f x = p x := f3 x (fun i hi q' => cz ⟨i, hi, q'⟩)
                  rw [t] at hfx c ⊢
                  rcases b4 x hx with q | q
                  · exact absurd q c
                  · refine ⟨q.1, ?_, hfx⟩
                    rw [hAJ']; left; exact q.2.1
            · rw [hAJ'] at q
              rcases q with q | ⟨rfl, rfl⟩ | ⟨rfl, rfl⟩
              · exact hedge x y q
              · right; exact hf.1
              · left; exact hf.1
      · exact SM_61 (r := 4294967295) h p2 (by unfold P_X4_link; rw [if_pos oc, qa, bd_s, if_pos hs, if_neg sv10, qb, bd_s, if_neg ht, if_pos sv_0]) (by unfold P_X5_link; rw [p1, bd_s, if_pos o1, st_m hT ha, bd_s, if_pos hs, if_neg sv10, st_m hT hb, bd_s, if_neg ht, if_pos sv_0])
    · exact SM_61 (r := 4294967295) h p2 (by unfold P_X4_link; rw [if_pos oc, qa, bd_s, if_neg hs, if_pos sv_0]) (by unfold P_X5_link; rw [p1, bd_s, if_pos o1, st_m hT ha, bd_s, if_neg hs, if_pos sv_0])
end BUILD
