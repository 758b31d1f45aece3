/-! ===== programs over the joint state: what a method makes of the numbers, or none where it would leave its bounds ===== -/
abbrev mo : Type := Option (Nat × mg_F)
/-- an int's signed number -/
def sv (a : Nat) : Int := (nI a).toInt
def sb (a b : Nat) : Nat := if b ≤ a then a - b else a + (4294967296 - b % 4294967296)
def ush (a b : Nat) : Nat := (((nI a).toUInt32 >>> ((nI b).toUInt32 &&& Int32.toUInt32 31)).toInt32).toUInt32.toNat
def ck (p : Prop) [Decidable p] (o : mo) : mo := if p then o else none
def wr (g : mg_F) (k : mg_F → mo) : mo := k g
def bd (o : mo) (k : Nat → mg_F → mo) : mo := match o with
  | none => none
  | some q => k q.1 q.2
def jn {α : Type} (k : α → mg_F → mo) (f : (α → mg_F → mo) → mo) : mo := f k
def mp (Y : mg_Yt) (r : Nat) (g' : mg_F) : Option Nat → mg_F → Prop := fun v h => v = Y.2.2.2.1.map (fun _ => r) ∧ h = g'
def mj (K : mg_Kt) (Z : mg_Zt) (Y : mg_Yt) (o : mo) (pc : Nat) (ls st : List Value) (g : mg_F) : Prop := ∀ (r : Nat) (g' : mg_F), o = some (r, g') → mg_G K Z Y (mp Y r g') pc ls st g
theorem nI_per (a m : Nat) : nI (a + 4294967296 * m) = nI a := by
  have h : (Int32.ofNat (a + 4294967296 * m)).toBitVec = (Int32.ofNat a).toBitVec := by
    show BitVec.ofNat 32 (a + 4294967296 * m) = BitVec.ofNat 32 a
    apply BitVec.eq_of_toNat_eq
    rw [BitVec.toNat_ofNat, BitVec.toNat_ofNat]
    omega
  exact Int32.toBitVec_inj.mp h
theorem nI_sb (a b : Nat) : nI a - nI b = nI (sb a b) := by
  unfold sb
  by_cases h : b ≤ a
  · rw [if_pos h]; exact mg_sub h
  · rw [if_neg h]
    have e : nI a = nI (a + (4294967296 - b % 4294967296)) + nI b := by
      rw [nI_add, ← nI_per a (1 + b / 4294967296)]
      congr 1
      have := Nat.div_add_mod b 4294967296
      have := Nat.mod_lt b (show 0 < 4294967296 by omega)
      omega
    rw [e, Int32.add_sub_cancel]
theorem nI_dec (a : Nat) : nI a + Int32.ofInt (-1) = nI (sb a 1) := by
  rw [← nI_sb]
  have : Int32.ofInt (-1) = - nI 1 := by decide +kernel
  rw [this, Int32.sub_eq_add_neg]
theorem nI_ush (a b : Nat) : ((nI a).toUInt32 >>> ((nI b).toUInt32 &&& Int32.toUInt32 31)).toInt32 = nI (ush a b) := by
  unfold ush
  generalize ((nI a).toUInt32 >>> ((nI b).toUInt32 &&& Int32.toUInt32 31)).toInt32 = x
  apply Int32.toInt_inj.mp
  rw [mg_sI x.toUInt32.toNat_lt]
  unfold mg_sg
  have h1 : x.toInt = Int.bmod (x.toUInt32.toNat : Int) 4294967296 := BitVec.toInt_eq_toNat_bmod x.toBitVec
  rw [h1]
  simp only [Int.bmod]
  have := x.toUInt32.toNat_lt
  split <;> split <;> omega
theorem mg_cap_lt (i : Nat) : mg_cap i < 2147483648 := by unfold mg_cap; split <;> omega
theorem sv_eq {a b : Nat} : sv a = sv b ↔ nI a = nI b := Int32.toInt_inj
theorem sv_lt {a b : Nat} : sv a < sv b ↔ nI a < nI b := Int32.lt_iff_toInt_lt.symm
theorem sv_0 : sv 0 = 0 := by decide +kernel
theorem sv_l0 : sv 0 = 0 := by decide +kernel
theorem sv_l1 : sv 1 = 1 := by decide +kernel
theorem sv_l2 : sv 2 = 2 := by decide +kernel
theorem sv_l3 : sv 3 = 3 := by decide +kernel
theorem sv_l4 : sv 4 = 4 := by decide +kernel
theorem sv_l5 : sv 5 = 5 := by decide +kernel
theorem sv_l6 : sv 6 = 6 := by decide +kernel
theorem sv_l7 : sv 7 = 7 := by decide +kernel
theorem sv_l8 : sv 8 = 8 := by decide +kernel
theorem sv_l9 : sv 9 = 9 := by decide +kernel
section MJ
variable {K : mg_Kt} {Z : mg_Zt} {Y Y' : mg_Yt} {o A B : mo} {pc pc' : Nat} {ls ls' st st' : List Value} {g gn : mg_F}
theorem j_none : mj K Z Y none pc ls st g := fun _ _ e => nomatch e
theorem j_lift (h : ∀ post, mg_G K Z Y post pc' ls' st' g → mg_G K Z Y post pc ls st g) (kk : mj K Z Y o pc' ls' st' g) : mj K Z Y o pc ls st g := fun r g' e => h _ (kk r g' e)
theorem j_w {k : mg_F → mo} (h : ∀ post, mg_G K Z Y post pc' ls' st' gn → mg_G K Z Y post pc ls st g) (kk : ∀ g1, mj K Z Y (k g1) pc' ls' st' g1) : mj K Z Y (wr gn k) pc ls st g := fun r g' e => h _ (kk gn r g' e)
theorem j_ck {p : Prop} {dp : Decidable p} (h : p → mj K Z Y o pc ls st g) : mj K Z Y (@ck p dp o) pc ls st g := by
  intro r g' e
  unfold ck at e
  by_cases c : p
  · rw [if_pos c] at e; exact h c r g' e
  · rw [if_neg c] at e; cases e
theorem j_ite {p : Prop} {dp : Decidable p} (hA : p → mj K Z Y A pc ls st g) (hB : ¬ p → mj K Z Y B pc ls st g) : mj K Z Y (@ite mo p dp A B) pc ls st g := by
  by_cases c : p
  · rw [if_pos c]; exact hA c
  · rw [if_neg c]; exact hB c
theorem j_jn {α : Type} {k : α → mg_F → mo} {f : (α → mg_F → mo) → mo} (J : Nat) (Lk Sk : α → List Value) (hk : ∀ a g1, mj K Z Y (k a g1) J (Lk a) (Sk a) g1) (hf : ∀ kj, (∀ a g1, mj K Z Y (kj a g1) J (Lk a) (Sk a) g1) → mj K Z Y (f kj) pc ls st g) : mj K Z Y (jn k f) pc ls st g := hf k hk
theorem g_trunc {post : Option Nat → mg_F → Prop} (x : List Value) (kk : mg_G K Z Y post pc ls st g) : mg_G K Z Y post pc (ls ++ x) st g := by
  intro hF H locs la hP hS hL
  refine kk hF H locs la hP hS ⟨hL.1, hL.2.1, fun i v h => hL.2.2 i v ?_⟩
  rw [List.getElem?_append_left (List.getElem?_eq_some_iff.mp h).1]
  exact h
theorem j_trunc (x : List Value) (kk : mj K Z Y o pc ls st g) : mj K Z Y o pc (ls ++ x) st g := fun r g' e => g_trunc x (kk r g' e)
theorem j_iret {a : Nat} (hd : decode Y.1 pc = .ok (.ireturn, 1)) (hr : mg_rt Y.2.2.2.1 (some a)) (hY : Y.2.2.2.1.map (fun _ => a) = some a) : mj K Z Y (some (a, g)) pc ls [iv a] g := by
  intro r g' e
  cases e
  exact g_iret hd hr ⟨hY.symm, rfl⟩
theorem j_ret (hd : decode Y.1 pc = .ok (.return_, 1)) (hr : mg_rt Y.2.2.2.1 none) (hY : Y.2.2.2.1.map (fun _ => 0) = none) : mj K Z Y (some (0, g)) pc ls [] g := by
  intro r g' e
  cases e
  exact g_ret hd hr ⟨hY.symm, rfl⟩
theorem j_icmp_eq {a b : Nat} {off : Int} (tgt : Nat) (hd : decode Y.1 pc = .ok (.if_icmp .eq off, 3)) (ht : (pc : Int) + off = (tgt : Int)) (kt : sv a = sv b → mj K Z Y A tgt ls st g) (kf : ¬ sv a = sv b → mj K Z Y B (pc + 3) ls st g) : mj K Z Y (if sv a = sv b then A else B) pc ls (iv b :: iv a :: st) g := by
  refine j_ite (fun c r g' e => ?_) (fun c r g' e => ?_)
  · exact fun hF H locs la hP hS hL => lv_icmp_eq hF.1 hF.2.1 hd ht (fun _ => kt c r g' e hF H locs la hP hS hL) (fun q => absurd (sv_eq.mp c) q)
  · exact fun hF H locs la hP hS hL => lv_icmp_eq hF.1 hF.2.1 hd ht (fun q => absurd (sv_eq.mpr q) c) (fun _ => kf c r g' e hF H locs la hP hS hL)
theorem j_icmp_ne {a b : Nat} {off : Int} (tgt : Nat) (hd : decode Y.1 pc = .ok (.if_icmp .ne off, 3)) (ht : (pc : Int) + off = (tgt : Int)) (kt : ¬ sv a = sv b → mj K Z Y B tgt ls st g) (kf : sv a = sv b → mj K Z Y A (pc + 3) ls st g) : mj K Z Y (if sv a = sv b then A else B) pc ls (iv b :: iv a :: st) g := by
  refine j_ite (fun c r g' e => ?_) (fun c r g' e => ?_)
  · exact fun hF H locs la hP hS hL => lv_icmp_ne hF.1 hF.2.1 hd ht (fun q => absurd (sv_eq.mp c) q) (fun _ => kf c r g' e hF H locs la hP hS hL)
  · exact fun hF H locs la hP hS hL => lv_icmp_ne hF.1 hF.2.1 hd ht (fun _ => kt c r g' e hF H locs la hP hS hL) (fun q => absurd (sv_eq.mpr q) c)
theorem j_icmp_lt {a b : Nat} {off : Int} (tgt : Nat) (hd : decode Y.1 pc = .ok (.if_icmp .lt off, 3)) (ht : (pc : Int) + off = (tgt : Int)) (kt : sv a < sv b → mj K Z Y A tgt ls st g) (kf : ¬ sv a < sv b → mj K Z Y B (pc + 3) ls st g) : mj K Z Y (if sv a < sv b then A else B) pc ls (iv b :: iv a :: st) g := by
  refine j_ite (fun c r g' e => ?_) (fun c r g' e => ?_)
  · exact fun hF H locs la hP hS hL => lv_icmp_lt hF.1 hF.2.1 hd ht (fun _ => kt c r g' e hF H locs la hP hS hL) (fun q => absurd (sv_lt.mp c) q)
  · exact fun hF H locs la hP hS hL => lv_icmp_lt hF.1 hF.2.1 hd ht (fun q => absurd (sv_lt.mpr q) c) (fun _ => kf c r g' e hF H locs la hP hS hL)
theorem sv_nlt {a b : Nat} : nI b ≤ nI a ↔ ¬ sv a < sv b := by
  rw [Int32.le_iff_toInt_le]
  show sv b ≤ sv a ↔ _
  omega
theorem j_icmp_ge {a b : Nat} {off : Int} (tgt : Nat) (hd : decode Y.1 pc = .ok (.if_icmp .ge off, 3)) (ht : (pc : Int) + off = (tgt : Int)) (kt : ¬ sv a < sv b → mj K Z Y B tgt ls st g) (kf : sv a < sv b → mj K Z Y A (pc + 3) ls st g) : mj K Z Y (if sv a < sv b then A else B) pc ls (iv b :: iv a :: st) g := by
  refine j_ite (fun c r g' e => ?_) (fun c r g' e => ?_)
  · exact fun hF H locs la hP hS hL => lv_icmp_ge hF.1 hF.2.1 hd ht (fun q => absurd c (sv_nlt.mp q)) (fun _ => kf c r g' e hF H locs la hP hS hL)
  · exact fun hF H locs la hP hS hL => lv_icmp_ge hF.1 hF.2.1 hd ht (fun _ => kt c r g' e hF H locs la hP hS hL) (fun q => absurd (sv_nlt.mpr c) q)
theorem j_icmp_gt {a b : Nat} {off : Int} (tgt : Nat) (hd : decode Y.1 pc = .ok (.if_icmp .gt off, 3)) (ht : (pc : Int) + off = (tgt : Int)) (kt : sv b < sv a → mj K Z Y A tgt ls st g) (kf : ¬ sv b < sv a → mj K Z Y B (pc + 3) ls st g) : mj K Z Y (if sv b < sv a then A else B) pc ls (iv b :: iv a :: st) g := by
  refine j_ite (fun c r g' e => ?_) (fun c r g' e => ?_)
  · exact fun hF H locs la hP hS hL => lv_icmp_gt hF.1 hF.2.1 hd ht (fun _ => kt c r g' e hF H locs la hP hS hL) (fun q => absurd (sv_lt.mp c) q)
  · exact fun hF H locs la hP hS hL => lv_icmp_gt hF.1 hF.2.1 hd ht (fun q => absurd (sv_lt.mpr q) c) (fun _ => kf c r g' e hF H locs la hP hS hL)
theorem j_icmp_le {a b : Nat} {off : Int} (tgt : Nat) (hd : decode Y.1 pc = .ok (.if_icmp .le off, 3)) (ht : (pc : Int) + off = (tgt : Int)) (kt : ¬ sv b < sv a → mj K Z Y B tgt ls st g) (kf : sv b < sv a → mj K Z Y A (pc + 3) ls st g) : mj K Z Y (if sv b < sv a then A else B) pc ls (iv b :: iv a :: st) g := by
  refine j_ite (fun c r g' e => ?_) (fun c r g' e => ?_)
  · exact fun hF H locs la hP hS hL => lv_icmp_le hF.1 hF.2.1 hd ht (fun q => absurd c (sv_nlt.mp q)) (fun _ => kf c r g' e hF H locs la hP hS hL)
  · exact fun hF H locs la hP hS hL => lv_icmp_le hF.1 hF.2.1 hd ht (fun _ => kt c r g' e hF H locs la hP hS hL) (fun q => absurd (sv_nlt.mpr c) q)
theorem sv_eq0 {a : Nat} : sv a = 0 ↔ nI a = 0 := by
  rw [← sv_0, sv_eq, mg_0]
theorem sv_lt0 {a : Nat} : sv a < 0 ↔ nI a < 0 := by
  rw [← sv_0, sv_lt, mg_0]
theorem sv_gt0 {a : Nat} : 0 < sv a ↔ 0 < nI a := by
  rw [← sv_0, sv_lt, mg_0]
theorem sv_ge0 {a : Nat} : 0 ≤ nI a ↔ ¬ sv a < 0 := by
  rw [← sv_0, ← sv_nlt, mg_0]
theorem sv_le0 {a : Nat} : nI a ≤ 0 ↔ ¬ 0 < sv a := by
  rw [← sv_0, ← sv_nlt, mg_0]
theorem j_if_eq {a : Nat} {off : Int} (tgt : Nat) (hd : decode Y.1 pc = .ok (.ifCond .eq off, 3)) (ht : (pc : Int) + off = (tgt : Int)) (kt : sv a = 0 → mj K Z Y A tgt ls st g) (kf : ¬ sv a = 0 → mj K Z Y B (pc + 3) ls st g) : mj K Z Y (if sv a = 0 then A else B) pc ls (iv a :: st) g := by
  refine j_ite (fun c r g' e => ?_) (fun c r g' e => ?_)
  · exact fun hF H locs la hP hS hL => lv_if_eq hF.1 hF.2.1 hd ht (fun _ => kt c r g' e hF H locs la hP hS hL) (fun q => absurd (sv_eq0.mp c) q)
  · exact fun hF H locs la hP hS hL => lv_if_eq hF.1 hF.2.1 hd ht (fun q => absurd (sv_eq0.mpr q) c) (fun _ => kf c r g' e hF H locs la hP hS hL)
theorem j_if_ne {a : Nat} {off : Int} (tgt : Nat) (hd : decode Y.1 pc = .ok (.ifCond .ne off, 3)) (ht : (pc : Int) + off = (tgt : Int)) (kt : ¬ sv a = 0 → mj K Z Y B tgt ls st g) (kf : sv a = 0 → mj K Z Y A (pc + 3) ls st g) : mj K Z Y (if sv a = 0 then A else B) pc ls (iv a :: st) g := by
  refine j_ite (fun c r g' e => ?_) (fun c r g' e => ?_)
  · exact fun hF H locs la hP hS hL => lv_if_ne hF.1 hF.2.1 hd ht (fun q => absurd (sv_eq0.mp c) q) (fun _ => kf c r g' e hF H locs la hP hS hL)
  · exact fun hF H locs la hP hS hL => lv_if_ne hF.1 hF.2.1 hd ht (fun _ => kt c r g' e hF H locs la hP hS hL) (fun q => absurd (sv_eq0.mpr q) c)
theorem j_if_lt {a : Nat} {off : Int} (tgt : Nat) (hd : decode Y.1 pc = .ok (.ifCond .lt off, 3)) (ht : (pc : Int) + off = (tgt : Int)) (kt : sv a < 0 → mj K Z Y A tgt ls st g) (kf : ¬ sv a < 0 → mj K Z Y B (pc + 3) ls st g) : mj K Z Y (if sv a < 0 then A else B) pc ls (iv a :: st) g := by
  refine j_ite (fun c r g' e => ?_) (fun c r g' e => ?_)
  · exact fun hF H locs la hP hS hL => lv_if_lt hF.1 hF.2.1 hd ht (fun _ => kt c r g' e hF H locs la hP hS hL) (fun q => absurd (sv_lt0.mp c) q)
  · exact fun hF H locs la hP hS hL => lv_if_lt hF.1 hF.2.1 hd ht (fun q => absurd (sv_lt0.mpr q) c) (fun _ => kf c r g' e hF H locs la hP hS hL)
theorem j_if_ge {a : Nat} {off : Int} (tgt : Nat) (hd : decode Y.1 pc = .ok (.ifCond .ge off, 3)) (ht : (pc : Int) + off = (tgt : Int)) (kt : ¬ sv a < 0 → mj K Z Y B tgt ls st g) (kf : sv a < 0 → mj K Z Y A (pc + 3) ls st g) : mj K Z Y (if sv a < 0 then A else B) pc ls (iv a :: st) g := by
  refine j_ite (fun c r g' e => ?_) (fun c r g' e => ?_)
  · exact fun hF H locs la hP hS hL => lv_if_ge hF.1 hF.2.1 hd ht (fun q => absurd c (sv_ge0.mp q)) (fun _ => kf c r g' e hF H locs la hP hS hL)
  · exact fun hF H locs la hP hS hL => lv_if_ge hF.1 hF.2.1 hd ht (fun _ => kt c r g' e hF H locs la hP hS hL) (fun q => absurd (sv_ge0.mpr c) q)
theorem j_if_gt {a : Nat} {off : Int} (tgt : Nat) (hd : decode Y.1 pc = .ok (.ifCond .gt off, 3)) (ht : (pc : Int) + off = (tgt : Int)) (kt : 0 < sv a → mj K Z Y A tgt ls st g) (kf : ¬ 0 < sv a → mj K Z Y B (pc + 3) ls st g) : mj K Z Y (if 0 < sv a then A else B) pc ls (iv a :: st) g := by
  refine j_ite (fun c r g' e => ?_) (fun c r g' e => ?_)
  · exact fun hF H locs la hP hS hL => lv_if_gt hF.1 hF.2.1 hd ht (fun _ => kt c r g' e hF H locs la hP hS hL) (fun q => absurd (sv_gt0.mp c) q)
  · exact fun hF H locs la hP hS hL => lv_if_gt hF.1 hF.2.1 hd ht (fun q => absurd (sv_gt0.mpr q) c) (fun _ => kf c r g' e hF H locs la hP hS hL)
theorem j_if_le {a : Nat} {off : Int} (tgt : Nat) (hd : decode Y.1 pc = .ok (.ifCond .le off, 3)) (ht : (pc : Int) + off = (tgt : Int)) (kt : ¬ 0 < sv a → mj K Z Y B tgt ls st g) (kf : 0 < sv a → mj K Z Y A (pc + 3) ls st g) : mj K Z Y (if 0 < sv a then A else B) pc ls (iv a :: st) g := by
  refine j_ite (fun c r g' e => ?_) (fun c r g' e => ?_)
  · exact fun hF H locs la hP hS hL => lv_if_le hF.1 hF.2.1 hd ht (fun q => absurd c (sv_le0.mp q)) (fun _ => kf c r g' e hF H locs la hP hS hL)
  · exact fun hF H locs la hP hS hL => lv_if_le hF.1 hF.2.1 hd ht (fun _ => kt c r g' e hF H locs la hP hS hL) (fun q => absurd (sv_le0.mpr c) q)
/-- branches that are known -/
theorem j_if1 {p : Prop} {dp : Decidable p} (c : p) (kk : mj K Z Y (@ite mo p dp A none) pc ls st g) : mj K Z Y A pc ls st g := by
  rw [if_pos c] at kk; exact kk
theorem j_if0 {p : Prop} {dp : Decidable p} (c : ¬ p) (kk : mj K Z Y (@ite mo p dp none B) pc ls st g) : mj K Z Y B pc ls st g := by
  rw [if_neg c] at kk; exact kk
theorem g_sb {post : Option Nat → mg_F → Prop} {a b : Nat} (hd : decode Y.1 pc = .ok (.isub, 1)) (kk : mg_G K Z Y post (pc + 1) ls (iv (sb a b) :: st) g) : mg_G K Z Y post pc ls (iv b :: iv a :: st) g := g_isubw (nI_sb a b) hd kk
theorem g_swIn {post : Option Nat → mg_F → Prop} {dflt lo hi off : Int} {offs : Array Int} {len a c : Nat} (tgt : Nat) (h : sv a = sv c) (hd : decode Y.1 pc = .ok (.tableswitch dflt lo hi offs, len)) (ha : c < 2147483648) (h1 : lo ≤ (c : Int)) (h2 : (c : Int) ≤ hi) (ho : offs[((c : Int) - lo).toNat]? = some off) (ht : (pc : Int) + off = (tgt : Int)) (kk : mg_G K Z Y post tgt ls st g) : mg_G K Z Y post pc ls (iv a :: st) g := by
  have e : nI a = nI c := sv_eq.mp h
  show mg_G K Z Y post pc ls (Value.int (nI a) :: st) g
  rw [e]
  exact g_switchIn tgt hd ha h1 h2 ho ht kk
theorem g_swOut {post : Option Nat → mg_F → Prop} {dflt lo hi : Int} {offs : Array Int} {len a : Nat} (tgt : Nat) (hd : decode Y.1 pc = .ok (.tableswitch dflt lo hi offs, len)) (h : sv a < lo ∨ hi < sv a) (ht : (pc : Int) + dflt = (tgt : Int)) (kk : mg_G K Z Y post tgt ls st g) : mg_G K Z Y post pc ls (iv a :: st) g := by
  intro hF H locs la hP hS hL
  exact lv_tableOut hF.1 hF.2.1 hd h ht (kk hF H locs la hP hS hL)
theorem mg_capin {i : Nat} (h : i < 2) {b : Bool} : i < mg_cnt b 1 := h
/-- calls: the program of the callee, then the rest -/
theorem j_callVi {P : mo} {kf : Nat → mg_F → mo} {As : List Value} {idx k i ci N : Nat} {C : String} {T : u_T} {fs : List Value} {ws' : List Cond} {ty : FieldType} (hM : ∀ r h, P = some (r, h) → mg_C K.2.1 Z Y' (rv Z k i :: As) g (mp Y' r h)) (hG : GoodIn Y.2.2.2.2.1 (wsV Y.2.1.cls idx C Y'.2.1 Y'.2.2.2.2.1)) (hw : Y'.2.2.2.2.1 = Cond.code Y'.2.1 Y'.1 Y'.2.2.1 (some ty) :: ws')
    (hin : i < mg_cnt Z.2.2.1 k) (hm : mg_mk Z.2.1 k i (g k i) = .inr (ci, fs)) (hc : vwCl[ci]? = some (C, T, N))
    {na : Nat} (hna : As.length = na) (hd0 : (Y'.2.1.cls = C ∧ Y'.2.1.cls ≠ "java/lang/invoke/MethodHandle" ∧ Y'.2.1.cls ≠ "java/lang/invoke/VarHandle" ∧ (parseMethodDescriptor Y'.2.1.desc).map (fun d => d.parameters.length) = some na) ∧ Y'.2.2.2.1 = some ty)
    (hdp : Y'.2.2.2.2.2 + 1 ≤ Y.2.2.2.2.2) (hnl : Y'.2.2.1 ≤ 14) (hst : (st.map fun v => v.category).sum ≤ 8) (hd : decode Y.1 pc = .ok (.invokevirtual idx, 3))
    (kk : ∀ (r : Nat) (g1 : mg_F), mj K Z Y (kf r g1) (pc + 3) ls (iv r :: st) g1) : mj K Z Y (bd P kf) pc ls (As.reverse ++ rv Z k i :: st) g := by
  intro r g' e
  cases hP : P with
  | none => rw [hP] at e; cases e
  | some q =>
    rw [hP] at e
    refine g_callVi (hM q.1 q.2 hP) hG hw hin hm hc hna hd0 hdp hnl hst hd (fun v g2 hp => ?_)
    obtain ⟨h1, rfl⟩ := hp
    rw [hd0.2] at h1
    cases h1
    exact kk q.1 q.2 r g' e
theorem j_callVv {P : mo} {kf : Nat → mg_F → mo} {As : List Value} {idx k i ci N : Nat} {C : String} {T : u_T} {fs : List Value} {ws' : List Cond} (hM : ∀ r h, P = some (r, h) → mg_C K.2.1 Z Y' (rv Z k i :: As) g (mp Y' r h)) (hG : GoodIn Y.2.2.2.2.1 (wsV Y.2.1.cls idx C Y'.2.1 Y'.2.2.2.2.1)) (hw : Y'.2.2.2.2.1 = Cond.code Y'.2.1 Y'.1 Y'.2.2.1 none :: ws')
    (hin : i < mg_cnt Z.2.2.1 k) (hm : mg_mk Z.2.1 k i (g k i) = .inr (ci, fs)) (hc : vwCl[ci]? = some (C, T, N))
    {na : Nat} (hna : As.length = na) (hd0 : (Y'.2.1.cls = C ∧ Y'.2.1.cls ≠ "java/lang/invoke/MethodHandle" ∧ Y'.2.1.cls ≠ "java/lang/invoke/VarHandle" ∧ (parseMethodDescriptor Y'.2.1.desc).map (fun d => d.parameters.length) = some na) ∧ Y'.2.2.2.1 = none)
    (hdp : Y'.2.2.2.2.2 + 1 ≤ Y.2.2.2.2.2) (hnl : Y'.2.2.1 ≤ 14) (hst : (st.map fun v => v.category).sum ≤ 8) (hd : decode Y.1 pc = .ok (.invokevirtual idx, 3))
    (kk : ∀ (r : Nat) (g1 : mg_F), mj K Z Y (kf r g1) (pc + 3) ls st g1) : mj K Z Y (bd P kf) pc ls (As.reverse ++ rv Z k i :: st) g := by
  intro r g' e
  cases hP : P with
  | none => rw [hP] at e; cases e
  | some q =>
    rw [hP] at e
    refine g_callVv (hM q.1 q.2 hP) hG hw hin hm hc hna hd0 hdp hnl hst hd (fun g2 hp => ?_)
    obtain ⟨h1, rfl⟩ := hp
    exact kk q.1 q.2 r g' e
theorem j_callSi {P : mo} {kf : Nat → mg_F → mo} {As : List Value} {idx : Nat} {ws' : List Cond} {ty : FieldType} (hM : ∀ r h, P = some (r, h) → mg_C K.2.1 Z Y' As g (mp Y' r h)) (hG : GoodIn Y.2.2.2.2.1 (va_wsS Y.2.1.cls idx Y'.2.1 Y'.2.2.2.2.1)) (hw : Y'.2.2.2.2.1 = Cond.code Y'.2.1 Y'.1 Y'.2.2.1 (some ty) :: ws')
    {na : Nat} (hna : As.length = na) (hd0 : (Y'.2.1.cls ≠ "java/lang/invoke/MethodHandle" ∧ Y'.2.1.cls ≠ "java/lang/invoke/VarHandle" ∧ (parseMethodDescriptor Y'.2.1.desc).map (fun d => d.parameters.length) = some na) ∧ Y'.2.2.2.1 = some ty)
    (hdp : Y'.2.2.2.2.2 + 1 ≤ Y.2.2.2.2.2) (hnl : Y'.2.2.1 ≤ 14) (hst : (st.map fun v => v.category).sum ≤ 8) (hd : decode Y.1 pc = .ok (.invokestatic idx, 3))
    (kk : ∀ (r : Nat) (g1 : mg_F), mj K Z Y (kf r g1) (pc + 3) ls (iv r :: st) g1) : mj K Z Y (bd P kf) pc ls (As.reverse ++ st) g := by
  intro r g' e
  cases hP : P with
  | none => rw [hP] at e; cases e
  | some q =>
    rw [hP] at e
    refine g_callSi (hM q.1 q.2 hP) hG hw hna hd0 hdp hnl hst hd (fun v g2 hp => ?_)
    obtain ⟨h1, rfl⟩ := hp
    rw [hd0.2] at h1
    cases h1
    exact kk q.1 q.2 r g' e
theorem j_callSv {P : mo} {kf : Nat → mg_F → mo} {As : List Value} {idx : Nat} {ws' : List Cond} (hM : ∀ r h, P = some (r, h) → mg_C K.2.1 Z Y' As g (mp Y' r h)) (hG : GoodIn Y.2.2.2.2.1 (va_wsS Y.2.1.cls idx Y'.2.1 Y'.2.2.2.2.1)) (hw : Y'.2.2.2.2.1 = Cond.code Y'.2.1 Y'.1 Y'.2.2.1 none :: ws')
    {na : Nat} (hna : As.length = na) (hd0 : (Y'.2.1.cls ≠ "java/lang/invoke/MethodHandle" ∧ Y'.2.1.cls ≠ "java/lang/invoke/VarHandle" ∧ (parseMethodDescriptor Y'.2.1.desc).map (fun d => d.parameters.length) = some na) ∧ Y'.2.2.2.1 = none)
    (hdp : Y'.2.2.2.2.2 + 1 ≤ Y.2.2.2.2.2) (hnl : Y'.2.2.1 ≤ 14) (hst : (st.map fun v => v.category).sum ≤ 8) (hd : decode Y.1 pc = .ok (.invokestatic idx, 3))
    (kk : ∀ (r : Nat) (g1 : mg_F), mj K Z Y (kf r g1) (pc + 3) ls st g1) : mj K Z Y (bd P kf) pc ls (As.reverse ++ st) g := by
  intro r g' e
  cases hP : P with
  | none => rw [hP] at e; cases e
  | some q =>
    rw [hP] at e
    refine g_callSv (hM q.1 q.2 hP) hG hw hna hd0 hdp hnl hst hd (fun g2 hp => ?_)
    obtain ⟨h1, rfl⟩ := hp
    exact kk q.1 q.2 r g' e
theorem j_callNi {P : mo} {kf : Nat → mg_F → mo} {As : List Value} {idx : Nat} {ws' : List Cond} {ty : FieldType} (hM : ∀ r h, P = some (r, h) → mg_C K.2.1 Z Y' As g (mp Y' r h)) (hG : GoodIn Y.2.2.2.2.1 Y'.2.2.2.2.1) (hw : Y'.2.2.2.2.1 = Cond.code Y'.2.1 Y'.1 Y'.2.2.1 (some ty) :: ws')
    (hl : ∀ s : State, mg_T Z s → va_Nw (.methodLinkNest Y.2.1.cls idx Y'.2.1 RX4) s) (hini : Cond.initialized Y'.2.1.cls ∈ Y.2.2.2.2.1) (hstc : Cond.static Y'.2.1 ∈ Y.2.2.2.2.1)
    {na : Nat} (hna : As.length = na) (hd0 : (Y'.2.1.cls ≠ "java/lang/invoke/MethodHandle" ∧ Y'.2.1.cls ≠ "java/lang/invoke/VarHandle" ∧ (parseMethodDescriptor Y'.2.1.desc).map (fun d => d.parameters.length) = some na) ∧ Y'.2.2.2.1 = some ty)
    (hdp : Y'.2.2.2.2.2 + 1 ≤ Y.2.2.2.2.2) (hnl : Y'.2.2.1 ≤ 14) (hst : (st.map fun v => v.category).sum ≤ 8) (hd : decode Y.1 pc = .ok (.invokestatic idx, 3))
    (kk : ∀ (r : Nat) (g1 : mg_F), mj K Z Y (kf r g1) (pc + 3) ls (iv r :: st) g1) : mj K Z Y (bd P kf) pc ls (As.reverse ++ st) g := by
  intro r g' e
  cases hP : P with
  | none => rw [hP] at e; cases e
  | some q =>
    rw [hP] at e
    refine g_callNi (hM q.1 q.2 hP) hG hw hl hini hstc hna hd0 hdp hnl hst hd (fun v g2 hp => ?_)
    obtain ⟨h1, rfl⟩ := hp
    rw [hd0.2] at h1
    cases h1
    exact kk q.1 q.2 r g' e
theorem j_callNv {P : mo} {kf : Nat → mg_F → mo} {As : List Value} {idx : Nat} {ws' : List Cond} (hM : ∀ r h, P = some (r, h) → mg_C K.2.1 Z Y' As g (mp Y' r h)) (hG : GoodIn Y.2.2.2.2.1 Y'.2.2.2.2.1) (hw : Y'.2.2.2.2.1 = Cond.code Y'.2.1 Y'.1 Y'.2.2.1 none :: ws')
    (hl : ∀ s : State, mg_T Z s → va_Nw (.methodLinkNest Y.2.1.cls idx Y'.2.1 RX4) s) (hini : Cond.initialized Y'.2.1.cls ∈ Y.2.2.2.2.1) (hstc : Cond.static Y'.2.1 ∈ Y.2.2.2.2.1)
    {na : Nat} (hna : As.length = na) (hd0 : (Y'.2.1.cls ≠ "java/lang/invoke/MethodHandle" ∧ Y'.2.1.cls ≠ "java/lang/invoke/VarHandle" ∧ (parseMethodDescriptor Y'.2.1.desc).map (fun d => d.parameters.length) = some na) ∧ Y'.2.2.2.1 = none)
    (hdp : Y'.2.2.2.2.2 + 1 ≤ Y.2.2.2.2.2) (hnl : Y'.2.2.1 ≤ 14) (hst : (st.map fun v => v.category).sum ≤ 8) (hd : decode Y.1 pc = .ok (.invokestatic idx, 3))
    (kk : ∀ (r : Nat) (g1 : mg_F), mj K Z Y (kf r g1) (pc + 3) ls st g1) : mj K Z Y (bd P kf) pc ls (As.reverse ++ st) g := by
  intro r g' e
  cases hP : P with
  | none => rw [hP] at e; cases e
  | some q =>
    rw [hP] at e
    refine g_callNv (hM q.1 q.2 hP) hG hw hl hini hstc hna hd0 hdp hnl hst hd (fun g2 hp => ?_)
    obtain ⟨h1, rfl⟩ := hp
    exact kk q.1 q.2 r g' e
end MJ
theorem mC_of {l : Launch} {Z : mg_Zt} {Y : mg_Yt} {As : List Value} {g : mg_F} {o : mo} {ws' : List Cond} (hy : plainName Y.2.1.cls = true) (hw : Y.2.2.2.2.1 = Cond.code Y.2.1 Y.1 Y.2.2.1 Y.2.2.2.1 :: ws') (hl : As.length ≤ Y.2.2.1) (hc : ∀ v ∈ As, v.category = 1)
    (body : ∀ K : mg_Kt, mj K Z Y o 0 As [] g) : ∀ (r : Nat) (g' : mg_F), o = some (r, g') → mg_C l Z Y As g (mp Y r g') := fun r g' e => mg_C.of hy hw hl hc (fun K => body K r g' e)
/-! the two library methods that are called with rows -/
def P_fill (k i n v : Nat) (g : mg_F) : mo := some (0, mg_upr g k i (mg_fl (g k i) n v))
theorem p_fill {l : Launch} {Z : mg_Zt} {g : mg_F} {k i n v : Nat} (hin : i < mg_cnt Z.2.2.1 k) (hm : ∀ r : Nat → Nat, mg_mk Z.2.1 k i r = .inl (Z.2.1.2.1, n, .inl (fun j => nI (r j)))) (hn : n < 2147483648) : ∀ (r : Nat) (g' : mg_F), P_fill k i n v g = some (r, g') → mg_C l Z mJ7_fill_53178 [rv Z k i, iv v] g (mp mJ7_fill_53178 r g') := by
  intro r g' e
  cases e
  exact c_fill l hin hm hn
def P_closeGap (k i L a n : Nat) (g : mg_F) : mo := ck (a < n ∧ n ≤ L) (some (0, mg_upr g k i (mg_cpy (g k i) (a + 1) a (n - a - 1))))
theorem p_closeGap {l : Launch} {Z : mg_Zt} {g : mg_F} {k i L a n : Nat} (hin : i < mg_cnt Z.2.2.1 k) (hm : ∀ r : Nat → Nat, mg_mk Z.2.1 k i r = .inl (Z.2.1.2.1, L, .inl (fun j => nI (r j)))) (hL : L < 2147483648) : ∀ (r : Nat) (g' : mg_F), P_closeGap k i L a n g = some (r, g') → mg_C l Z mX4_closeGap [rv Z k i, iv a, iv n] g (mp mX4_closeGap r g') := by
  intro r g' e
  unfold P_closeGap ck at e
  by_cases c : a < n ∧ n ≤ L
  · rw [if_pos c] at e
    cases e
    refine mg_C.of (by decide) rfl (Nat.le_of_ble_eq_true rfl) (List.forall_mem_cons.mpr ⟨rfl, (List.forall_mem_cons.mpr ⟨rfl, (List.forall_mem_cons.mpr ⟨rfl, (fun _ h => nomatch h)⟩)⟩)⟩) (fun K => ?_)
    refine g_aload_n (pc := 0) dX4_closeGap_0 rfl ?_
    refine g_iload_n (pc := 1) dX4_closeGap_1 rfl ?_
    refine g_iconst (pc := 2) (v := 1) dX4_closeGap_2 (by decide +kernel) ?_
    refine g_iadd (pc := 3) dX4_closeGap_3 ?_
    refine g_aload_n (pc := 4) dX4_closeGap_4 rfl ?_
    refine g_iload_n (pc := 5) dX4_closeGap_5 rfl ?_
    refine g_iload_n (pc := 6) dX4_closeGap_6 rfl ?_
    refine g_iload_n (pc := 7) dX4_closeGap_7 rfl ?_
    refine g_isub (pc := 8) (by omega) dX4_closeGap_8 ?_
    refine g_iconst (pc := 9) (v := 1) dX4_closeGap_9 (by decide +kernel) ?_
    refine g_isub (pc := 10) (by omega) dX4_closeGap_10 ?_
    refine g_copy (pc := 11) (L := L) hin hm hL (by omega) (by omega) (by decide +kernel) (by decide +kernel) (by decide +kernel) (by decide +kernel) (by decide) (Nat.le_of_ble_eq_true rfl) dX4_closeGap_11 ?_
    exact g_ret (pc := 14) dX4_closeGap_14 trivial ⟨rfl, rfl⟩
  · rw [if_neg c] at e
    cases e
