/-! ===== comparisons told in Nats, also of numbers of which nothing is known ===== -/
theorem mg_dec {a : Nat} (h : 1 ≤ a) : nI a + Int32.ofInt (-1) = nI (a - 1) := by
  obtain ⟨b, rfl⟩ : ∃ b, a = b + 1 := ⟨a - 1, by omega⟩
  rw [← nI_add]
  have : nI 1 + Int32.ofInt (-1) = 0 := by decide +kernel
  rw [Int32.add_assoc, this]
  simp
section MGRAW
variable {K : mg_Kt} {Z : mg_Zt} {Y : mg_Yt} {post : Option Nat → mg_F → Prop} {pc : Nat} {ls st : List Value} {g : mg_F}
theorem g_nif_lt {a : Nat} {off : Int} (tgt : Nat) (hd : decode Y.1 pc = .ok (.ifCond .lt off, 3)) (ht : (pc : Int) + off = (tgt : Int)) (ha : a < 4294967296) (kt : 2147483648 ≤ a → mg_G K Z Y post tgt ls st g) (kf : a < 2147483648 → mg_G K Z Y post (pc + 3) ls st g) : mg_G K Z Y post pc ls (iv a :: st) g :=
  g_sif_lt tgt hd ht ha (fun q => kt (by unfold mg_sg at q; split at q <;> omega)) (fun q => kf (by unfold mg_sg at q; split at q <;> omega))
theorem g_nif_ge {a : Nat} {off : Int} (tgt : Nat) (hd : decode Y.1 pc = .ok (.ifCond .ge off, 3)) (ht : (pc : Int) + off = (tgt : Int)) (ha : a < 4294967296) (kt : a < 2147483648 → mg_G K Z Y post tgt ls st g) (kf : 2147483648 ≤ a → mg_G K Z Y post (pc + 3) ls st g) : mg_G K Z Y post pc ls (iv a :: st) g :=
  g_sif_ge tgt hd ht ha (fun q => kt (by unfold mg_sg at q; split at q <;> omega)) (fun q => kf (by unfold mg_sg at q; split at q <;> omega))
theorem g_nif_le {a : Nat} {off : Int} (tgt : Nat) (hd : decode Y.1 pc = .ok (.ifCond .le off, 3)) (ht : (pc : Int) + off = (tgt : Int)) (ha : a < 4294967296) (kt : a = 0 ∨ 2147483648 ≤ a → mg_G K Z Y post tgt ls st g) (kf : 0 < a ∧ a < 2147483648 → mg_G K Z Y post (pc + 3) ls st g) : mg_G K Z Y post pc ls (iv a :: st) g :=
  g_sif_le tgt hd ht ha (fun q => kt (by unfold mg_sg at q; split at q <;> omega)) (fun q => kf (by unfold mg_sg at q; split at q <;> omega))
theorem g_rcmp_lt {a b : Nat} {off : Int} (tgt : Nat) (hd : decode Y.1 pc = .ok (.if_icmp .lt off, 3)) (ht : (pc : Int) + off = (tgt : Int)) (ha : a < 4294967296) (hb : b < 2147483648) (kt : a < b ∨ 2147483648 ≤ a → mg_G K Z Y post tgt ls st g) (kf : b ≤ a ∧ a < 2147483648 → mg_G K Z Y post (pc + 3) ls st g) : mg_G K Z Y post pc ls (iv b :: iv a :: st) g :=
  g_scmp_lt tgt hd ht ha (by omega) (fun q => kt (by rw [mg_sgs hb] at q; unfold mg_sg at q; split at q <;> omega)) (fun q => kf (by rw [mg_sgs hb] at q; unfold mg_sg at q; split at q <;> omega))
theorem g_rcmp_ge {a b : Nat} {off : Int} (tgt : Nat) (hd : decode Y.1 pc = .ok (.if_icmp .ge off, 3)) (ht : (pc : Int) + off = (tgt : Int)) (ha : a < 4294967296) (hb : b < 2147483648) (kt : b ≤ a ∧ a < 2147483648 → mg_G K Z Y post tgt ls st g) (kf : a < b ∨ 2147483648 ≤ a → mg_G K Z Y post (pc + 3) ls st g) : mg_G K Z Y post pc ls (iv b :: iv a :: st) g :=
  g_scmp_ge tgt hd ht ha (by omega) (fun q => kt (by rw [mg_sgs hb] at q; unfold mg_sg at q; split at q <;> omega)) (fun q => kf (by rw [mg_sgs hb] at q; unfold mg_sg at q; split at q <;> omega))
theorem g_rcmp_gt {a b : Nat} {off : Int} (tgt : Nat) (hd : decode Y.1 pc = .ok (.if_icmp .gt off, 3)) (ht : (pc : Int) + off = (tgt : Int)) (ha : a < 4294967296) (hb : b < 2147483648) (kt : b < a ∧ a < 2147483648 → mg_G K Z Y post tgt ls st g) (kf : a ≤ b ∨ 2147483648 ≤ a → mg_G K Z Y post (pc + 3) ls st g) : mg_G K Z Y post pc ls (iv b :: iv a :: st) g :=
  g_scmp_gt tgt hd ht ha (by omega) (fun q => kt (by rw [mg_sgs hb] at q; unfold mg_sg at q; split at q <;> omega)) (fun q => kf (by rw [mg_sgs hb] at q; unfold mg_sg at q; split at q <;> omega))
theorem g_rcmp_le {a b : Nat} {off : Int} (tgt : Nat) (hd : decode Y.1 pc = .ok (.if_icmp .le off, 3)) (ht : (pc : Int) + off = (tgt : Int)) (ha : a < 4294967296) (hb : b < 2147483648) (kt : a ≤ b ∨ 2147483648 ≤ a → mg_G K Z Y post tgt ls st g) (kf : b < a ∧ a < 2147483648 → mg_G K Z Y post (pc + 3) ls st g) : mg_G K Z Y post pc ls (iv b :: iv a :: st) g :=
  g_scmp_le tgt hd ht ha (by omega) (fun q => kt (by rw [mg_sgs hb] at q; unfold mg_sg at q; split at q <;> omega)) (fun q => kf (by rw [mg_sgs hb] at q; unfold mg_sg at q; split at q <;> omega))
end MGRAW
