/-! ===== new int[24][24] while the world is made ===== -/
section KMNA
variable {K : mg_Kt} {Z : kg_Zt} {Y : mg_Yt} {cells slots pc : Nat} {ls st : List Value} {dm : List (Nat × Nat)} {ad : Nat → Nat → Nat} {ce : Nat → Nat → va_E}
theorem k_mna {kO kR idx : Nat} (hni : (kO, 0) ∉ dm) (hnr : ∀ i, (kR, i) ∉ dm) (hne : kO ≠ kR) (hcl : Cond.classLink Y.2.1.cls idx "[[I" ∈ Y.2.2.2.2.1) (har : Cond.arrayClass .int ∈ Y.2.2.2.2.1) (h1 : cells + 25 ≤ kmc K) (h2 : slots + 600 ≤ kms K) (hd : decode Y.1 pc = .ok (.multianewarray idx 2, 4))
    (kk : ∀ (q : Nat) (r : Nat → Nat), kg_G K Z Y (cells + 25) (slots + 600) (pc + 4) ls (.ref q :: st) ((dm ++ [(kO, 0)]) ++ (List.range 24).map (fun i => (kR, i))) (fun k i => if k = kR then r i else ku ad kO 0 q k i) (fun k i => if k = kR then kz Z.2.1.1 24 else ku ce kO 0 (.inl (Z.2.1.2.2.2, 24, .inr (.inr (.inr (.inr (fun j => some (r j))))))) k i)) : kg_G K Z Y cells slots pc ls (iv 24 :: iv 24 :: st) dm ad ce := by
  sorry
end KMNA
