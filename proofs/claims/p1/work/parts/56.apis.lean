/-! ===== every call on a fresh object: class and reference answer alike ===== -/
section APIS
variable {D : va_G} {E : mg_E} {B : Nat}
theorem ap_canal (a : Nat) (u_a : a < 4294967296) : ∃ (r : Nat) (g1 g2 : mg_F), r < 4294967296 ∧ (∀ l : Launch, mg_C l (D, E, true, B) mX4_canal [rv (D, E, true, B) 4 0, iv a] qms6 (fun v g' => v = some r ∧ g' = g1)) ∧ (∀ l : Launch, mg_C l (D, E, true, B) mX5_canal [rv (D, E, true, B) 5 0, iv a] g1 (fun v g' => v = some r ∧ g' = g2)) := by
  rcases (show 2147483648 ≤ a ∨ (0 ≤ a ∧ a ≤ 1) ∨ (2 ≤ a ∧ a ≤ 24) ∨ (25 ≤ a ∧ a ≤ 2147483647) by omega) with h0 | h0 | h0 | h0
  · have h_a : 2147483648 ≤ a := by omega
    have k_a : a ≤ 4294967295 := by omega
    exact ⟨4294967295, qms6, qms6, by decide, fun l => qa1 l a h_a k_a, fun l => qa2 l a h_a k_a⟩
  · have h_a : 0 ≤ a := by omega
    have k_a : a ≤ 1 := by omega
    exact ⟨4294967295, qms6, qms6, by decide, fun l => qa3 l a h_a k_a, fun l => qa4 l a h_a k_a⟩
  · have h_a : 2 ≤ a := by omega
    have k_a : a ≤ 24 := by omega
    exact ⟨0, (qas4 a), (qas5 a), by decide, fun l => qa6 l a h_a k_a, fun l => c_mcanal l (n := a) (g := (qas4 a)) h_a k_a⟩
  · have h_a : 25 ≤ a := by omega
    have k_a : a ≤ 2147483647 := by omega
    exact ⟨4294967295, qms6, qms6, by decide, fun l => qa7 l a h_a k_a, fun l => qa8 l a h_a k_a⟩
theorem ap_link (a : Nat) (b : Nat) (u_a : a < 4294967296) (u_b : b < 4294967296) : ∃ (r : Nat) (g1 g2 : mg_F), r < 4294967296 ∧ (∀ l : Launch, mg_C l (D, E, true, B) mX4_link [rv (D, E, true, B) 4 0, iv a, iv b] qms6 (fun v g' => v = some r ∧ g' = g1)) ∧ (∀ l : Launch, mg_C l (D, E, true, B) mX5_link [rv (D, E, true, B) 5 0, iv a, iv b] g1 (fun v g' => v = some r ∧ g' = g2)) := by
  have h_a : 0 ≤ a := by omega
  have k_a : a ≤ 4294967295 := by omega
  have h_b : 0 ≤ b := by omega
  have k_b : b ≤ 4294967295 := by omega
  exact ⟨4294967295, qms6, qas6, by decide, fun l => qa9 l a h_a k_a b h_b k_b, fun l => qa11 l a h_a k_a b h_b k_b⟩
theorem ap_open (a : Nat) (b : Nat) (c : Nat) (u_a : a < 4294967296) (u_b : b < 4294967296) (u_c : c < 4294967296) : ∃ (r : Nat) (g1 g2 : mg_F), r < 4294967296 ∧ (∀ l : Launch, mg_C l (D, E, true, B) mX4_open [rv (D, E, true, B) 4 0, iv a, iv b, iv c] qms6 (fun v g' => v = some r ∧ g' = g1)) ∧ (∀ l : Launch, mg_C l (D, E, true, B) mX5_open [rv (D, E, true, B) 5 0, iv a, iv b, iv c] g1 (fun v g' => v = some r ∧ g' = g2)) := by
  have h_a : 0 ≤ a := by omega
  have k_a : a ≤ 4294967295 := by omega
  have h_b : 0 ≤ b := by omega
  have k_b : b ≤ 4294967295 := by omega
  have h_c : 0 ≤ c := by omega
  have k_c : c ≤ 4294967295 := by omega
  exact ⟨4294967295, qms6, qms6, by decide, fun l => qa12 l a h_a k_a b h_b k_b c h_c k_c, fun l => qa13 l a h_a k_a b h_b k_b c h_c k_c⟩
theorem ap_want (a : Nat) (b : Nat) (u_a : a < 4294967296) (u_b : b < 4294967296) : ∃ (r : Nat) (g1 g2 : mg_F), r < 4294967296 ∧ (∀ l : Launch, mg_C l (D, E, true, B) mX4_want [rv (D, E, true, B) 4 0, iv a, iv b] qms6 (fun v g' => v = some r ∧ g' = g1)) ∧ (∀ l : Launch, mg_C l (D, E, true, B) mX5_want [rv (D, E, true, B) 5 0, iv a, iv b] g1 (fun v g' => v = some r ∧ g' = g2)) := by
  rcases (show 2147483648 ≤ a ∨ (2 ≤ a ∧ a ≤ 2147483647) ∨ a = 0 ∨ a = 1 by omega) with h0 | h0 | rfl | rfl
  · have h_a : 2147483648 ≤ a := by omega
    have k_a : a ≤ 4294967295 := by omega
    have h_b : 0 ≤ b := by omega
    have k_b : b ≤ 4294967295 := by omega
    exact ⟨4294967295, qms6, qms6, by decide, fun l => qa17 l a h_a k_a b h_b k_b, fun l => qa20 l a h_a k_a b h_b k_b⟩
  · have h_a : 2 ≤ a := by omega
    have k_a : a ≤ 2147483647 := by omega
    have h_b : 0 ≤ b := by omega
    have k_b : b ≤ 4294967295 := by omega
    exact ⟨4294967295, qms6, qms6, by decide, fun l => qa24 l a h_a k_a b h_b k_b, fun l => qa27 l a h_a k_a b h_b k_b⟩
  · rcases (show 2147483648 ≤ b ∨ (0 ≤ b ∧ b ≤ 100) ∨ (101 ≤ b ∧ b ≤ 2147483647) by omega) with h1 | h1 | h1
    · have h_b : 2147483648 ≤ b := by omega
      have k_b : b ≤ 4294967295 := by omega
      exact ⟨4294967295, qms6, qms6, by decide, fun l => qa31 l b h_b k_b, fun l => qa34 l b h_b k_b⟩
    · have h_b : 0 ≤ b := by omega
      have k_b : b ≤ 100 := by omega
      exact ⟨1, (qas8 b), (qas23 b), by decide, fun l => qa38 l b h_b k_b, fun l => qa46 l b h_b k_b⟩
    · have h_b : 101 ≤ b := by omega
      have k_b : b ≤ 2147483647 := by omega
      exact ⟨4294967295, qms6, qms6, by decide, fun l => qa47 l b h_b k_b, fun l => qa48 l b h_b k_b⟩
  · rcases (show 2147483648 ≤ b ∨ (0 ≤ b ∧ b ≤ 100) ∨ (101 ≤ b ∧ b ≤ 2147483647) by omega) with h1 | h1 | h1
    · have h_b : 2147483648 ≤ b := by omega
      have k_b : b ≤ 4294967295 := by omega
      exact ⟨4294967295, qms6, qms6, by decide, fun l => qa52 l b h_b k_b, fun l => qa55 l b h_b k_b⟩
    · have h_b : 0 ≤ b := by omega
      have k_b : b ≤ 100 := by omega
      exact ⟨1, (qas25 b), (qas40 b), by decide, fun l => qa59 l b h_b k_b, fun l => qa67 l b h_b k_b⟩
    · have h_b : 101 ≤ b := by omega
      have k_b : b ≤ 2147483647 := by omega
      exact ⟨4294967295, qms6, qms6, by decide, fun l => qa68 l b h_b k_b, fun l => qa69 l b h_b k_b⟩
theorem ap_begin (a : Nat) (u_a : a < 4294967296) : ∃ (r : Nat) (g1 g2 : mg_F), r < 4294967296 ∧ (∀ l : Launch, mg_C l (D, E, true, B) mX4_begin [rv (D, E, true, B) 4 0, iv a] qms6 (fun v g' => v = some r ∧ g' = g1)) ∧ (∀ l : Launch, mg_C l (D, E, true, B) mX5_begin [rv (D, E, true, B) 5 0, iv a] g1 (fun v g' => v = some r ∧ g' = g2)) := by
  rcases (show 2147483648 ≤ a ∨ (2 ≤ a ∧ a ≤ 2147483647) ∨ a = 0 ∨ a = 1 by omega) with h0 | h0 | rfl | rfl
  · have h_a : 2147483648 ≤ a := by omega
    have k_a : a ≤ 4294967295 := by omega
    exact ⟨4294967295, qms6, qms6, by decide, fun l => qa70 l a h_a k_a, fun l => qa71 l a h_a k_a⟩
  · have h_a : 2 ≤ a := by omega
    have k_a : a ≤ 2147483647 := by omega
    exact ⟨4294967295, qms6, qms6, by decide, fun l => qa72 l a h_a k_a, fun l => qa73 l a h_a k_a⟩
  · exact ⟨4294967294, qms6, qms6, by decide, fun l => qa76 l, fun l => qa77 l⟩
  · exact ⟨4294967294, qms6, qms6, by decide, fun l => qa80 l, fun l => qa81 l⟩
theorem ap_end (a : Nat) (u_a : a < 4294967296) : ∃ (r : Nat) (g1 g2 : mg_F), r < 4294967296 ∧ (∀ l : Launch, mg_C l (D, E, true, B) mX4_end [rv (D, E, true, B) 4 0, iv a] qms6 (fun v g' => v = some r ∧ g' = g1)) ∧ (∀ l : Launch, mg_C l (D, E, true, B) mX5_end [rv (D, E, true, B) 5 0, iv a] g1 (fun v g' => v = some r ∧ g' = g2)) := by
  rcases (show 2147483648 ≤ a ∨ (2 ≤ a ∧ a ≤ 2147483647) ∨ a = 0 ∨ a = 1 by omega) with h0 | h0 | rfl | rfl
  · have h_a : 2147483648 ≤ a := by omega
    have k_a : a ≤ 4294967295 := by omega
    exact ⟨4294967295, qms6, qms6, by decide, fun l => qa82 l a h_a k_a, fun l => qa83 l a h_a k_a⟩
  · have h_a : 2 ≤ a := by omega
    have k_a : a ≤ 2147483647 := by omega
    exact ⟨4294967295, qms6, qms6, by decide, fun l => qa84 l a h_a k_a, fun l => qa85 l a h_a k_a⟩
  · exact ⟨4294967295, qms6, qms6, by decide, fun l => qa86 l, fun l => qa87 l⟩
  · exact ⟨4294967295, qms6, qms6, by decide, fun l => qa88 l, fun l => qa89 l⟩
theorem ap_step (a : Nat) (u_a : a < 4294967296) : ∃ (r : Nat) (g1 g2 : mg_F), r < 4294967296 ∧ (∀ l : Launch, mg_C l (D, E, true, B) mX4_step [rv (D, E, true, B) 4 0, iv a] qms6 (fun v g' => v = some r ∧ g' = g1)) ∧ (∀ l : Launch, mg_C l (D, E, true, B) mX5_step [rv (D, E, true, B) 5 0, iv a] g1 (fun v g' => v = some r ∧ g' = g2)) := by
  rcases (show 2147483648 ≤ a ∨ (2 ≤ a ∧ a ≤ 2147483647) ∨ a = 0 ∨ a = 1 by omega) with h0 | h0 | rfl | rfl
  · have h_a : 2147483648 ≤ a := by omega
    have k_a : a ≤ 4294967295 := by omega
    exact ⟨4294967295, qms6, qms6, by decide, fun l => qa90 l a h_a k_a, fun l => qa91 l a h_a k_a⟩
  · have h_a : 2 ≤ a := by omega
    have k_a : a ≤ 2147483647 := by omega
    exact ⟨4294967295, qms6, qms6, by decide, fun l => qa92 l a h_a k_a, fun l => qa93 l a h_a k_a⟩
  · exact ⟨0, qms6, qms6, by decide, fun l => qa96 l, fun l => qa97 l⟩
  · exact ⟨0, qms6, qms6, by decide, fun l => qa100 l, fun l => qa101 l⟩
theorem ap_deliver (a : Nat) (u_a : a < 4294967296) : ∃ (r : Nat) (g1 g2 : mg_F), r < 4294967296 ∧ (∀ l : Launch, mg_C l (D, E, true, B) mX4_deliver [rv (D, E, true, B) 4 0, iv a] qms6 (fun v g' => v = some r ∧ g' = g1)) ∧ (∀ l : Launch, mg_C l (D, E, true, B) mX5_deliver [rv (D, E, true, B) 5 0, iv a] g1 (fun v g' => v = some r ∧ g' = g2)) := by
  rcases (show 2147483648 ≤ a ∨ (0 ≤ a ∧ a ≤ 2147483647) by omega) with h0 | h0
  · have h_a : 2147483648 ≤ a := by omega
    have k_a : a ≤ 4294967295 := by omega
    exact ⟨4294967295, qms6, qms6, by decide, fun l => qa103 l a h_a k_a, fun l => qa104 l a h_a k_a⟩
  · have h_a : 0 ≤ a := by omega
    have k_a : a ≤ 2147483647 := by omega
    exact ⟨4294967295, qms6, qms6, by decide, fun l => qa106 l a h_a k_a, fun l => qa107 l a h_a k_a⟩
theorem ap_lose (a : Nat) (u_a : a < 4294967296) : ∃ (r : Nat) (g1 g2 : mg_F), r < 4294967296 ∧ (∀ l : Launch, mg_C l (D, E, true, B) mX4_lose [rv (D, E, true, B) 4 0, iv a] qms6 (fun v g' => v = some r ∧ g' = g1)) ∧ (∀ l : Launch, mg_C l (D, E, true, B) mX5_lose [rv (D, E, true, B) 5 0, iv a] g1 (fun v g' => v = some r ∧ g' = g2)) := by
  rcases (show 2147483648 ≤ a ∨ (0 ≤ a ∧ a ≤ 2147483647) by omega) with h0 | h0
  · have h_a : 2147483648 ≤ a := by omega
    have k_a : a ≤ 4294967295 := by omega
    exact ⟨4294967295, qms6, qms6, by decide, fun l => qa108 l a h_a k_a, fun l => qa109 l a h_a k_a⟩
  · have h_a : 0 ≤ a := by omega
    have k_a : a ≤ 2147483647 := by omega
    exact ⟨4294967295, qms6, qms6, by decide, fun l => qa110 l a h_a k_a, fun l => qa111 l a h_a k_a⟩
theorem ap_twin (a : Nat) (u_a : a < 4294967296) : ∃ (r : Nat) (g1 g2 : mg_F), r < 4294967296 ∧ (∀ l : Launch, mg_C l (D, E, true, B) mX4_twin [rv (D, E, true, B) 4 0, iv a] qms6 (fun v g' => v = some r ∧ g' = g1)) ∧ (∀ l : Launch, mg_C l (D, E, true, B) mX5_twin [rv (D, E, true, B) 5 0, iv a] g1 (fun v g' => v = some r ∧ g' = g2)) := by
  rcases (show 2147483648 ≤ a ∨ (0 ≤ a ∧ a ≤ 2147483647) by omega) with h0 | h0
  · have h_a : 2147483648 ≤ a := by omega
    have k_a : a ≤ 4294967295 := by omega
    exact ⟨4294967295, qms6, qms6, by decide, fun l => qa112 l a h_a k_a, fun l => qa113 l a h_a k_a⟩
  · have h_a : 0 ≤ a := by omega
    have k_a : a ≤ 2147483647 := by omega
    exact ⟨4294967295, qms6, qms6, by decide, fun l => qa114 l a h_a k_a, fun l => qa115 l a h_a k_a⟩
theorem ap_resend (a : Nat) (u_a : a < 4294967296) : ∃ (r : Nat) (g1 g2 : mg_F), r < 4294967296 ∧ (∀ l : Launch, mg_C l (D, E, true, B) mX4_resend [rv (D, E, true, B) 4 0, iv a] qms6 (fun v g' => v = some r ∧ g' = g1)) ∧ (∀ l : Launch, mg_C l (D, E, true, B) mX5_resend [rv (D, E, true, B) 5 0, iv a] g1 (fun v g' => v = some r ∧ g' = g2)) := by
  rcases (show 2147483648 ≤ a ∨ (2 ≤ a ∧ a ≤ 2147483647) ∨ a = 0 ∨ a = 1 by omega) with h0 | h0 | rfl | rfl
  · have h_a : 2147483648 ≤ a := by omega
    have k_a : a ≤ 4294967295 := by omega
    exact ⟨4294967295, qms6, qms6, by decide, fun l => qa116 l a h_a k_a, fun l => qa117 l a h_a k_a⟩
  · have h_a : 2 ≤ a := by omega
    have k_a : a ≤ 2147483647 := by omega
    exact ⟨4294967295, qms6, qms6, by decide, fun l => qa118 l a h_a k_a, fun l => qa119 l a h_a k_a⟩
  · exact ⟨0, qms6, qms6, by decide, fun l => qa124 l, fun l => qa129 l⟩
  · exact ⟨0, qms6, qms6, by decide, fun l => qa134 l, fun l => qa139 l⟩
theorem ap_crash (a : Nat) (u_a : a < 4294967296) : ∃ (r : Nat) (g1 g2 : mg_F), r < 4294967296 ∧ (∀ l : Launch, mg_C l (D, E, true, B) mX4_crash [rv (D, E, true, B) 4 0, iv a] qms6 (fun v g' => v = some r ∧ g' = g1)) ∧ (∀ l : Launch, mg_C l (D, E, true, B) mX5_crash [rv (D, E, true, B) 5 0, iv a] g1 (fun v g' => v = some r ∧ g' = g2)) := by
  rcases (show 2147483648 ≤ a ∨ (2 ≤ a ∧ a ≤ 2147483647) ∨ a = 0 ∨ a = 1 by omega) with h0 | h0 | rfl | rfl
  · have h_a : 2147483648 ≤ a := by omega
    have k_a : a ≤ 4294967295 := by omega
    exact ⟨4294967295, qms6, qms6, by decide, fun l => qa140 l a h_a k_a, fun l => qa141 l a h_a k_a⟩
  · have h_a : 2 ≤ a := by omega
    have k_a : a ≤ 2147483647 := by omega
    exact ⟨4294967295, qms6, qms6, by decide, fun l => qa142 l a h_a k_a, fun l => qa143 l a h_a k_a⟩
  · exact ⟨0, qas41, qas43, by decide, fun l => qa144 l, fun l => qa148 l⟩
  · exact ⟨0, qas44, qas46, by decide, fun l => qa149 l, fun l => qa153 l⟩
theorem ap_restart (a : Nat) (u_a : a < 4294967296) : ∃ (r : Nat) (g1 g2 : mg_F), r < 4294967296 ∧ (∀ l : Launch, mg_C l (D, E, true, B) mX4_restart [rv (D, E, true, B) 4 0, iv a] qms6 (fun v g' => v = some r ∧ g' = g1)) ∧ (∀ l : Launch, mg_C l (D, E, true, B) mX5_restart [rv (D, E, true, B) 5 0, iv a] g1 (fun v g' => v = some r ∧ g' = g2)) := by
  rcases (show 2147483648 ≤ a ∨ (2 ≤ a ∧ a ≤ 2147483647) ∨ a = 0 ∨ a = 1 by omega) with h0 | h0 | rfl | rfl
  · have h_a : 2147483648 ≤ a := by omega
    have k_a : a ≤ 4294967295 := by omega
    exact ⟨4294967295, qms6, qms6, by decide, fun l => qa154 l a h_a k_a, fun l => qa155 l a h_a k_a⟩
  · have h_a : 2 ≤ a := by omega
    have k_a : a ≤ 2147483647 := by omega
    exact ⟨4294967295, qms6, qms6, by decide, fun l => qa156 l a h_a k_a, fun l => qa157 l a h_a k_a⟩
  · exact ⟨4294967295, qms6, qms6, by decide, fun l => qa158 l, fun l => qa159 l⟩
  · exact ⟨4294967295, qms6, qms6, by decide, fun l => qa160 l, fun l => qa161 l⟩
theorem ap_cut (a : Nat) (b : Nat) (u_a : a < 4294967296) (u_b : b < 4294967296) : ∃ (r : Nat) (g1 g2 : mg_F), r < 4294967296 ∧ (∀ l : Launch, mg_C l (D, E, true, B) mX4_cut [rv (D, E, true, B) 4 0, iv a, iv b] qms6 (fun v g' => v = some r ∧ g' = g1)) ∧ (∀ l : Launch, mg_C l (D, E, true, B) mX5_cut [rv (D, E, true, B) 5 0, iv a, iv b] g1 (fun v g' => v = some r ∧ g' = g2)) := by
  rcases (show 2147483648 ≤ a ∨ (2 ≤ a ∧ a ≤ 2147483647) ∨ a = 0 ∨ a = 1 by omega) with h0 | h0 | rfl | rfl
  · have h_a : 2147483648 ≤ a := by omega
    have k_a : a ≤ 4294967295 := by omega
    have h_b : 0 ≤ b := by omega
    have k_b : b ≤ 4294967295 := by omega
    exact ⟨4294967295, qms6, qms6, by decide, fun l => qa162 l a h_a k_a b h_b k_b, fun l => qa163 l a h_a k_a b h_b k_b⟩
  · have h_a : 2 ≤ a := by omega
    have k_a : a ≤ 2147483647 := by omega
    have h_b : 0 ≤ b := by omega
    have k_b : b ≤ 4294967295 := by omega
    exact ⟨4294967295, qms6, qms6, by decide, fun l => qa164 l a h_a k_a b h_b k_b, fun l => qa165 l a h_a k_a b h_b k_b⟩
  · rcases (show 2147483648 ≤ b ∨ (2 ≤ b ∧ b ≤ 2147483647) ∨ b = 0 ∨ b = 1 by omega) with h1 | h1 | rfl | rfl
    · have h_b : 2147483648 ≤ b := by omega
      have k_b : b ≤ 4294967295 := by omega
      exact ⟨4294967295, qms6, qms6, by decide, fun l => qa168 l b h_b k_b, fun l => qa170 l b h_b k_b⟩
    · have h_b : 2 ≤ b := by omega
      have k_b : b ≤ 2147483647 := by omega
      exact ⟨4294967295, qms6, qms6, by decide, fun l => qa173 l b h_b k_b, fun l => qa175 l b h_b k_b⟩
    · exact ⟨4294967295, qms6, qms6, by decide, fun l => qa178 l, fun l => qa179 l⟩
    · exact ⟨0, qas48, qas50, by decide, fun l => qa191 l, fun l => qa199 l⟩
  · rcases (show 2147483648 ≤ b ∨ (2 ≤ b ∧ b ≤ 2147483647) ∨ b = 0 ∨ b = 1 by omega) with h1 | h1 | rfl | rfl
    · have h_b : 2147483648 ≤ b := by omega
      have k_b : b ≤ 4294967295 := by omega
      exact ⟨4294967295, qms6, qms6, by decide, fun l => qa200 l b h_b k_b, fun l => qa201 l b h_b k_b⟩
    · have h_b : 2 ≤ b := by omega
      have k_b : b ≤ 2147483647 := by omega
      exact ⟨4294967295, qms6, qms6, by decide, fun l => qa202 l b h_b k_b, fun l => qa203 l b h_b k_b⟩
    · exact ⟨0, qas52, qas54, by decide, fun l => qa211 l, fun l => qa219 l⟩
    · exact ⟨4294967295, qms6, qms6, by decide, fun l => qa222 l, fun l => qa223 l⟩
theorem ap_join (a : Nat) (b : Nat) (u_a : a < 4294967296) (u_b : b < 4294967296) : ∃ (r : Nat) (g1 g2 : mg_F), r < 4294967296 ∧ (∀ l : Launch, mg_C l (D, E, true, B) mX4_join [rv (D, E, true, B) 4 0, iv a, iv b] qms6 (fun v g' => v = some r ∧ g' = g1)) ∧ (∀ l : Launch, mg_C l (D, E, true, B) mX5_join [rv (D, E, true, B) 5 0, iv a, iv b] g1 (fun v g' => v = some r ∧ g' = g2)) := by
  rcases (show 2147483648 ≤ a ∨ (2 ≤ a ∧ a ≤ 2147483647) ∨ a = 0 ∨ a = 1 by omega) with h0 | h0 | rfl | rfl
  · have h_a : 2147483648 ≤ a := by omega
    have k_a : a ≤ 4294967295 := by omega
    have h_b : 0 ≤ b := by omega
    have k_b : b ≤ 4294967295 := by omega
    exact ⟨4294967295, qms6, qas6, by decide, fun l => qa224 l a h_a k_a b h_b k_b, fun l => qa226 l a h_a k_a b h_b k_b⟩
  · have h_a : 2 ≤ a := by omega
    have k_a : a ≤ 2147483647 := by omega
    have h_b : 0 ≤ b := by omega
    have k_b : b ≤ 4294967295 := by omega
    exact ⟨4294967295, qms6, qas6, by decide, fun l => qa227 l a h_a k_a b h_b k_b, fun l => qa229 l a h_a k_a b h_b k_b⟩
  · rcases (show 2147483648 ≤ b ∨ (2 ≤ b ∧ b ≤ 2147483647) ∨ b = 0 ∨ b = 1 by omega) with h1 | h1 | rfl | rfl
    · have h_b : 2147483648 ≤ b := by omega
      have k_b : b ≤ 4294967295 := by omega
      exact ⟨4294967295, qms6, qas6, by decide, fun l => qa230 l b h_b k_b, fun l => qa233 l b h_b k_b⟩
    · have h_b : 2 ≤ b := by omega
      have k_b : b ≤ 2147483647 := by omega
      exact ⟨4294967295, qms6, qas6, by decide, fun l => qa234 l b h_b k_b, fun l => qa236 l b h_b k_b⟩
    · exact ⟨4294967295, qms6, qas6, by decide, fun l => qa242 l, fun l => qa243 l⟩
    · exact ⟨4294967295, qms6, qas6, by decide, fun l => qa244 l, fun l => qa246 l⟩
  · rcases (show 2147483648 ≤ b ∨ (2 ≤ b ∧ b ≤ 2147483647) ∨ b = 0 ∨ b = 1 by omega) with h1 | h1 | rfl | rfl
    · have h_b : 2147483648 ≤ b := by omega
      have k_b : b ≤ 4294967295 := by omega
      exact ⟨4294967295, qms6, qas6, by decide, fun l => qa247 l b h_b k_b, fun l => qa248 l b h_b k_b⟩
    · have h_b : 2 ≤ b := by omega
      have k_b : b ≤ 2147483647 := by omega
      exact ⟨4294967295, qms6, qas6, by decide, fun l => qa249 l b h_b k_b, fun l => qa250 l b h_b k_b⟩
    · exact ⟨4294967295, qms6, qas6, by decide, fun l => qa252 l, fun l => qa253 l⟩
    · exact ⟨4294967295, qms6, qas6, by decide, fun l => qa254 l, fun l => qa255 l⟩
theorem ap_holder   : ∃ (r : Nat) (g1 g2 : mg_F), r < 4294967296 ∧ (∀ l : Launch, mg_C l (D, E, true, B) mX4_holder [rv (D, E, true, B) 4 0] qms6 (fun v g' => v = some r ∧ g' = g1)) ∧ (∀ l : Launch, mg_C l (D, E, true, B) mX5_holder [rv (D, E, true, B) 5 0] g1 (fun v g' => v = some r ∧ g' = g2)) := by
  exact ⟨0, qms6, qms6, by decide, fun l => qa256 l, fun l => qa257 l⟩
theorem ap_pointer (a : Nat) (u_a : a < 4294967296) : ∃ (r : Nat) (g1 g2 : mg_F), r < 4294967296 ∧ (∀ l : Launch, mg_C l (D, E, true, B) mX4_pointer [rv (D, E, true, B) 4 0, iv a] qms6 (fun v g' => v = some r ∧ g' = g1)) ∧ (∀ l : Launch, mg_C l (D, E, true, B) mX5_pointer [rv (D, E, true, B) 5 0, iv a] g1 (fun v g' => v = some r ∧ g' = g2)) := by
  rcases (show 2147483648 ≤ a ∨ (2 ≤ a ∧ a ≤ 2147483647) ∨ a = 0 ∨ a = 1 by omega) with h0 | h0 | rfl | rfl
  · have h_a : 2147483648 ≤ a := by omega
    have k_a : a ≤ 4294967295 := by omega
    exact ⟨4294967295, qms6, qms6, by decide, fun l => qa258 l a h_a k_a, fun l => qa259 l a h_a k_a⟩
  · have h_a : 2 ≤ a := by omega
    have k_a : a ≤ 2147483647 := by omega
    exact ⟨4294967295, qms6, qms6, by decide, fun l => qa260 l a h_a k_a, fun l => qa261 l a h_a k_a⟩
  · exact ⟨0, qms6, qms6, by decide, fun l => qa262 l, fun l => qa263 l⟩
  · exact ⟨0, qms6, qms6, by decide, fun l => qa264 l, fun l => qa265 l⟩
theorem ap_queue (a : Nat) (b : Nat) (c : Nat) (u_a : a < 4294967296) (u_b : b < 4294967296) (u_c : c < 2) : ∃ (r : Nat) (g1 g2 : mg_F), r < 4294967296 ∧ (∀ l : Launch, mg_C l (D, E, true, B) mX4_queue [rv (D, E, true, B) 4 0, iv a, iv b, iv c] qms6 (fun v g' => v = some r ∧ g' = g1)) ∧ (∀ l : Launch, mg_C l (D, E, true, B) mX5_queue [rv (D, E, true, B) 5 0, iv a, iv b, iv c] g1 (fun v g' => v = some r ∧ g' = g2)) := by
  rcases (show 2147483648 ≤ a ∨ (2 ≤ a ∧ a ≤ 2147483647) ∨ a = 0 ∨ a = 1 by omega) with h0 | h0 | rfl | rfl
  · rcases (show (0 ≤ c ∧ c ≤ 1) by omega) with h2
    · have h_a : 2147483648 ≤ a := by omega
      have k_a : a ≤ 4294967295 := by omega
      have h_b : 0 ≤ b := by omega
      have k_b : b ≤ 4294967295 := by omega
      have h_c : 0 ≤ c := by omega
      have k_c : c ≤ 1 := by omega
      exact ⟨4294967295, qms6, qms6, by decide, fun l => qa266 l a h_a k_a b h_b k_b c h_c k_c, fun l => qa267 l a h_a k_a b h_b k_b c h_c k_c⟩
  · rcases (show (0 ≤ c ∧ c ≤ 1) by omega) with h2
    · have h_a : 2 ≤ a := by omega
      have k_a : a ≤ 2147483647 := by omega
      have h_b : 0 ≤ b := by omega
      have k_b : b ≤ 4294967295 := by omega
      have h_c : 0 ≤ c := by omega
      have k_c : c ≤ 1 := by omega
      exact ⟨4294967295, qms6, qms6, by decide, fun l => qa268 l a h_a k_a b h_b k_b c h_c k_c, fun l => qa269 l a h_a k_a b h_b k_b c h_c k_c⟩
  · rcases (show 2147483648 ≤ b ∨ (0 ≤ b ∧ b ≤ 2147483647) by omega) with h1 | h1
    · rcases (show (0 ≤ c ∧ c ≤ 1) by omega) with h2
      · have h_b : 2147483648 ≤ b := by omega
        have k_b : b ≤ 4294967295 := by omega
        have h_c : 0 ≤ c := by omega
        have k_c : c ≤ 1 := by omega
        exact ⟨4294967295, qms6, qms6, by decide, fun l => qa270 l b h_b k_b c h_c k_c, fun l => qa271 l b h_b k_b c h_c k_c⟩
    · rcases (show (0 ≤ c ∧ c ≤ 1) by omega) with h2
      · have h_b : 0 ≤ b := by omega
        have k_b : b ≤ 2147483647 := by omega
        have h_c : 0 ≤ c := by omega
        have k_c : c ≤ 1 := by omega
        exact ⟨4294967295, qms6, qms6, by decide, fun l => qa272 l b h_b k_b c h_c k_c, fun l => qa273 l b h_b k_b c h_c k_c⟩
  · rcases (show 2147483648 ≤ b ∨ (0 ≤ b ∧ b ≤ 2147483647) by omega) with h1 | h1
    · rcases (show (0 ≤ c ∧ c ≤ 1) by omega) with h2
      · have h_b : 2147483648 ≤ b := by omega
        have k_b : b ≤ 4294967295 := by omega
        have h_c : 0 ≤ c := by omega
        have k_c : c ≤ 1 := by omega
        exact ⟨4294967295, qms6, qms6, by decide, fun l => qa274 l b h_b k_b c h_c k_c, fun l => qa275 l b h_b k_b c h_c k_c⟩
    · rcases (show (0 ≤ c ∧ c ≤ 1) by omega) with h2
      · have h_b : 0 ≤ b := by omega
        have k_b : b ≤ 2147483647 := by omega
        have h_c : 0 ≤ c := by omega
        have k_c : c ≤ 1 := by omega
        exact ⟨4294967295, qms6, qms6, by decide, fun l => qa276 l b h_b k_b c h_c k_c, fun l => qa277 l b h_b k_b c h_c k_c⟩
theorem ap_letter (a : Nat) (b : Nat) (u_a : a < 4294967296) (u_b : b < 4294967296) : ∃ (r : Nat) (g1 g2 : mg_F), r < 4294967296 ∧ (∀ l : Launch, mg_C l (D, E, true, B) mX4_letter [rv (D, E, true, B) 4 0, iv a, iv b] qms6 (fun v g' => v = some r ∧ g' = g1)) ∧ (∀ l : Launch, mg_C l (D, E, true, B) mX5_letter [rv (D, E, true, B) 5 0, iv a, iv b] g1 (fun v g' => v = some r ∧ g' = g2)) := by
  rcases (show 2147483648 ≤ a ∨ (0 ≤ a ∧ a ≤ 2147483647) by omega) with h0 | h0
  · have h_a : 2147483648 ≤ a := by omega
    have k_a : a ≤ 4294967295 := by omega
    have h_b : 0 ≤ b := by omega
    have k_b : b ≤ 4294967295 := by omega
    exact ⟨4294967295, qms6, qms6, by decide, fun l => qa278 l a h_a k_a b h_b k_b, fun l => qa279 l a h_a k_a b h_b k_b⟩
  · have h_a : 0 ≤ a := by omega
    have k_a : a ≤ 2147483647 := by omega
    have h_b : 0 ≤ b := by omega
    have k_b : b ≤ 4294967295 := by omega
    exact ⟨4294967295, qms6, qms6, by decide, fun l => qa280 l a h_a k_a b h_b k_b, fun l => qa281 l a h_a k_a b h_b k_b⟩
theorem ap_told (a : Nat) (b : Nat) (u_a : a < 4294967296) (u_b : b < 4294967296) : ∃ (r : Nat) (g1 g2 : mg_F), r < 4294967296 ∧ (∀ l : Launch, mg_C l (D, E, true, B) mX4_told [rv (D, E, true, B) 4 0, iv a, iv b] qms6 (fun v g' => v = some r ∧ g' = g1)) ∧ (∀ l : Launch, mg_C l (D, E, true, B) mX5_told [rv (D, E, true, B) 5 0, iv a, iv b] g1 (fun v g' => v = some r ∧ g' = g2)) := by
  rcases (show 2147483648 ≤ a ∨ (2 ≤ a ∧ a ≤ 2147483647) ∨ a = 0 ∨ a = 1 by omega) with h0 | h0 | rfl | rfl
  · have h_a : 2147483648 ≤ a := by omega
    have k_a : a ≤ 4294967295 := by omega
    have h_b : 0 ≤ b := by omega
    have k_b : b ≤ 4294967295 := by omega
    exact ⟨4294967295, qms6, qms6, by decide, fun l => qa282 l a h_a k_a b h_b k_b, fun l => qa283 l a h_a k_a b h_b k_b⟩
  · have h_a : 2 ≤ a := by omega
    have k_a : a ≤ 2147483647 := by omega
    have h_b : 0 ≤ b := by omega
    have k_b : b ≤ 4294967295 := by omega
    exact ⟨4294967295, qms6, qms6, by decide, fun l => qa284 l a h_a k_a b h_b k_b, fun l => qa285 l a h_a k_a b h_b k_b⟩
  · rcases (show b = 0 ∨ b = 1 ∨ b = 2 ∨ b = 3 ∨ b = 4 ∨ b = 5 ∨ b = 6 ∨ b = 7 ∨ b = 8 ∨ b = 9 ∨ 2147483648 ≤ b ∨ (10 ≤ b ∧ b ≤ 2147483647) by omega) with rfl | rfl | rfl | rfl | rfl | rfl | rfl | rfl | rfl | rfl | h1 | h1
    · exact ⟨0, qms6, qms6, by decide, fun l => qa286 l, fun l => qa287 l⟩
    · exact ⟨0, qms6, qms6, by decide, fun l => qa288 l, fun l => qa289 l⟩
    · exact ⟨0, qms6, qms6, by decide, fun l => qa290 l, fun l => qa291 l⟩
    · exact ⟨0, qms6, qms6, by decide, fun l => qa292 l, fun l => qa293 l⟩
    · exact ⟨0, qms6, qms6, by decide, fun l => qa294 l, fun l => qa295 l⟩
    · exact ⟨0, qms6, qms6, by decide, fun l => qa296 l, fun l => qa297 l⟩
    · exact ⟨0, qms6, qms6, by decide, fun l => qa298 l, fun l => qa299 l⟩
    · exact ⟨0, qms6, qms6, by decide, fun l => qa300 l, fun l => qa301 l⟩
    · exact ⟨0, qms6, qms6, by decide, fun l => qa303 l, fun l => qa304 l⟩
    · exact ⟨1, qms6, qms6, by decide, fun l => qa307 l, fun l => qa308 l⟩
    · have h_b : 2147483648 ≤ b := by omega
      have k_b : b ≤ 4294967295 := by omega
      exact ⟨4294967295, qms6, qms6, by decide, fun l => qa309 l b h_b k_b, fun l => qa310 l b h_b k_b⟩
    · have h_b : 10 ≤ b := by omega
      have k_b : b ≤ 2147483647 := by omega
      exact ⟨4294967295, qms6, qms6, by decide, fun l => qa311 l b h_b k_b, fun l => qa312 l b h_b k_b⟩
  · rcases (show b = 0 ∨ b = 1 ∨ b = 2 ∨ b = 3 ∨ b = 4 ∨ b = 5 ∨ b = 6 ∨ b = 7 ∨ b = 8 ∨ b = 9 ∨ 2147483648 ≤ b ∨ (10 ≤ b ∧ b ≤ 2147483647) by omega) with rfl | rfl | rfl | rfl | rfl | rfl | rfl | rfl | rfl | rfl | h1 | h1
    · exact ⟨0, qms6, qms6, by decide, fun l => qa313 l, fun l => qa314 l⟩
    · exact ⟨0, qms6, qms6, by decide, fun l => qa315 l, fun l => qa316 l⟩
    · exact ⟨0, qms6, qms6, by decide, fun l => qa317 l, fun l => qa318 l⟩
    · exact ⟨0, qms6, qms6, by decide, fun l => qa319 l, fun l => qa320 l⟩
    · exact ⟨0, qms6, qms6, by decide, fun l => qa321 l, fun l => qa322 l⟩
    · exact ⟨0, qms6, qms6, by decide, fun l => qa323 l, fun l => qa324 l⟩
    · exact ⟨0, qms6, qms6, by decide, fun l => qa325 l, fun l => qa326 l⟩
    · exact ⟨0, qms6, qms6, by decide, fun l => qa327 l, fun l => qa328 l⟩
    · exact ⟨0, qms6, qms6, by decide, fun l => qa330 l, fun l => qa331 l⟩
    · exact ⟨1, qms6, qms6, by decide, fun l => qa334 l, fun l => qa335 l⟩
    · have h_b : 2147483648 ≤ b := by omega
      have k_b : b ≤ 4294967295 := by omega
      exact ⟨4294967295, qms6, qms6, by decide, fun l => qa336 l b h_b k_b, fun l => qa337 l b h_b k_b⟩
    · have h_b : 10 ≤ b := by omega
      have k_b : b ≤ 2147483647 := by omega
      exact ⟨4294967295, qms6, qms6, by decide, fun l => qa338 l b h_b k_b, fun l => qa339 l b h_b k_b⟩
theorem ap_count (a : Nat) (u_a : a < 4294967296) : ∃ (r : Nat) (g1 g2 : mg_F), r < 4294967296 ∧ (∀ l : Launch, mg_C l (D, E, true, B) mX4_count [rv (D, E, true, B) 4 0, iv a] qms6 (fun v g' => v = some r ∧ g' = g1)) ∧ (∀ l : Launch, mg_C l (D, E, true, B) mX5_count [rv (D, E, true, B) 5 0, iv a] g1 (fun v g' => v = some r ∧ g' = g2)) := by
  rcases (show a = 0 ∨ a = 1 ∨ a = 2 ∨ a = 3 ∨ a = 4 ∨ a = 5 ∨ a = 6 ∨ 2147483648 ≤ a ∨ (7 ≤ a ∧ a ≤ 2147483647) by omega) with rfl | rfl | rfl | rfl | rfl | rfl | rfl | h0 | h0
  · exact ⟨2, qms6, qms6, by decide, fun l => qa340 l, fun l => qa341 l⟩
  · exact ⟨1, qms6, qms6, by decide, fun l => qa342 l, fun l => qa343 l⟩
  · exact ⟨0, qms6, qms6, by decide, fun l => qa344 l, fun l => qa345 l⟩
  · exact ⟨4294967294, qms6, qms6, by decide, fun l => qa347 l, fun l => qa348 l⟩
  · exact ⟨0, qms6, qms6, by decide, fun l => qa349 l, fun l => qa351 l⟩
  · exact ⟨1, qms6, qas6, by decide, fun l => qa353 l, fun l => qa354 l⟩
  · exact ⟨0, qms6, qms6, by decide, fun l => qa355 l, fun l => qa356 l⟩
  · have h_a : 2147483648 ≤ a := by omega
    have k_a : a ≤ 4294967295 := by omega
    exact ⟨4294967295, qms6, qms6, by decide, fun l => qa357 l a h_a k_a, fun l => qa358 l a h_a k_a⟩
  · have h_a : 7 ≤ a := by omega
    have k_a : a ≤ 2147483647 := by omega
    exact ⟨4294967295, qms6, qms6, by decide, fun l => qa359 l a h_a k_a, fun l => qa360 l a h_a k_a⟩
end APIS
