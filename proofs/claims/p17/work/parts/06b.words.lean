/-! SOUND INSTRUCTIONS: references compared, switches, fields -/
theorem xk_cases {P : Nat → Prop} (h1 : P 1) (h2 : P 2) (h3 : P 3) (h4 : P 4) (h5 : P 5) (h6 : P 6) (h7 : P 7) (h8 : P 8) : ∀ K, xk_o K → P K := by
  intro K hK
  unfold xk_o at hK
  rcases (show K = 1 ∨ K = 2 ∨ K = 3 ∨ K = 4 ∨ K = 5 ∨ K = 6 ∨ K = 7 ∨ K = 8 by omega) with rfl | rfl | rfl | rfl | rfl | rfl | rfl | rfl <;> assumption
theorem xk_mem {ws : List Cond} (h : ws.all (fun w => decide (w ∈ lw_tbl) && goodWord w) = true) : ∀ w ∈ ws, w ∈ x_big := fun w hw => by
  have h1 := List.all_eq_true.mp h w hw
  simp only [Bool.and_eq_true, decide_eq_true_eq] at h1
  exact x_big_in h1.1 h1.2
theorem xk_in : ∀ K, xk_o K → ∀ w ∈ u_ws (xk_C K) (xk_T K) (xk_N K), w ∈ x_big := xk_cases (xk_mem (by decide +kernel)) (xk_mem (by decide +kernel)) (xk_mem (by decide +kernel)) (xk_mem (by decide +kernel)) (xk_mem (by decide +kernel)) (xk_mem (by decide +kernel)) (xk_mem (by decide +kernel)) (xk_mem (by decide +kernel))
theorem xk_tyok : ∀ K, xk_o K → ∀ k, k < xk_N K → parseFieldDescriptor (xk_T K k).2.2.1 = some (xk_ty K k) := xk_cases tyX0_ok tyX1_ok tyX2_ok tyX3_ok tyX4_ok tyX6_ok tyX7_ok tyX8_ok
theorem xk_nm : ∀ K, xk_o K → ∀ a, a < xk_N K → ∀ b, b < xk_N K → a ≠ b → (xk_T K a).2.1 ≠ (xk_T K b).2.1 := xk_cases nmX0 nmX1 nmX2 nmX3 nmX4 nmX6 nmX7 nmX8
