theorem pi_r_all (v : Bool) (p : Int) (h : 0 ≤ p ∧ p ≤ 5) : pi_r v p = true := by
  have h6 : p = 0 ∨ p = 1 ∨ p = 2 ∨ p = 3 ∨ p = 4 ∨ p = 5 := by omega
  rcases h6 with rfl | rfl | rfl | rfl | rfl | rfl
  · cases v
    · exact pi_r_false_0
    · exact pi_r_true_0
  · cases v
    · exact pi_r_false_1
    · exact pi_r_true_1
  · cases v
    · exact pi_r_false_2
    · exact pi_r_true_2
  · cases v
    · exact pi_r_false_3
    · exact pi_r_true_3
  · cases v
    · exact pi_r_false_4
    · exact pi_r_true_4
  · cases v
    · exact pi_r_false_5
    · exact pi_r_true_5
theorem pj_r_all (v : Bool) (p : Int) (h : 0 ≤ p ∧ p ≤ 5) : pj_r v p = true := by
  have h6 : p = 0 ∨ p = 1 ∨ p = 2 ∨ p = 3 ∨ p = 4 ∨ p = 5 := by omega
  rcases h6 with rfl | rfl | rfl | rfl | rfl | rfl
  · cases v
    · exact pj_r_false_0
    · exact pj_r_true_0
  · cases v
    · exact pj_r_false_1
    · exact pj_r_true_1
  · cases v
    · exact pj_r_false_2
    · exact pj_r_true_2
  · cases v
    · exact pj_r_false_3
    · exact pj_r_true_3
  · cases v
    · exact pj_r_false_4
    · exact pj_r_true_4
  · cases v
    · exact pj_r_false_5
    · exact pj_r_true_5
