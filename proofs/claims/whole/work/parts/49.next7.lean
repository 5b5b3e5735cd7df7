/-! the rows of seven -/
theorem chk7_1_0 : allK (chk 7 1) 0 1000 = true := by decide +kernel
theorem chk7_1_1 : allK (chk 7 1) 1000 1000 = true := by decide +kernel
theorem chk7_1_2 : allK (chk 7 1) 2000 1000 = true := by decide +kernel
theorem chk7_1_3 : allK (chk 7 1) 3000 1000 = true := by decide +kernel
theorem chk7_1_4 : allK (chk 7 1) 4000 1000 = true := by decide +kernel
theorem chk7_1_5 : allK (chk 7 1) 5000 39 = true := by decide +kernel
theorem chk7_2_0 : allK (chk 7 2) 0 1000 = true := by decide +kernel
theorem chk7_2_1 : allK (chk 7 2) 1000 1000 = true := by decide +kernel
theorem chk7_2_2 : allK (chk 7 2) 2000 519 = true := by decide +kernel
theorem chk7_r : ∀ z, z < 8 → 3 ≤ z → allK (chk 7 z) 0 (Wy 7 z - 1) = true := by decide +kernel
theorem chk7_1 {k : Nat} (hk : k < 5039) : chk 7 1 k = true := by
  rcases (show (0 ≤ k ∧ k < 1000) ∨ (1000 ≤ k ∧ k < 2000) ∨ (2000 ≤ k ∧ k < 3000) ∨ (3000 ≤ k ∧ k < 4000) ∨ (4000 ≤ k ∧ k < 5000) ∨ (5000 ≤ k ∧ k < 5039) by omega) with h | h | h | h | h | h
  · exact allK_ok chk7_1_0 k h.1 (by omega)
  · exact allK_ok chk7_1_1 k h.1 (by omega)
  · exact allK_ok chk7_1_2 k h.1 (by omega)
  · exact allK_ok chk7_1_3 k h.1 (by omega)
  · exact allK_ok chk7_1_4 k h.1 (by omega)
  · exact allK_ok chk7_1_5 k h.1 (by omega)
theorem chk7_2 {k : Nat} (hk : k < 2519) : chk 7 2 k = true := by
  rcases (show (0 ≤ k ∧ k < 1000) ∨ (1000 ≤ k ∧ k < 2000) ∨ (2000 ≤ k ∧ k < 2519) by omega) with h | h | h
  · exact allK_ok chk7_2_0 k h.1 (by omega)
  · exact allK_ok chk7_2_1 k h.1 (by omega)
  · exact allK_ok chk7_2_2 k h.1 (by omega)
theorem chk_ok {n z k : Nat} (h2 : 2 ≤ n) (h7 : n ≤ 7) (hz : 1 ≤ z) (hzn : z ≤ n) (hk : k + 1 < Wy n z) : chk n z k = true := by
  rcases (show n = 2 ∨ n = 3 ∨ n = 4 ∨ n = 5 ∨ n = 6 ∨ n = 7 by omega) with rfl | rfl | rfl | rfl | rfl | rfl
  · exact allK_ok (chk2 z (by omega) hz) k (by omega) (by omega)
  · exact allK_ok (chk3 z (by omega) hz) k (by omega) (by omega)
  · exact allK_ok (chk4 z (by omega) hz) k (by omega) (by omega)
  · exact allK_ok (chk5 z (by omega) hz) k (by omega) (by omega)
  · exact allK_ok (chk6 z (by omega) hz) k (by omega) (by omega)
  · rcases (show z = 1 ∨ z = 2 ∨ 3 ≤ z by omega) with rfl | rfl | h
    · have e : Wy 7 1 = 5040 := by decide
      exact chk7_1 (by omega)
    · have e : Wy 7 2 = 2520 := by decide
      exact chk7_2 (by omega)
    · exact allK_ok (chk7_r z (by omega) h) k (by omega) (by omega)
