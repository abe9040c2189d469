theorem ec_0 (a b : Int) (h1 : -2147483648 ≤ a) (h2 : a ≤ 2147483647) (h3 : -2147483648 ≤ b) (h4 : b ≤ 2147483647) : ∃ a1 a2 b1 b2 : Int, a1 ≤ a ∧ a ≤ a2 ∧ b1 ≤ b ∧ b ≤ b2 ∧ er_ok (er_run 0 (a1, a2) (b1, b2)) = true := by
  exact ⟨(-2147483648), 2147483647, (-2147483648), 2147483647, by omega, by omega, by omega, by omega, er_0_0⟩
theorem ec_1 (a b : Int) (h1 : -2147483648 ≤ a) (h2 : a ≤ 2147483647) (h3 : -2147483648 ≤ b) (h4 : b ≤ 2147483647) : ∃ a1 a2 b1 b2 : Int, a1 ≤ a ∧ a ≤ a2 ∧ b1 ≤ b ∧ b ≤ b2 ∧ er_ok (er_run 1 (a1, a2) (b1, b2)) = true := by
  by_cases q0 : a ≤ (-1)
  · exact ⟨(-2147483648), (-1), (-2147483648), 2147483647, by omega, by omega, by omega, by omega, er_1_0⟩
  by_cases q1 : a ≤ 0
  · exact ⟨0, 0, (-2147483648), 2147483647, by omega, by omega, by omega, by omega, er_1_1⟩
  exact ⟨1, 2147483647, (-2147483648), 2147483647, by omega, by omega, by omega, by omega, er_1_2⟩
theorem ec_2 (a b : Int) (h1 : -2147483648 ≤ a) (h2 : a ≤ 2147483647) (h3 : -2147483648 ≤ b) (h4 : b ≤ 2147483647) : ∃ a1 a2 b1 b2 : Int, a1 ≤ a ∧ a ≤ a2 ∧ b1 ≤ b ∧ b ≤ b2 ∧ er_ok (er_run 2 (a1, a2) (b1, b2)) = true := by
  exact ⟨(-2147483648), 2147483647, (-2147483648), 2147483647, by omega, by omega, by omega, by omega, er_2_0⟩
theorem ec_3 (a b : Int) (h1 : -2147483648 ≤ a) (h2 : a ≤ 2147483647) (h3 : -2147483648 ≤ b) (h4 : b ≤ 2147483647) : ∃ a1 a2 b1 b2 : Int, a1 ≤ a ∧ a ≤ a2 ∧ b1 ≤ b ∧ b ≤ b2 ∧ er_ok (er_run 3 (a1, a2) (b1, b2)) = true := by
  by_cases q0 : a ≤ (-1)
  · exact ⟨(-2147483648), (-1), (-2147483648), 2147483647, by omega, by omega, by omega, by omega, er_3_0⟩
  by_cases q1 : a ≤ 6
  · exact ⟨0, 6, (-2147483648), 2147483647, by omega, by omega, by omega, by omega, er_3_1⟩
  by_cases q2 : a ≤ 7
  · exact ⟨7, 7, (-2147483648), 2147483647, by omega, by omega, by omega, by omega, er_3_2⟩
  exact ⟨8, 2147483647, (-2147483648), 2147483647, by omega, by omega, by omega, by omega, er_3_3⟩
theorem ec_4 (a b : Int) (h1 : -2147483648 ≤ a) (h2 : a ≤ 2147483647) (h3 : -2147483648 ≤ b) (h4 : b ≤ 2147483647) : ∃ a1 a2 b1 b2 : Int, a1 ≤ a ∧ a ≤ a2 ∧ b1 ≤ b ∧ b ≤ b2 ∧ er_ok (er_run 4 (a1, a2) (b1, b2)) = true := by
  exact ⟨(-2147483648), 2147483647, (-2147483648), 2147483647, by omega, by omega, by omega, by omega, er_4_0⟩
theorem ec_5 (a b : Int) (h1 : -2147483648 ≤ a) (h2 : a ≤ 2147483647) (h3 : -2147483648 ≤ b) (h4 : b ≤ 2147483647) : ∃ a1 a2 b1 b2 : Int, a1 ≤ a ∧ a ≤ a2 ∧ b1 ≤ b ∧ b ≤ b2 ∧ er_ok (er_run 5 (a1, a2) (b1, b2)) = true := by
  by_cases q0 : a ≤ (-1)
  · exact ⟨(-2147483648), (-1), (-2147483648), 2147483647, by omega, by omega, by omega, by omega, er_5_0⟩
  by_cases q1 : a ≤ 0
  · exact ⟨0, 0, (-2147483648), 2147483647, by omega, by omega, by omega, by omega, er_5_1⟩
  by_cases q2 : a ≤ 1
  · exact ⟨1, 1, (-2147483648), 2147483647, by omega, by omega, by omega, by omega, er_5_2⟩
  by_cases q3 : a ≤ 2
  · exact ⟨2, 2, (-2147483648), 2147483647, by omega, by omega, by omega, by omega, er_5_3⟩
  by_cases q4 : a ≤ 3
  · exact ⟨3, 3, (-2147483648), 2147483647, by omega, by omega, by omega, by omega, er_5_4⟩
  by_cases q5 : a ≤ 4
  · exact ⟨4, 4, (-2147483648), 2147483647, by omega, by omega, by omega, by omega, er_5_5⟩
  by_cases q6 : a ≤ 5
  · exact ⟨5, 5, (-2147483648), 2147483647, by omega, by omega, by omega, by omega, er_5_6⟩
  by_cases q7 : a ≤ 6
  · exact ⟨6, 6, (-2147483648), 2147483647, by omega, by omega, by omega, by omega, er_5_7⟩
  by_cases q8 : a ≤ 7
  · exact ⟨7, 7, (-2147483648), 2147483647, by omega, by omega, by omega, by omega, er_5_8⟩
  by_cases q9 : a ≤ 8
  · exact ⟨8, 8, (-2147483648), 2147483647, by omega, by omega, by omega, by omega, er_5_9⟩
  by_cases q10 : a ≤ 9
  · exact ⟨9, 9, (-2147483648), 2147483647, by omega, by omega, by omega, by omega, er_5_10⟩
  exact ⟨10, 2147483647, (-2147483648), 2147483647, by omega, by omega, by omega, by omega, er_5_11⟩
theorem ec_6 (a b : Int) (h1 : -2147483648 ≤ a) (h2 : a ≤ 2147483647) (h3 : -2147483648 ≤ b) (h4 : b ≤ 2147483647) : ∃ a1 a2 b1 b2 : Int, a1 ≤ a ∧ a ≤ a2 ∧ b1 ≤ b ∧ b ≤ b2 ∧ er_ok (er_run 6 (a1, a2) (b1, b2)) = true := by
  by_cases q0 : a ≤ (-1)
  · exact ⟨(-2147483648), (-1), (-2147483648), 2147483647, by omega, by omega, by omega, by omega, er_6_0⟩
  by_cases q1 : a ≤ 0
  · exact ⟨0, 0, (-2147483648), 2147483647, by omega, by omega, by omega, by omega, er_6_1⟩
  by_cases q2 : a ≤ 1
  · exact ⟨1, 1, (-2147483648), 2147483647, by omega, by omega, by omega, by omega, er_6_2⟩
  by_cases q3 : a ≤ 2
  · exact ⟨2, 2, (-2147483648), 2147483647, by omega, by omega, by omega, by omega, er_6_3⟩
  by_cases q4 : a ≤ 3
  · exact ⟨3, 3, (-2147483648), 2147483647, by omega, by omega, by omega, by omega, er_6_4⟩
  by_cases q5 : a ≤ 4
  · exact ⟨4, 4, (-2147483648), 2147483647, by omega, by omega, by omega, by omega, er_6_5⟩
  by_cases q6 : a ≤ 5
  · exact ⟨5, 5, (-2147483648), 2147483647, by omega, by omega, by omega, by omega, er_6_6⟩
  by_cases q7 : a ≤ 6
  · exact ⟨6, 6, (-2147483648), 2147483647, by omega, by omega, by omega, by omega, er_6_7⟩
  by_cases q8 : a ≤ 7
  · exact ⟨7, 7, (-2147483648), 2147483647, by omega, by omega, by omega, by omega, er_6_8⟩
  by_cases q9 : a ≤ 8
  · exact ⟨8, 8, (-2147483648), 2147483647, by omega, by omega, by omega, by omega, er_6_9⟩
  by_cases q10 : a ≤ 9
  · exact ⟨9, 9, (-2147483648), 2147483647, by omega, by omega, by omega, by omega, er_6_10⟩
  exact ⟨10, 2147483647, (-2147483648), 2147483647, by omega, by omega, by omega, by omega, er_6_11⟩
theorem ec_7 (a b : Int) (h1 : -2147483648 ≤ a) (h2 : a ≤ 2147483647) (h3 : -2147483648 ≤ b) (h4 : b ≤ 2147483647) : ∃ a1 a2 b1 b2 : Int, a1 ≤ a ∧ a ≤ a2 ∧ b1 ≤ b ∧ b ≤ b2 ∧ er_ok (er_run 7 (a1, a2) (b1, b2)) = true := by
  exact ⟨(-2147483648), 2147483647, (-2147483648), 2147483647, by omega, by omega, by omega, by omega, er_7_0⟩
theorem ec_8 (a b : Int) (h1 : -2147483648 ≤ a) (h2 : a ≤ 2147483647) (h3 : -2147483648 ≤ b) (h4 : b ≤ 2147483647) : ∃ a1 a2 b1 b2 : Int, a1 ≤ a ∧ a ≤ a2 ∧ b1 ≤ b ∧ b ≤ b2 ∧ er_ok (er_run 8 (a1, a2) (b1, b2)) = true := by
  exact ⟨(-2147483648), 2147483647, (-2147483648), 2147483647, by omega, by omega, by omega, by omega, er_8_0⟩
theorem ec_9 (a b : Int) (h1 : -2147483648 ≤ a) (h2 : a ≤ 2147483647) (h3 : -2147483648 ≤ b) (h4 : b ≤ 2147483647) : ∃ a1 a2 b1 b2 : Int, a1 ≤ a ∧ a ≤ a2 ∧ b1 ≤ b ∧ b ≤ b2 ∧ er_ok (er_run 9 (a1, a2) (b1, b2)) = true := by
  exact ⟨(-2147483648), 2147483647, (-2147483648), 2147483647, by omega, by omega, by omega, by omega, er_9_0⟩
theorem ec_10 (a b : Int) (h1 : -2147483648 ≤ a) (h2 : a ≤ 2147483647) (h3 : -2147483648 ≤ b) (h4 : b ≤ 2147483647) : ∃ a1 a2 b1 b2 : Int, a1 ≤ a ∧ a ≤ a2 ∧ b1 ≤ b ∧ b ≤ b2 ∧ er_ok (er_run 10 (a1, a2) (b1, b2)) = true := by
  exact ⟨(-2147483648), 2147483647, (-2147483648), 2147483647, by omega, by omega, by omega, by omega, er_10_0⟩
theorem ec_11 (a b : Int) (h1 : -2147483648 ≤ a) (h2 : a ≤ 2147483647) (h3 : -2147483648 ≤ b) (h4 : b ≤ 2147483647) : ∃ a1 a2 b1 b2 : Int, a1 ≤ a ∧ a ≤ a2 ∧ b1 ≤ b ∧ b ≤ b2 ∧ er_ok (er_run 11 (a1, a2) (b1, b2)) = true := by
  by_cases q0 : a ≤ (-1)
  · exact ⟨(-2147483648), (-1), (-2147483648), 2147483647, by omega, by omega, by omega, by omega, er_11_0⟩
  by_cases q1 : a ≤ 0
  · exact ⟨0, 0, (-2147483648), 2147483647, by omega, by omega, by omega, by omega, er_11_1⟩
  by_cases q2 : a ≤ 1
  · exact ⟨1, 1, (-2147483648), 2147483647, by omega, by omega, by omega, by omega, er_11_2⟩
  by_cases q3 : a ≤ 2
  · exact ⟨2, 2, (-2147483648), 2147483647, by omega, by omega, by omega, by omega, er_11_3⟩
  by_cases q4 : a ≤ 3
  · exact ⟨3, 3, (-2147483648), 2147483647, by omega, by omega, by omega, by omega, er_11_4⟩
  by_cases q5 : a ≤ 4
  · exact ⟨4, 4, (-2147483648), 2147483647, by omega, by omega, by omega, by omega, er_11_5⟩
  by_cases q6 : a ≤ 5
  · exact ⟨5, 5, (-2147483648), 2147483647, by omega, by omega, by omega, by omega, er_11_6⟩
  by_cases q7 : a ≤ 6
  · exact ⟨6, 6, (-2147483648), 2147483647, by omega, by omega, by omega, by omega, er_11_7⟩
  by_cases q8 : a ≤ 7
  · exact ⟨7, 7, (-2147483648), 2147483647, by omega, by omega, by omega, by omega, er_11_8⟩
  by_cases q9 : a ≤ 8
  · exact ⟨8, 8, (-2147483648), 2147483647, by omega, by omega, by omega, by omega, er_11_9⟩
  by_cases q10 : a ≤ 9
  · exact ⟨9, 9, (-2147483648), 2147483647, by omega, by omega, by omega, by omega, er_11_10⟩
  exact ⟨10, 2147483647, (-2147483648), 2147483647, by omega, by omega, by omega, by omega, er_11_11⟩
theorem ec_12 (a b : Int) (h1 : -2147483648 ≤ a) (h2 : a ≤ 2147483647) (h3 : -2147483648 ≤ b) (h4 : b ≤ 2147483647) : ∃ a1 a2 b1 b2 : Int, a1 ≤ a ∧ a ≤ a2 ∧ b1 ≤ b ∧ b ≤ b2 ∧ er_ok (er_run 12 (a1, a2) (b1, b2)) = true := by
  by_cases q0 : a ≤ (-1)
  · exact ⟨(-2147483648), (-1), (-2147483648), 2147483647, by omega, by omega, by omega, by omega, er_12_0⟩
  by_cases q1 : a ≤ 0
  · exact ⟨0, 0, (-2147483648), 2147483647, by omega, by omega, by omega, by omega, er_12_1⟩
  by_cases q2 : a ≤ 1
  · exact ⟨1, 1, (-2147483648), 2147483647, by omega, by omega, by omega, by omega, er_12_2⟩
  by_cases q3 : a ≤ 2
  · exact ⟨2, 2, (-2147483648), 2147483647, by omega, by omega, by omega, by omega, er_12_3⟩
  by_cases q4 : a ≤ 3
  · exact ⟨3, 3, (-2147483648), 2147483647, by omega, by omega, by omega, by omega, er_12_4⟩
  by_cases q5 : a ≤ 4
  · exact ⟨4, 4, (-2147483648), 2147483647, by omega, by omega, by omega, by omega, er_12_5⟩
  by_cases q6 : a ≤ 5
  · exact ⟨5, 5, (-2147483648), 2147483647, by omega, by omega, by omega, by omega, er_12_6⟩
  by_cases q7 : a ≤ 6
  · exact ⟨6, 6, (-2147483648), 2147483647, by omega, by omega, by omega, by omega, er_12_7⟩
  by_cases q8 : a ≤ 7
  · exact ⟨7, 7, (-2147483648), 2147483647, by omega, by omega, by omega, by omega, er_12_8⟩
  by_cases q9 : a ≤ 8
  · exact ⟨8, 8, (-2147483648), 2147483647, by omega, by omega, by omega, by omega, er_12_9⟩
  by_cases q10 : a ≤ 9
  · exact ⟨9, 9, (-2147483648), 2147483647, by omega, by omega, by omega, by omega, er_12_10⟩
  exact ⟨10, 2147483647, (-2147483648), 2147483647, by omega, by omega, by omega, by omega, er_12_11⟩
theorem ec_13 (a b : Int) (h1 : -2147483648 ≤ a) (h2 : a ≤ 2147483647) (h3 : -2147483648 ≤ b) (h4 : b ≤ 2147483647) : ∃ a1 a2 b1 b2 : Int, a1 ≤ a ∧ a ≤ a2 ∧ b1 ≤ b ∧ b ≤ b2 ∧ er_ok (er_run 13 (a1, a2) (b1, b2)) = true := by
  by_cases q0 : a ≤ (-1)
  · exact ⟨(-2147483648), (-1), (-2147483648), 2147483647, by omega, by omega, by omega, by omega, er_13_0⟩
  by_cases q1 : a ≤ 0
  · exact ⟨0, 0, (-2147483648), 2147483647, by omega, by omega, by omega, by omega, er_13_1⟩
  by_cases q2 : a ≤ 1
  · exact ⟨1, 1, (-2147483648), 2147483647, by omega, by omega, by omega, by omega, er_13_2⟩
  by_cases q3 : a ≤ 2
  · exact ⟨2, 2, (-2147483648), 2147483647, by omega, by omega, by omega, by omega, er_13_3⟩
  by_cases q4 : a ≤ 3
  · exact ⟨3, 3, (-2147483648), 2147483647, by omega, by omega, by omega, by omega, er_13_4⟩
  by_cases q5 : a ≤ 4
  · exact ⟨4, 4, (-2147483648), 2147483647, by omega, by omega, by omega, by omega, er_13_5⟩
  by_cases q6 : a ≤ 5
  · exact ⟨5, 5, (-2147483648), 2147483647, by omega, by omega, by omega, by omega, er_13_6⟩
  by_cases q7 : a ≤ 6
  · exact ⟨6, 6, (-2147483648), 2147483647, by omega, by omega, by omega, by omega, er_13_7⟩
  by_cases q8 : a ≤ 7
  · exact ⟨7, 7, (-2147483648), 2147483647, by omega, by omega, by omega, by omega, er_13_8⟩
  by_cases q9 : a ≤ 8
  · exact ⟨8, 8, (-2147483648), 2147483647, by omega, by omega, by omega, by omega, er_13_9⟩
  by_cases q10 : a ≤ 9
  · exact ⟨9, 9, (-2147483648), 2147483647, by omega, by omega, by omega, by omega, er_13_10⟩
  exact ⟨10, 2147483647, (-2147483648), 2147483647, by omega, by omega, by omega, by omega, er_13_11⟩
theorem ec_14 (a b : Int) (h1 : -2147483648 ≤ a) (h2 : a ≤ 2147483647) (h3 : -2147483648 ≤ b) (h4 : b ≤ 2147483647) : ∃ a1 a2 b1 b2 : Int, a1 ≤ a ∧ a ≤ a2 ∧ b1 ≤ b ∧ b ≤ b2 ∧ er_ok (er_run 14 (a1, a2) (b1, b2)) = true := by
  by_cases q0 : a ≤ (-1)
  · exact ⟨(-2147483648), (-1), (-2147483648), 2147483647, by omega, by omega, by omega, by omega, er_14_0⟩
  by_cases q1 : a ≤ 0
  · exact ⟨0, 0, (-2147483648), 2147483647, by omega, by omega, by omega, by omega, er_14_1⟩
  by_cases q2 : a ≤ 1
  · exact ⟨1, 1, (-2147483648), 2147483647, by omega, by omega, by omega, by omega, er_14_2⟩
  by_cases q3 : a ≤ 2
  · exact ⟨2, 2, (-2147483648), 2147483647, by omega, by omega, by omega, by omega, er_14_3⟩
  by_cases q4 : a ≤ 3
  · exact ⟨3, 3, (-2147483648), 2147483647, by omega, by omega, by omega, by omega, er_14_4⟩
  by_cases q5 : a ≤ 4
  · exact ⟨4, 4, (-2147483648), 2147483647, by omega, by omega, by omega, by omega, er_14_5⟩
  by_cases q6 : a ≤ 5
  · exact ⟨5, 5, (-2147483648), 2147483647, by omega, by omega, by omega, by omega, er_14_6⟩
  by_cases q7 : a ≤ 6
  · exact ⟨6, 6, (-2147483648), 2147483647, by omega, by omega, by omega, by omega, er_14_7⟩
  by_cases q8 : a ≤ 7
  · exact ⟨7, 7, (-2147483648), 2147483647, by omega, by omega, by omega, by omega, er_14_8⟩
  by_cases q9 : a ≤ 8
  · exact ⟨8, 8, (-2147483648), 2147483647, by omega, by omega, by omega, by omega, er_14_9⟩
  by_cases q10 : a ≤ 9
  · exact ⟨9, 9, (-2147483648), 2147483647, by omega, by omega, by omega, by omega, er_14_10⟩
  exact ⟨10, 2147483647, (-2147483648), 2147483647, by omega, by omega, by omega, by omega, er_14_11⟩
theorem ec_15 (a b : Int) (h1 : -2147483648 ≤ a) (h2 : a ≤ 2147483647) (h3 : -2147483648 ≤ b) (h4 : b ≤ 2147483647) : ∃ a1 a2 b1 b2 : Int, a1 ≤ a ∧ a ≤ a2 ∧ b1 ≤ b ∧ b ≤ b2 ∧ er_ok (er_run 15 (a1, a2) (b1, b2)) = true := by
  by_cases q0 : a ≤ (-1)
  · exact ⟨(-2147483648), (-1), (-2147483648), 2147483647, by omega, by omega, by omega, by omega, er_15_0⟩
  by_cases q1 : a ≤ 0
  · exact ⟨0, 0, (-2147483648), 2147483647, by omega, by omega, by omega, by omega, er_15_1⟩
  by_cases q2 : a ≤ 1
  · exact ⟨1, 1, (-2147483648), 2147483647, by omega, by omega, by omega, by omega, er_15_2⟩
  by_cases q3 : a ≤ 2
  · exact ⟨2, 2, (-2147483648), 2147483647, by omega, by omega, by omega, by omega, er_15_3⟩
  by_cases q4 : a ≤ 3
  · exact ⟨3, 3, (-2147483648), 2147483647, by omega, by omega, by omega, by omega, er_15_4⟩
  by_cases q5 : a ≤ 4
  · exact ⟨4, 4, (-2147483648), 2147483647, by omega, by omega, by omega, by omega, er_15_5⟩
  by_cases q6 : a ≤ 5
  · exact ⟨5, 5, (-2147483648), 2147483647, by omega, by omega, by omega, by omega, er_15_6⟩
  by_cases q7 : a ≤ 6
  · exact ⟨6, 6, (-2147483648), 2147483647, by omega, by omega, by omega, by omega, er_15_7⟩
  by_cases q8 : a ≤ 7
  · exact ⟨7, 7, (-2147483648), 2147483647, by omega, by omega, by omega, by omega, er_15_8⟩
  by_cases q9 : a ≤ 8
  · exact ⟨8, 8, (-2147483648), 2147483647, by omega, by omega, by omega, by omega, er_15_9⟩
  by_cases q10 : a ≤ 9
  · exact ⟨9, 9, (-2147483648), 2147483647, by omega, by omega, by omega, by omega, er_15_10⟩
  exact ⟨10, 2147483647, (-2147483648), 2147483647, by omega, by omega, by omega, by omega, er_15_11⟩
theorem ec_16 (a b : Int) (h1 : -2147483648 ≤ a) (h2 : a ≤ 2147483647) (h3 : -2147483648 ≤ b) (h4 : b ≤ 2147483647) : ∃ a1 a2 b1 b2 : Int, a1 ≤ a ∧ a ≤ a2 ∧ b1 ≤ b ∧ b ≤ b2 ∧ er_ok (er_run 16 (a1, a2) (b1, b2)) = true := by
  by_cases q0 : a ≤ (-1)
  · exact ⟨(-2147483648), (-1), (-2147483648), 2147483647, by omega, by omega, by omega, by omega, er_16_0⟩
  by_cases q1 : a ≤ 0
  · exact ⟨0, 0, (-2147483648), 2147483647, by omega, by omega, by omega, by omega, er_16_1⟩
  by_cases q2 : a ≤ 1
  · exact ⟨1, 1, (-2147483648), 2147483647, by omega, by omega, by omega, by omega, er_16_2⟩
  by_cases q3 : a ≤ 2
  · exact ⟨2, 2, (-2147483648), 2147483647, by omega, by omega, by omega, by omega, er_16_3⟩
  by_cases q4 : a ≤ 3
  · exact ⟨3, 3, (-2147483648), 2147483647, by omega, by omega, by omega, by omega, er_16_4⟩
  by_cases q5 : a ≤ 4
  · exact ⟨4, 4, (-2147483648), 2147483647, by omega, by omega, by omega, by omega, er_16_5⟩
  by_cases q6 : a ≤ 5
  · exact ⟨5, 5, (-2147483648), 2147483647, by omega, by omega, by omega, by omega, er_16_6⟩
  by_cases q7 : a ≤ 6
  · exact ⟨6, 6, (-2147483648), 2147483647, by omega, by omega, by omega, by omega, er_16_7⟩
  by_cases q8 : a ≤ 7
  · exact ⟨7, 7, (-2147483648), 2147483647, by omega, by omega, by omega, by omega, er_16_8⟩
  by_cases q9 : a ≤ 8
  · exact ⟨8, 8, (-2147483648), 2147483647, by omega, by omega, by omega, by omega, er_16_9⟩
  by_cases q10 : a ≤ 9
  · exact ⟨9, 9, (-2147483648), 2147483647, by omega, by omega, by omega, by omega, er_16_10⟩
  exact ⟨10, 2147483647, (-2147483648), 2147483647, by omega, by omega, by omega, by omega, er_16_11⟩
theorem ec_17 (a b : Int) (h1 : -2147483648 ≤ a) (h2 : a ≤ 2147483647) (h3 : -2147483648 ≤ b) (h4 : b ≤ 2147483647) : ∃ a1 a2 b1 b2 : Int, a1 ≤ a ∧ a ≤ a2 ∧ b1 ≤ b ∧ b ≤ b2 ∧ er_ok (er_run 17 (a1, a2) (b1, b2)) = true := by
  exact ⟨(-2147483648), 2147483647, (-2147483648), 2147483647, by omega, by omega, by omega, by omega, er_17_0⟩
theorem ec_18 (a b : Int) (h1 : -2147483648 ≤ a) (h2 : a ≤ 2147483647) (h3 : -2147483648 ≤ b) (h4 : b ≤ 2147483647) : ∃ a1 a2 b1 b2 : Int, a1 ≤ a ∧ a ≤ a2 ∧ b1 ≤ b ∧ b ≤ b2 ∧ er_ok (er_run 18 (a1, a2) (b1, b2)) = true := by
  exact ⟨(-2147483648), 2147483647, (-2147483648), 2147483647, by omega, by omega, by omega, by omega, er_18_0⟩
theorem ec_19 (a b : Int) (h1 : -2147483648 ≤ a) (h2 : a ≤ 2147483647) (h3 : -2147483648 ≤ b) (h4 : b ≤ 2147483647) : ∃ a1 a2 b1 b2 : Int, a1 ≤ a ∧ a ≤ a2 ∧ b1 ≤ b ∧ b ≤ b2 ∧ er_ok (er_run 19 (a1, a2) (b1, b2)) = true := by
  exact ⟨(-2147483648), 2147483647, (-2147483648), 2147483647, by omega, by omega, by omega, by omega, er_19_0⟩
theorem ec_20 (a b : Int) (h1 : -2147483648 ≤ a) (h2 : a ≤ 2147483647) (h3 : -2147483648 ≤ b) (h4 : b ≤ 2147483647) : ∃ a1 a2 b1 b2 : Int, a1 ≤ a ∧ a ≤ a2 ∧ b1 ≤ b ∧ b ≤ b2 ∧ er_ok (er_run 20 (a1, a2) (b1, b2)) = true := by
  by_cases q0 : a ≤ (-1)
  · exact ⟨(-2147483648), (-1), (-2147483648), 2147483647, by omega, by omega, by omega, by omega, er_20_0⟩
  by_cases q1 : a ≤ 0
  · exact ⟨0, 0, (-2147483648), 2147483647, by omega, by omega, by omega, by omega, er_20_1⟩
  by_cases q2 : a ≤ 1
  · exact ⟨1, 1, (-2147483648), 2147483647, by omega, by omega, by omega, by omega, er_20_2⟩
  by_cases q3 : a ≤ 2
  · exact ⟨2, 2, (-2147483648), 2147483647, by omega, by omega, by omega, by omega, er_20_3⟩
  by_cases q4 : a ≤ 3
  · exact ⟨3, 3, (-2147483648), 2147483647, by omega, by omega, by omega, by omega, er_20_4⟩
  by_cases q5 : a ≤ 4
  · exact ⟨4, 4, (-2147483648), 2147483647, by omega, by omega, by omega, by omega, er_20_5⟩
  by_cases q6 : a ≤ 5
  · exact ⟨5, 5, (-2147483648), 2147483647, by omega, by omega, by omega, by omega, er_20_6⟩
  by_cases q7 : a ≤ 6
  · exact ⟨6, 6, (-2147483648), 2147483647, by omega, by omega, by omega, by omega, er_20_7⟩
  by_cases q8 : a ≤ 7
  · exact ⟨7, 7, (-2147483648), 2147483647, by omega, by omega, by omega, by omega, er_20_8⟩
  by_cases q9 : a ≤ 8
  · exact ⟨8, 8, (-2147483648), 2147483647, by omega, by omega, by omega, by omega, er_20_9⟩
  by_cases q10 : a ≤ 9
  · exact ⟨9, 9, (-2147483648), 2147483647, by omega, by omega, by omega, by omega, er_20_10⟩
  exact ⟨10, 2147483647, (-2147483648), 2147483647, by omega, by omega, by omega, by omega, er_20_11⟩
theorem ec_21 (a b : Int) (h1 : -2147483648 ≤ a) (h2 : a ≤ 2147483647) (h3 : -2147483648 ≤ b) (h4 : b ≤ 2147483647) : ∃ a1 a2 b1 b2 : Int, a1 ≤ a ∧ a ≤ a2 ∧ b1 ≤ b ∧ b ≤ b2 ∧ er_ok (er_run 21 (a1, a2) (b1, b2)) = true := by
  by_cases q0 : a ≤ (-1)
  · exact ⟨(-2147483648), (-1), (-2147483648), 2147483647, by omega, by omega, by omega, by omega, er_21_0⟩
  by_cases q1 : a ≤ 0
  · exact ⟨0, 0, (-2147483648), 2147483647, by omega, by omega, by omega, by omega, er_21_1⟩
  by_cases q2 : a ≤ 1
  · exact ⟨1, 1, (-2147483648), 2147483647, by omega, by omega, by omega, by omega, er_21_2⟩
  by_cases q3 : a ≤ 2
  · exact ⟨2, 2, (-2147483648), 2147483647, by omega, by omega, by omega, by omega, er_21_3⟩
  by_cases q4 : a ≤ 3
  · exact ⟨3, 3, (-2147483648), 2147483647, by omega, by omega, by omega, by omega, er_21_4⟩
  by_cases q5 : a ≤ 4
  · exact ⟨4, 4, (-2147483648), 2147483647, by omega, by omega, by omega, by omega, er_21_5⟩
  by_cases q6 : a ≤ 5
  · exact ⟨5, 5, (-2147483648), 2147483647, by omega, by omega, by omega, by omega, er_21_6⟩
  by_cases q7 : a ≤ 6
  · exact ⟨6, 6, (-2147483648), 2147483647, by omega, by omega, by omega, by omega, er_21_7⟩
  by_cases q8 : a ≤ 7
  · exact ⟨7, 7, (-2147483648), 2147483647, by omega, by omega, by omega, by omega, er_21_8⟩
  by_cases q9 : a ≤ 8
  · exact ⟨8, 8, (-2147483648), 2147483647, by omega, by omega, by omega, by omega, er_21_9⟩
  by_cases q10 : a ≤ 9
  · exact ⟨9, 9, (-2147483648), 2147483647, by omega, by omega, by omega, by omega, er_21_10⟩
  exact ⟨10, 2147483647, (-2147483648), 2147483647, by omega, by omega, by omega, by omega, er_21_11⟩
theorem ec_22 (a b : Int) (h1 : -2147483648 ≤ a) (h2 : a ≤ 2147483647) (h3 : -2147483648 ≤ b) (h4 : b ≤ 2147483647) : ∃ a1 a2 b1 b2 : Int, a1 ≤ a ∧ a ≤ a2 ∧ b1 ≤ b ∧ b ≤ b2 ∧ er_ok (er_run 22 (a1, a2) (b1, b2)) = true := by
  by_cases q0 : a ≤ (-1) ∧ b ≤ (-1)
  · exact ⟨(-2147483648), (-1), (-2147483648), (-1), by omega, by omega, by omega, by omega, er_22_0⟩
  by_cases q1 : a ≤ (-1)
  · exact ⟨(-2147483648), (-1), 0, 2147483647, by omega, by omega, by omega, by omega, er_22_1⟩
  by_cases q2 : a ≤ 0 ∧ b ≤ (-1)
  · exact ⟨0, 0, (-2147483648), (-1), by omega, by omega, by omega, by omega, er_22_2⟩
  by_cases q3 : a ≤ 0 ∧ b ≤ 0
  · exact ⟨0, 0, 0, 0, by omega, by omega, by omega, by omega, er_22_3⟩
  by_cases q4 : a ≤ 0 ∧ b ≤ 1
  · exact ⟨0, 0, 1, 1, by omega, by omega, by omega, by omega, er_22_4⟩
  by_cases q5 : a ≤ 0 ∧ b ≤ 2
  · exact ⟨0, 0, 2, 2, by omega, by omega, by omega, by omega, er_22_5⟩
  by_cases q6 : a ≤ 0 ∧ b ≤ 3
  · exact ⟨0, 0, 3, 3, by omega, by omega, by omega, by omega, er_22_6⟩
  by_cases q7 : a ≤ 0 ∧ b ≤ 4
  · exact ⟨0, 0, 4, 4, by omega, by omega, by omega, by omega, er_22_7⟩
  by_cases q8 : a ≤ 0 ∧ b ≤ 5
  · exact ⟨0, 0, 5, 5, by omega, by omega, by omega, by omega, er_22_8⟩
  by_cases q9 : a ≤ 0
  · exact ⟨0, 0, 6, 2147483647, by omega, by omega, by omega, by omega, er_22_9⟩
  by_cases q10 : a ≤ 1 ∧ b ≤ (-1)
  · exact ⟨1, 1, (-2147483648), (-1), by omega, by omega, by omega, by omega, er_22_10⟩
  by_cases q11 : a ≤ 1 ∧ b ≤ 0
  · exact ⟨1, 1, 0, 0, by omega, by omega, by omega, by omega, er_22_11⟩
  by_cases q12 : a ≤ 1 ∧ b ≤ 1
  · exact ⟨1, 1, 1, 1, by omega, by omega, by omega, by omega, er_22_12⟩
  by_cases q13 : a ≤ 1 ∧ b ≤ 2
  · exact ⟨1, 1, 2, 2, by omega, by omega, by omega, by omega, er_22_13⟩
  by_cases q14 : a ≤ 1 ∧ b ≤ 3
  · exact ⟨1, 1, 3, 3, by omega, by omega, by omega, by omega, er_22_14⟩
  by_cases q15 : a ≤ 1 ∧ b ≤ 4
  · exact ⟨1, 1, 4, 4, by omega, by omega, by omega, by omega, er_22_15⟩
  by_cases q16 : a ≤ 1 ∧ b ≤ 24
  · exact ⟨1, 1, 5, 24, by omega, by omega, by omega, by omega, er_22_16⟩
  by_cases q17 : a ≤ 1
  · exact ⟨1, 1, 25, 2147483647, by omega, by omega, by omega, by omega, er_22_17⟩
  by_cases q18 : a ≤ 2 ∧ b ≤ (-1)
  · exact ⟨2, 2, (-2147483648), (-1), by omega, by omega, by omega, by omega, er_22_18⟩
  by_cases q19 : a ≤ 2 ∧ b ≤ 0
  · exact ⟨2, 2, 0, 0, by omega, by omega, by omega, by omega, er_22_19⟩
  by_cases q20 : a ≤ 2 ∧ b ≤ 1
  · exact ⟨2, 2, 1, 1, by omega, by omega, by omega, by omega, er_22_20⟩
  by_cases q21 : a ≤ 2 ∧ b ≤ 2
  · exact ⟨2, 2, 2, 2, by omega, by omega, by omega, by omega, er_22_21⟩
  by_cases q22 : a ≤ 2 ∧ b ≤ 3
  · exact ⟨2, 2, 3, 3, by omega, by omega, by omega, by omega, er_22_22⟩
  by_cases q23 : a ≤ 2 ∧ b ≤ 4
  · exact ⟨2, 2, 4, 4, by omega, by omega, by omega, by omega, er_22_23⟩
  by_cases q24 : a ≤ 2 ∧ b ≤ 9
  · exact ⟨2, 2, 5, 9, by omega, by omega, by omega, by omega, er_22_24⟩
  by_cases q25 : a ≤ 2
  · exact ⟨2, 2, 10, 2147483647, by omega, by omega, by omega, by omega, er_22_25⟩
  by_cases q26 : a ≤ 3 ∧ b ≤ (-1)
  · exact ⟨3, 3, (-2147483648), (-1), by omega, by omega, by omega, by omega, er_22_26⟩
  by_cases q27 : a ≤ 3 ∧ b ≤ 0
  · exact ⟨3, 3, 0, 0, by omega, by omega, by omega, by omega, er_22_27⟩
  by_cases q28 : a ≤ 3 ∧ b ≤ 1
  · exact ⟨3, 3, 1, 1, by omega, by omega, by omega, by omega, er_22_28⟩
  by_cases q29 : a ≤ 3 ∧ b ≤ 2
  · exact ⟨3, 3, 2, 2, by omega, by omega, by omega, by omega, er_22_29⟩
  by_cases q30 : a ≤ 3 ∧ b ≤ 3
  · exact ⟨3, 3, 3, 3, by omega, by omega, by omega, by omega, er_22_30⟩
  by_cases q31 : a ≤ 3 ∧ b ≤ 4
  · exact ⟨3, 3, 4, 4, by omega, by omega, by omega, by omega, er_22_31⟩
  by_cases q32 : a ≤ 3
  · exact ⟨3, 3, 5, 2147483647, by omega, by omega, by omega, by omega, er_22_32⟩
  by_cases q33 : a ≤ 4 ∧ b ≤ (-1)
  · exact ⟨4, 4, (-2147483648), (-1), by omega, by omega, by omega, by omega, er_22_33⟩
  by_cases q34 : a ≤ 4 ∧ b ≤ 0
  · exact ⟨4, 4, 0, 0, by omega, by omega, by omega, by omega, er_22_34⟩
  by_cases q35 : a ≤ 4 ∧ b ≤ 1
  · exact ⟨4, 4, 1, 1, by omega, by omega, by omega, by omega, er_22_35⟩
  by_cases q36 : a ≤ 4 ∧ b ≤ 2
  · exact ⟨4, 4, 2, 2, by omega, by omega, by omega, by omega, er_22_36⟩
  by_cases q37 : a ≤ 4 ∧ b ≤ 3
  · exact ⟨4, 4, 3, 3, by omega, by omega, by omega, by omega, er_22_37⟩
  by_cases q38 : a ≤ 4 ∧ b ≤ 4
  · exact ⟨4, 4, 4, 4, by omega, by omega, by omega, by omega, er_22_38⟩
  by_cases q39 : a ≤ 4 ∧ b ≤ 9
  · exact ⟨4, 4, 5, 9, by omega, by omega, by omega, by omega, er_22_39⟩
  by_cases q40 : a ≤ 4
  · exact ⟨4, 4, 10, 2147483647, by omega, by omega, by omega, by omega, er_22_40⟩
  by_cases q41 : a ≤ 2147483647 ∧ b ≤ (-1)
  · exact ⟨5, 2147483647, (-2147483648), (-1), by omega, by omega, by omega, by omega, er_22_41⟩
  by_cases q42 : a ≤ 2147483647 ∧ b ≤ 4
  · exact ⟨5, 2147483647, 0, 4, by omega, by omega, by omega, by omega, er_22_42⟩
  exact ⟨5, 2147483647, 5, 2147483647, by omega, by omega, by omega, by omega, er_22_43⟩
theorem ec_23 (a b : Int) (h1 : -2147483648 ≤ a) (h2 : a ≤ 2147483647) (h3 : -2147483648 ≤ b) (h4 : b ≤ 2147483647) : ∃ a1 a2 b1 b2 : Int, a1 ≤ a ∧ a ≤ a2 ∧ b1 ≤ b ∧ b ≤ b2 ∧ er_ok (er_run 23 (a1, a2) (b1, b2)) = true := by
  exact ⟨(-2147483648), 2147483647, (-2147483648), 2147483647, by omega, by omega, by omega, by omega, er_23_0⟩
theorem ec_24 (a b : Int) (h1 : -2147483648 ≤ a) (h2 : a ≤ 2147483647) (h3 : -2147483648 ≤ b) (h4 : b ≤ 2147483647) : ∃ a1 a2 b1 b2 : Int, a1 ≤ a ∧ a ≤ a2 ∧ b1 ≤ b ∧ b ≤ b2 ∧ er_ok (er_run 24 (a1, a2) (b1, b2)) = true := by
  exact ⟨(-2147483648), 2147483647, (-2147483648), 2147483647, by omega, by omega, by omega, by omega, er_24_0⟩
theorem ec_25 (a b : Int) (h1 : -2147483648 ≤ a) (h2 : a ≤ 2147483647) (h3 : -2147483648 ≤ b) (h4 : b ≤ 2147483647) : ∃ a1 a2 b1 b2 : Int, a1 ≤ a ∧ a ≤ a2 ∧ b1 ≤ b ∧ b ≤ b2 ∧ er_ok (er_run 25 (a1, a2) (b1, b2)) = true := by
  exact ⟨(-2147483648), 2147483647, (-2147483648), 2147483647, by omega, by omega, by omega, by omega, er_25_0⟩
theorem ec_26 (a b : Int) (h1 : -2147483648 ≤ a) (h2 : a ≤ 2147483647) (h3 : -2147483648 ≤ b) (h4 : b ≤ 2147483647) : ∃ a1 a2 b1 b2 : Int, a1 ≤ a ∧ a ≤ a2 ∧ b1 ≤ b ∧ b ≤ b2 ∧ er_ok (er_run 26 (a1, a2) (b1, b2)) = true := by
  by_cases q0 : a ≤ (-1)
  · exact ⟨(-2147483648), (-1), (-2147483648), 2147483647, by omega, by omega, by omega, by omega, er_26_0⟩
  by_cases q1 : a ≤ 7
  · exact ⟨0, 7, (-2147483648), 2147483647, by omega, by omega, by omega, by omega, er_26_1⟩
  exact ⟨8, 2147483647, (-2147483648), 2147483647, by omega, by omega, by omega, by omega, er_26_2⟩
theorem ec_27 (a b : Int) (h1 : -2147483648 ≤ a) (h2 : a ≤ 2147483647) (h3 : -2147483648 ≤ b) (h4 : b ≤ 2147483647) : ∃ a1 a2 b1 b2 : Int, a1 ≤ a ∧ a ≤ a2 ∧ b1 ≤ b ∧ b ≤ b2 ∧ er_ok (er_run 27 (a1, a2) (b1, b2)) = true := by
  by_cases q0 : a ≤ (-1)
  · exact ⟨(-2147483648), (-1), (-2147483648), 2147483647, by omega, by omega, by omega, by omega, er_27_0⟩
  by_cases q1 : a ≤ 0
  · exact ⟨0, 0, (-2147483648), 2147483647, by omega, by omega, by omega, by omega, er_27_1⟩
  by_cases q2 : a ≤ 1
  · exact ⟨1, 1, (-2147483648), 2147483647, by omega, by omega, by omega, by omega, er_27_2⟩
  by_cases q3 : a ≤ 2
  · exact ⟨2, 2, (-2147483648), 2147483647, by omega, by omega, by omega, by omega, er_27_3⟩
  by_cases q4 : a ≤ 3
  · exact ⟨3, 3, (-2147483648), 2147483647, by omega, by omega, by omega, by omega, er_27_4⟩
  by_cases q5 : a ≤ 4
  · exact ⟨4, 4, (-2147483648), 2147483647, by omega, by omega, by omega, by omega, er_27_5⟩
  by_cases q6 : a ≤ 5
  · exact ⟨5, 5, (-2147483648), 2147483647, by omega, by omega, by omega, by omega, er_27_6⟩
  by_cases q7 : a ≤ 6
  · exact ⟨6, 6, (-2147483648), 2147483647, by omega, by omega, by omega, by omega, er_27_7⟩
  by_cases q8 : a ≤ 7
  · exact ⟨7, 7, (-2147483648), 2147483647, by omega, by omega, by omega, by omega, er_27_8⟩
  by_cases q9 : a ≤ 8
  · exact ⟨8, 8, (-2147483648), 2147483647, by omega, by omega, by omega, by omega, er_27_9⟩
  exact ⟨9, 2147483647, (-2147483648), 2147483647, by omega, by omega, by omega, by omega, er_27_10⟩
theorem ec_28 (a b : Int) (h1 : -2147483648 ≤ a) (h2 : a ≤ 2147483647) (h3 : -2147483648 ≤ b) (h4 : b ≤ 2147483647) : ∃ a1 a2 b1 b2 : Int, a1 ≤ a ∧ a ≤ a2 ∧ b1 ≤ b ∧ b ≤ b2 ∧ er_ok (er_run 28 (a1, a2) (b1, b2)) = true := by
  by_cases q0 : a ≤ (-1)
  · exact ⟨(-2147483648), (-1), (-2147483648), 2147483647, by omega, by omega, by omega, by omega, er_28_0⟩
  exact ⟨0, 2147483647, (-2147483648), 2147483647, by omega, by omega, by omega, by omega, er_28_1⟩
theorem ec_29 (a b : Int) (h1 : -2147483648 ≤ a) (h2 : a ≤ 2147483647) (h3 : -2147483648 ≤ b) (h4 : b ≤ 2147483647) : ∃ a1 a2 b1 b2 : Int, a1 ≤ a ∧ a ≤ a2 ∧ b1 ≤ b ∧ b ≤ b2 ∧ er_ok (er_run 29 (a1, a2) (b1, b2)) = true := by
  exact ⟨(-2147483648), 2147483647, (-2147483648), 2147483647, by omega, by omega, by omega, by omega, er_29_0⟩
theorem ec_30 (a b : Int) (h1 : -2147483648 ≤ a) (h2 : a ≤ 2147483647) (h3 : -2147483648 ≤ b) (h4 : b ≤ 2147483647) : ∃ a1 a2 b1 b2 : Int, a1 ≤ a ∧ a ≤ a2 ∧ b1 ≤ b ∧ b ≤ b2 ∧ er_ok (er_run 30 (a1, a2) (b1, b2)) = true := by
  exact ⟨(-2147483648), 2147483647, (-2147483648), 2147483647, by omega, by omega, by omega, by omega, er_30_0⟩
theorem ec_31 (a b : Int) (h1 : -2147483648 ≤ a) (h2 : a ≤ 2147483647) (h3 : -2147483648 ≤ b) (h4 : b ≤ 2147483647) : ∃ a1 a2 b1 b2 : Int, a1 ≤ a ∧ a ≤ a2 ∧ b1 ≤ b ∧ b ≤ b2 ∧ er_ok (er_run 31 (a1, a2) (b1, b2)) = true := by
  exact ⟨(-2147483648), 2147483647, (-2147483648), 2147483647, by omega, by omega, by omega, by omega, er_31_0⟩
