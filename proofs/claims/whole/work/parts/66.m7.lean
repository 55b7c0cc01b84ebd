/-! the reference: takes -/
section M7
variable {I : Nat → Nat → Int32} {V : Nat → Nat → Nat} {L : Nat → Int64} {A : Nat → Nat → Int32} {rl : Nat} {W : Nat → List Int32} {th : Nat → Nat} {day : Nat} {r : Nat → Nat}
theorem M158_in {many j : Nat} (hm : I 0 2 = nI many) (h5 : many ≤ 5) (hj : j < many) (h : WM I A j rl W th day r) (d : Nat) (P : MP) (hP : ∀ I' A', mkp I I' → (∀ b, b ≠ 13 → b ≠ 14 → A' b = A b) → P (some (.int (nI (takesN W th day r)))) (mkH dSh I' V L A')) : mRun (d + 7) 158 [.ref 0, .int (nI j)] (mkH dSh I V L A) P := by
  have n1 : ¬ (1 : Int32) = 0 := by decide
  simp (disch := first | assumption | exact mnl_i | exact mnl_r | exact mnl_n | exact mnl_0 | omega) only [↓reduceIte, tolS, E158_0, E158_8.1, E158_8.2.1, E158_8.2.2.1, B158, dShG, M116_in hm h5 hj, n1]
  refine M157 h _ _ (fun I' A' q1 _ _ _ q2 => ?_)
  simp (disch := first | assumption | exact mnl_i | exact mnl_r | exact mnl_n | exact mnl_0 | omega) only [↓reduceIte, tolS, E158_0, E158_8, E158_16, E158_18]
  exact hP I' A' q1 q2
theorem M158_out {many : Nat} {i : Int32} (hm : I 0 2 = nI many) (h5 : many ≤ 5) (hi : i < 0 ∨ ∃ j, many ≤ j ∧ j < 2 ^ 31 ∧ i = nI j) (d : Nat) (P : MP) (hP : P (some (.int (-2))) (mkH dSh I V L A)) : mRun (d + 7) 158 [.ref 0, .int i] (mkH dSh I V L A) P := by
  simp (disch := first | assumption | exact mnl_i | exact mnl_r | exact mnl_n | exact mnl_0 | omega) only [↓reduceIte, tolS, E158_0, E158_8, E158_16, E158_18, B158, dShG, M116_out hm h5 hi]
  exact hP
theorem M151_home {many j : Nat} (hm : I 0 2 = nI many) (h5 : many ≤ 5) (hj : j < many) (h : WM I A j rl W th day r) (h3 : ¬ r 3 < 23) (d : Nat) (P : MP) (hP : P (some (.int (-3))) (mkH dSh I V L A)) : mRun (d + 6) 151 [.ref 0, .int (nI j)] (mkH dSh I V L A) P := by
  have n1 : ¬ (1 : Int32) = 0 := by decide
  have hq := h.1
  have hr3 := h.2.2.2.2.1.2.2.2.1
  have hb := h.2.2.2.2.2.2.2.1.2.2.2.1
  have e3 : r 3 = 23 := by omega
  simp (disch := first | assumption | exact mnl_i | exact mnl_r | exact mnl_n | exact mnl_0 | omega) only [↓reduceIte, tolS, E151_0, E151_11, E151_22, B151, dShG, dShR, pix_nI, M116_in hm h5 hj, n1, hr3, q_eq, e3]
  exact hP
theorem M151_in {many j : Nat} (hm : I 0 2 = nI many) (h5 : many ≤ 5) (hj : j < many) (h : WM I A j rl W th day r) (h3 : r 3 < 23) (d : Nat) (P : MP) (hP : ∀ I' A', mct I I' (goN W th day r) → mrw A A' j → WM I' A' j rl W th day (goN W th day r).1 → P (some (.int (nI ((goN W th day r).1 4)))) (mkH dSh I' V L A')) : mRun (d + 6) 151 [.ref 0, .int (nI j)] (mkH dSh I V L A) P := by
  have n1 : ¬ (1 : Int32) = 0 := by decide
  have hq := h.1
  have hr3 := h.2.2.2.2.1.2.2.2.1
  have e3 : ¬ r 3 = 23 := by omega
  simp (disch := first | assumption | exact mnl_i | exact mnl_r | exact mnl_n | exact mnl_0 | omega) only [↓reduceIte, tolS, E151_0, E151_11, E151_25.1, E151_25.2.1, E151_25.2.2.1, B151, dShG, dShR, pix_nI, M116_in hm h5 hj, n1, hr3, q_eq, e3]
  refine M150 h d _ (fun I' A' q1 q2 q3 => ?_)
  have e4 := q3.2.2.2.2.1.2.2.2.2.1
  simp (disch := first | assumption | exact mnl_i | exact mnl_r | exact mnl_n | exact mnl_0 | omega) only [↓reduceIte, tolN, E151_25.2.2.2.1, E151_25.2.2.2.2.1, E151_25.2.2.2.2.2.1, E151_25.2.2.2.2.2.2.1, E151_25.2.2.2.2.2.2.2, dShG, dShR, pix_nI, e4]
  exact hP I' A' q1 q2 q3
theorem M151_out {many : Nat} {i : Int32} (hm : I 0 2 = nI many) (h5 : many ≤ 5) (hi : i < 0 ∨ ∃ j, many ≤ j ∧ j < 2 ^ 31 ∧ i = nI j) (d : Nat) (P : MP) (hP : P (some (.int (-2))) (mkH dSh I V L A)) : mRun (d + 6) 151 [.ref 0, .int i] (mkH dSh I V L A) P := by
  simp (disch := first | assumption | exact mnl_i | exact mnl_r | exact mnl_n | exact mnl_0 | omega) only [↓reduceIte, tolS, E151_0, E151_8, B151, dShG, M116_out hm h5 hi]
  exact hP
end M7
