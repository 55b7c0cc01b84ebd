/-! the reference: takes -/
section M7
variable {I : Nat → Nat → Int32} {V : Nat → Nat → Nat} {L : Nat → Int64} {A : Nat → Nat → Int32} {rl : Nat} {W : Nat → List Int32} {th : Nat → Nat} {day : Nat} {r : Nat → Nat}
theorem M158_in {many j : Nat} (hm : I 0 2 = nI many) (h5 : many ≤ 5) (hj : j < many) (h : WM I A j rl W th day r) (d : Nat) (P : MP) (hP : ∀ I' A', mkp I I' → (∀ b, b ≠ 13 → b ≠ 14 → A' b = A b) → P (some (.int (nI (takesN W th day r)))) (mkH dSh I' V L A')) : mRun (d + 7) 158 [.ref 0, .int (nI j)] (mkH dSh I V L A) P := by
  have n1 : ¬ (1 : Int32) = 0 := by decide
  simp (disch := first | assumption | exact mnl_i | exact mnl_r | exact mnl_n | exact mnl_0 | omega) only [↓reduceIte, tolS, E158_0, E158_8.1, E158_8.2.1, E158_8.2.2.1, B158, dShG, M116_in hm h5 hj, n1]
  refine M157 h _ _ (fun I' A' q1 _ _ _ q2 => ?_)
  simp (disch := first | assumption | exact mnl_i | exact mnl_r | exact mnl_n | exact mnl_0 | omega) only [↓reduceIte, tolS, E158_0, E158_8, E158_16, E158_18]
  exact hP I' A' q1 q2
theorem M158_out {many : Nat} {i : Int32} (hm : I 0 2 = nI many) (h5 : many ≤ 5) (hi : i < 0 ∨ ∃ j, many ≤ j ∧ j < 2 ^ 31 ∧ i = nI j) (d : Nat) (P : MP) (hP : P (some (.int (-2))) (mkH dSh I V L A)) : mRun (d + 7) 158 [.ref 0, .int i] (mkH dSh I V L A) P := by
  simp (disch := first | assumption | exact mnl_i | exact mnl_r | exact mnl_n | exact mnl_0 | omega) only [↓reduceIte, tolS, E158_0, E158_8, E158_16, E158_18, B158, dShG, M116_out hm h5 hi]
  exact hP
end M7
