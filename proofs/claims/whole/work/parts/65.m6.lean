/-! the reference: who is one, what is a place -/
section M6
variable {I : Nat → Nat → Int32} {V : Nat → Nat → Nat} {L : Nat → Int64} {A : Nat → Nat → Int32}
theorem m1lt {j : Nat} (h : j < 2 ^ 31) : (nI 0 - 1 : Int32) < nI j := by
  rw [i32_lt, nI_toInt h]
  have : (nI 0 - 1 : Int32).toInt = -1 := by decide
  omega
theorem M116_in {many j : Nat} (hm : I 0 2 = nI many) (h5 : many ≤ 5) (hj : j < many) (d : Nat) (P : MP) : mRun (d + 2) 116 [.ref 0, .int (nI j)] (mkH dSh I V L A) P = P (some (.int 1)) (mkH dSh I V L A) := by
  have h1 : ¬ nI j < 0 := nI_pos (by omega)
  have h2 : ¬ many - 1 < j := by omega
  simp (disch := first | assumption | exact mnl_i | exact mnl_r | exact mnl_n | exact mnl_0 | omega) only [↓reduceIte, tolS, E116_0, B116, dShG, hm, q_sub, M114, h1, q_ll, h2]
theorem M116_out {many : Nat} {i : Int32} (hm : I 0 2 = nI many) (h5 : many ≤ 5) (hi : i < 0 ∨ ∃ j, many ≤ j ∧ j < 2 ^ 31 ∧ i = nI j) (d : Nat) (P : MP) : mRun (d + 2) 116 [.ref 0, .int i] (mkH dSh I V L A) P = P (some (.int 0)) (mkH dSh I V L A) := by
  rcases hi with hi | ⟨j, hj, hj2, rfl⟩
  · simp (disch := first | assumption | exact mnl_i | exact mnl_r | exact mnl_n | exact mnl_0 | omega) only [↓reduceIte, tolS, E116_0, B116, dShG, M114, hi]
  · have h1 : ¬ nI j < 0 := nI_pos (by omega)
    rcases Nat.eq_zero_or_pos many with z | z
    · subst z
      simp (disch := first | assumption | exact mnl_i | exact mnl_r | exact mnl_n | exact mnl_0 | omega) only [↓reduceIte, tolS, E116_0, B116, dShG, hm, M114, h1, m1lt]
    · have h2 : many - 1 < j := by omega
      simp (disch := first | assumption | exact mnl_i | exact mnl_r | exact mnl_n | exact mnl_0 | omega) only [↓reduceIte, tolS, E116_0, B116, dShG, hm, q_sub, M114, h1, q_ll, h2]
end M6
