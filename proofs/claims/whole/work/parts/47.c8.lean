/-! the class: takes -/
section C9
variable {I : Nat → Nat → Int32} {V : Nat → Nat → Nat} {L : Nat → Int64} {A : Nat → Nat → Int32} {t : Nat} {W : Nat → List Int32} {th : Nat → Nat} {day : Nat} {r : Nat → Nat}
theorem S74_in {many j : Nat} (hm : I 4 1 = nI many) (h5 : many ≤ 5) (hj : j < many) (h : WR I V A (6 + 1 * j) 59 t W th day r) (d : Nat) (P : MP) (hP : ∀ I' A', (∀ b' g, b' ≠ 20 → I' b' g = I b' g) → (∀ b', b' ≠ t + 2 → A' b' = A b') → P (some (.int (nI (takesN W th day r)))) (mkH cSh I' V L A')) : mRun (d + 6) 74 [.ref 0, .int (nI j)] (mkH cSh I V L A) P := by
  have hlt : 6 + 1 * j < 900 := by omega
  simp (disch := first | assumption | exact mnl_i | exact mnl_r | exact mnl_n | exact mnl_0 | omega) only [↓reduceIte, tolS, E74_0.1, E74_0.2.1, E74_0.2.2.1, E74_0.2.2.2.1, B74, cShG, S1_in hm h5 hj]
  simp (disch := first | assumption | exact mnl_i | exact mnl_r | exact mnl_n | exact mnl_0 | omega) only [↓reduceIte, tolS, E74_0.2.2.2.2.1, E74_0.2.2.2.2.2.1, E74_0.2.2.2.2.2.2.1, E74_0.2.2.2.2.2.2.2.1, E74_0.2.2.2.2.2.2.2.2.1, E74_0.2.2.2.2.2.2.2.2.2, E74_18.1, E74_18.2.1, E74_18.2.2.1, E74_18.2.2.2.1, E74_18.2.2.2.2.1, E74_18.2.2.2.2.2, hlt, cShG]
  refine S75 h (by omega) _ _ (fun I' A' q1 q2 => ?_)
  simp (disch := first | assumption | exact mnl_i | exact mnl_r | exact mnl_n | exact mnl_0 | omega) only [↓reduceIte, tolS, E74_27]
  exact hP I' A' q1 q2
theorem S74_out {many : Nat} {i : Int32} (hm : I 4 1 = nI many) (h5 : many ≤ 5) (hi : i < 0 ∨ ∃ j, many ≤ j ∧ j < 2 ^ 31 ∧ i = nI j) (d : Nat) (P : MP) (hP : P (some (.int (-2))) (mkH cSh I V L A)) : mRun (d + 6) 74 [.ref 0, .int i] (mkH cSh I V L A) P := by
  simp (disch := first | assumption | exact mnl_i | exact mnl_r | exact mnl_n | exact mnl_0 | omega) only [↓reduceIte, tolS, E74_0.1, E74_0.2.1, E74_0.2.2.1, E74_0.2.2.2.1, B74, cShG, S1_out hm h5 hi]
  simp (disch := first | assumption | exact mnl_i | exact mnl_r | exact mnl_n | exact mnl_0 | omega) only [↓reduceIte, tolS, E74_0.2.2.2.2.1, E74_0.2.2.2.2.2.1, E74_0.2.2.2.2.2.2.1, E74_0.2.2.2.2.2.2.2.1, E74_0.2.2.2.2.2.2.2.2.1, E74_0.2.2.2.2.2.2.2.2.2, E74_13, E74_27]
  exact hP
theorem S71_home {many j : Nat} (hm : I 4 1 = nI many) (h5 : many ≤ 5) (hj : j < many) (h : WR I V A (6 + 1 * j) 59 t W th day r) (h3 : ¬ r 3 < 23) (d : Nat) (P : MP) (hP : P (some (.int (-3))) (mkH cSh I V L A)) : mRun (d + 5) 71 [.ref 0, .int (nI j)] (mkH cSh I V L A) P := by
  have hlt : 6 + 1 * j < 900 := by omega
  have ha := h.1.1
  have hr3 := h.2.2.2.1 3 (by omega)
  have hb := h.2.2.2.2.2.2.1.2.2.2.1
  simp (disch := first | assumption | exact mnl_i | exact mnl_r | exact mnl_n | exact mnl_0 | omega) only [↓reduceIte, tolS, E71_0.1, E71_0.2.1, E71_0.2.2.1, E71_0.2.2.2.1, B71, cShG, S1_in hm h5 hj]
  simp (disch := first | assumption | exact mnl_i | exact mnl_r | exact mnl_n | exact mnl_0 | omega) only [↓reduceIte, tolS, E71_0.2.2.2.2.1, E71_0.2.2.2.2.2.1, E71_0.2.2.2.2.2.2.1, E71_0.2.2.2.2.2.2.2.1, E71_0.2.2.2.2.2.2.2.2.1, E71_0.2.2.2.2.2.2.2.2.2, E71_16, E71_23, hlt, kRider, S10 ha, hr3, q_lt, h3, show ¬ (1 : Int32) = 0 by decide]
  exact hP
theorem S71_in {many j : Nat} (hm : I 4 1 = nI many) (h5 : many ≤ 5) (hj : j < many) (h : WR I V A (6 + 1 * j) 59 t W th day r) (h3 : r 3 < 23) (d : Nat) (P : MP) (hP : ∀ I' f', (∀ b' g, b' ≠ 6 + 1 * j → I' b' g = I b' g) → (∀ f, f < 6 → I' (6 + 1 * j) f = nI ((goN W th day r).1 f)) → P (some (.int (nI ((goN W th day r).1 4)))) (mkH cSh I' V L (upA A (t + 2) f'))) : mRun (d + 5) 71 [.ref 0, .int (nI j)] (mkH cSh I V L A) P := by
  have hlt : 6 + 1 * j < 900 := by omega
  have ha := h.1.1
  have hr3 := h.2.2.2.1 3 (by omega)
  simp (disch := first | assumption | exact mnl_i | exact mnl_r | exact mnl_n | exact mnl_0 | omega) only [↓reduceIte, tolS, E71_0.1, E71_0.2.1, E71_0.2.2.1, E71_0.2.2.2.1, B71, cShG, S1_in hm h5 hj]
  simp (disch := first | assumption | exact mnl_i | exact mnl_r | exact mnl_n | exact mnl_0 | omega) only [↓reduceIte, tolS, E71_0.2.2.2.2.1, E71_0.2.2.2.2.2.1, E71_0.2.2.2.2.2.2.1, E71_0.2.2.2.2.2.2.2.1, E71_0.2.2.2.2.2.2.2.2.1, E71_0.2.2.2.2.2.2.2.2.2, E71_16, E71_26.1, E71_26.2.1, E71_26.2.2.1, E71_26.2.2.2.1, E71_26.2.2.2.2.1, hlt, kRider, cShG, S10 ha, hr3, q_lt, h3]
  refine S11 h d _ (fun I' f' q1 q2 => ?_)
  have e4 := q2 4 (by omega)
  simp (disch := first | assumption | exact mnl_i | exact mnl_r | exact mnl_n | exact mnl_0 | omega) only [↓reduceIte, tolS, E71_26.2.2.2.2.2.1, E71_26.2.2.2.2.2.2.1, E71_26.2.2.2.2.2.2.2.1, E71_26.2.2.2.2.2.2.2.2.1, E71_26.2.2.2.2.2.2.2.2.2, kRider, e4]
  exact hP I' f' q1 q2
theorem S71_out {many : Nat} {i : Int32} (hm : I 4 1 = nI many) (h5 : many ≤ 5) (hi : i < 0 ∨ ∃ j, many ≤ j ∧ j < 2 ^ 31 ∧ i = nI j) (d : Nat) (P : MP) (hP : P (some (.int (-2))) (mkH cSh I V L A)) : mRun (d + 5) 71 [.ref 0, .int i] (mkH cSh I V L A) P := by
  simp (disch := first | assumption | exact mnl_i | exact mnl_r | exact mnl_n | exact mnl_0 | omega) only [↓reduceIte, tolS, E71_0.1, E71_0.2.1, E71_0.2.2.1, E71_0.2.2.2.1, B71, cShG, S1_out hm h5 hi]
  simp (disch := first | assumption | exact mnl_i | exact mnl_r | exact mnl_n | exact mnl_0 | omega) only [↓reduceIte, tolS, E71_0.2.2.2.2.1, E71_0.2.2.2.2.2.1, E71_0.2.2.2.2.2.2.1, E71_0.2.2.2.2.2.2.2.1, E71_0.2.2.2.2.2.2.2.2.1, E71_0.2.2.2.2.2.2.2.2.2, E71_13]
  exact hP
end C9
