/-! set and told -/
theorem nI_m2 {a : Nat} (h : a < 2 ^ 31) : ¬ nI a = -2 := by
  intro z
  have := congrArg Int32.toInt z
  rw [nI_toInt h] at this
  have e : (-2 : Int32).toInt = -2 := by decide
  omega
section J7
variable {I I' A A' : TI} {V V' : TV} {L L' : Nat → Int64} {nt many day rl : Nat} {R : Nat → Nat → Nat} {th : Nat → Nat} {W : Nat → Nat → List Int32} {e : TE}
theorem M117_in {j : Nat} (hj : j < 24) (d : Nat) (h : MH) (P : MP) : mRun (d + 2) 117 [.int (nI j)] h P = P (some (.int 1)) h := by
  have w := fun d h P => M114_in (y := 23) (n := 23) (j := j) rfl (by omega) (by omega) d h P
  simp (disch := first | assumption | exact mnl_i | exact mnl_r | exact mnl_n | exact mnl_0 | omega) only [↓reduceIte, tolS, E117_0, B117, w]
theorem M117_out {i : Int32} (hi : i < 0 ∨ ∃ j, 24 ≤ j ∧ j < 2 ^ 31 ∧ i = nI j) (d : Nat) (h : MH) (P : MP) : mRun (d + 2) 117 [.int i] h P = P (some (.int 0)) h := by
  have w := fun d h P => M114_out (y := 23) (n := 23) (x := i) rfl hi d h P
  simp (disch := first | assumption | exact mnl_i | exact mnl_r | exact mnl_n | exact mnl_0 | omega) only [↓reduceIte, tolS, E117_0, B117, w]
theorem M119_0 (d : Nat) (x : Int32) (h : MH) (P : MP) : mRun (d + 3) 119 [.ref 0, .int 0, .int x] h P = P (some (.int 1)) h := by
  simp (disch := first | assumption | exact mnl_i | exact mnl_r | exact mnl_n | exact mnl_0 | omega) only [↓reduceIte, tolS, E119_0, E119_36, E119_41, B119]
theorem M119_1i {j : Nat} (hj : j < 24) (d : Nat) (h : MH) (P : MP) : mRun (d + 3) 119 [.ref 0, .int 1, .int (nI j)] h P = P (some (.int 1)) h := by
  simp (disch := first | assumption | exact mnl_i | exact mnl_r | exact mnl_n | exact mnl_0 | omega) only [↓reduceIte, tolS, E119_0, E119_4, E119_9, E119_16, E119_36, E119_41, B119, dShG, n10, M117_in hj]
theorem M119_1o {i : Int32} (hi : i < 0 ∨ ∃ j, 24 ≤ j ∧ j < 2 ^ 31 ∧ i = nI j) (d : Nat) (h : MH) (P : MP) : mRun (d + 3) 119 [.ref 0, .int 1, .int i] h P = P (some (.int 0)) h := by
  simp (disch := first | assumption | exact mnl_i | exact mnl_r | exact mnl_n | exact mnl_0 | omega) only [↓reduceIte, tolS, E119_0, E119_4, E119_9, E119_40, E119_41, B119, dShG, n10, M117_out hi]
theorem M119_2i {j : Nat} (hm : I 0 2 = nI many) (h5 : many ≤ 5) (hj : j < many) (d : Nat) (P : MP) : mRun (d + 3) 119 [.ref 0, .int 2, .int (nI j)] (mkH dSh I V L A) P = P (some (.int 1)) (mkH dSh I V L A) := by
  simp (disch := first | assumption | exact mnl_i | exact mnl_r | exact mnl_n | exact mnl_0 | omega) only [↓reduceIte, tolS, E119_0, E119_4, E119_19, E119_28, E119_36, E119_41, B119, dShG, n10, M114p, M116_in hm h5 hj, show ¬ (2 : Int32) = 0 by decide, show ¬ (2 : Int32) = 1 by decide, show ¬ (2 : Int32) < 2 by decide, show ¬ (5 : Int32) < 2 by decide]
theorem M119_2o {i : Int32} (hm : I 0 2 = nI many) (h5 : many ≤ 5) (hi : i < 0 ∨ ∃ j, many ≤ j ∧ j < 2 ^ 31 ∧ i = nI j) (d : Nat) (P : MP) : mRun (d + 3) 119 [.ref 0, .int 2, .int i] (mkH dSh I V L A) P = P (some (.int 0)) (mkH dSh I V L A) := by
  simp (disch := first | assumption | exact mnl_i | exact mnl_r | exact mnl_n | exact mnl_0 | omega) only [↓reduceIte, tolS, E119_0, E119_4, E119_19, E119_28, E119_40, E119_41, B119, dShG, n10, M114p, M116_out hm h5 hi, show ¬ (2 : Int32) = 0 by decide, show ¬ (2 : Int32) = 1 by decide, show ¬ (2 : Int32) < 2 by decide, show ¬ (5 : Int32) < 2 by decide]
theorem M119_3i {j : Nat} (hm : I 0 2 = nI many) (h5 : many ≤ 5) (hj : j < many) (d : Nat) (P : MP) : mRun (d + 3) 119 [.ref 0, .int 3, .int (nI j)] (mkH dSh I V L A) P = P (some (.int 1)) (mkH dSh I V L A) := by
  simp (disch := first | assumption | exact mnl_i | exact mnl_r | exact mnl_n | exact mnl_0 | omega) only [↓reduceIte, tolS, E119_0, E119_4, E119_19, E119_28, E119_36, E119_41, B119, dShG, n10, M114p, M116_in hm h5 hj, show ¬ (3 : Int32) = 0 by decide, show ¬ (3 : Int32) = 1 by decide, show ¬ (3 : Int32) < 2 by decide, show ¬ (5 : Int32) < 3 by decide]
theorem M119_3o {i : Int32} (hm : I 0 2 = nI many) (h5 : many ≤ 5) (hi : i < 0 ∨ ∃ j, many ≤ j ∧ j < 2 ^ 31 ∧ i = nI j) (d : Nat) (P : MP) : mRun (d + 3) 119 [.ref 0, .int 3, .int i] (mkH dSh I V L A) P = P (some (.int 0)) (mkH dSh I V L A) := by
  simp (disch := first | assumption | exact mnl_i | exact mnl_r | exact mnl_n | exact mnl_0 | omega) only [↓reduceIte, tolS, E119_0, E119_4, E119_19, E119_28, E119_40, E119_41, B119, dShG, n10, M114p, M116_out hm h5 hi, show ¬ (3 : Int32) = 0 by decide, show ¬ (3 : Int32) = 1 by decide, show ¬ (3 : Int32) < 2 by decide, show ¬ (5 : Int32) < 3 by decide]
theorem M119_4i {j : Nat} (hm : I 0 2 = nI many) (h5 : many ≤ 5) (hj : j < many) (d : Nat) (P : MP) : mRun (d + 3) 119 [.ref 0, .int 4, .int (nI j)] (mkH dSh I V L A) P = P (some (.int 1)) (mkH dSh I V L A) := by
  simp (disch := first | assumption | exact mnl_i | exact mnl_r | exact mnl_n | exact mnl_0 | omega) only [↓reduceIte, tolS, E119_0, E119_4, E119_19, E119_28, E119_36, E119_41, B119, dShG, n10, M114p, M116_in hm h5 hj, show ¬ (4 : Int32) = 0 by decide, show ¬ (4 : Int32) = 1 by decide, show ¬ (4 : Int32) < 2 by decide, show ¬ (5 : Int32) < 4 by decide]
theorem M119_4o {i : Int32} (hm : I 0 2 = nI many) (h5 : many ≤ 5) (hi : i < 0 ∨ ∃ j, many ≤ j ∧ j < 2 ^ 31 ∧ i = nI j) (d : Nat) (P : MP) : mRun (d + 3) 119 [.ref 0, .int 4, .int i] (mkH dSh I V L A) P = P (some (.int 0)) (mkH dSh I V L A) := by
  simp (disch := first | assumption | exact mnl_i | exact mnl_r | exact mnl_n | exact mnl_0 | omega) only [↓reduceIte, tolS, E119_0, E119_4, E119_19, E119_28, E119_40, E119_41, B119, dShG, n10, M114p, M116_out hm h5 hi, show ¬ (4 : Int32) = 0 by decide, show ¬ (4 : Int32) = 1 by decide, show ¬ (4 : Int32) < 2 by decide, show ¬ (5 : Int32) < 4 by decide]
theorem M119_5i {j : Nat} (hm : I 0 2 = nI many) (h5 : many ≤ 5) (hj : j < many) (d : Nat) (P : MP) : mRun (d + 3) 119 [.ref 0, .int 5, .int (nI j)] (mkH dSh I V L A) P = P (some (.int 1)) (mkH dSh I V L A) := by
  simp (disch := first | assumption | exact mnl_i | exact mnl_r | exact mnl_n | exact mnl_0 | omega) only [↓reduceIte, tolS, E119_0, E119_4, E119_19, E119_28, E119_36, E119_41, B119, dShG, n10, M114p, M116_in hm h5 hj, show ¬ (5 : Int32) = 0 by decide, show ¬ (5 : Int32) = 1 by decide, show ¬ (5 : Int32) < 2 by decide, show ¬ (5 : Int32) < 5 by decide]
theorem M119_5o {i : Int32} (hm : I 0 2 = nI many) (h5 : many ≤ 5) (hi : i < 0 ∨ ∃ j, many ≤ j ∧ j < 2 ^ 31 ∧ i = nI j) (d : Nat) (P : MP) : mRun (d + 3) 119 [.ref 0, .int 5, .int i] (mkH dSh I V L A) P = P (some (.int 0)) (mkH dSh I V L A) := by
  simp (disch := first | assumption | exact mnl_i | exact mnl_r | exact mnl_n | exact mnl_0 | omega) only [↓reduceIte, tolS, E119_0, E119_4, E119_19, E119_28, E119_40, E119_41, B119, dShG, n10, M114p, M116_out hm h5 hi, show ¬ (5 : Int32) = 0 by decide, show ¬ (5 : Int32) = 1 by decide, show ¬ (5 : Int32) < 2 by decide, show ¬ (5 : Int32) < 5 by decide]
theorem S64_0 (d : Nat) (h59 : I 59 1 = nI day) (x : Int32) (P : MP) : mRun (d + 3) 64 [.ref 0, .int x, .int 0] (mkH cSh I V L A) P = P (some (.int (nI day))) (mkH cSh I V L A) := by
  simp (disch := first | assumption | exact mnl_i | exact mnl_r | exact mnl_n | exact mnl_0 | omega) only [↓reduceIte, tolS, E64_0, E64_4, B64, cShG, h59]
theorem S64_1i (hc : CG I V A many R th day rl) {j : Nat} (hj : j < 24) (d : Nat) (P : MP) : mRun (d + 3) 64 [.ref 0, .int (nI j), .int 1] (mkH cSh I V L A) P = P (some (.int (nI (th j)))) (mkH cSh I V L A) := by
  have h60 : A (59 + 1) j = nI (th j) := hc.2.2.2.1 j hj
  simp (disch := first | assumption | exact mnl_i | exact mnl_r | exact mnl_n | exact mnl_0 | omega) only [↓reduceIte, tolS, E64_0, E64_12, E64_17, E64_21, E64_27, E64_40, B64, cShG, n10, q_neg, q_lt, hj, S17 (b := 59) rfl rfl hj, h60]
theorem S64_1o {i : Int32} (hi : i < 0 ∨ ∃ j, 24 ≤ j ∧ j < 2 ^ 31 ∧ i = nI j) (d : Nat) (P : MP) : mRun (d + 3) 64 [.ref 0, .int i, .int 1] (mkH cSh I V L A) P = P (some (.int (-2))) (mkH cSh I V L A) := by
  rcases hi with hi | ⟨j, hj, hj2, rfl⟩
  · simp (disch := first | assumption | exact mnl_i | exact mnl_r | exact mnl_n | exact mnl_0 | omega) only [↓reduceIte, tolS, E64_0, E64_12, E64_17, E64_38, E64_40, B64, cShG, n10, hi]
  · have h2 : ¬ j < 24 := by omega
    simp (disch := first | assumption | exact mnl_i | exact mnl_r | exact mnl_n | exact mnl_0 | omega) only [↓reduceIte, tolS, E64_0, E64_12, E64_17, E64_21, E64_38, E64_40, B64, cShG, n10, q_neg, q_lt, h2]
theorem S64_2i (hc : CG I V A many R th day rl) (h5 : many ≤ 5) {j : Nat} (hj : j < many) (d : Nat) (P : MP) : mRun (d + 3) 64 [.ref 0, .int (nI j), .int 2] (mkH cSh I V L A) P = P (some (.int (nI (R j 1)))) (mkH cSh I V L A) := by
  have hlt : 6 + 1 * j < 900 := by omega
  have hr := c6j (j := j) (by omega)
  have hf := hc.2.1 j hj 1 (by omega)
  simp (disch := first | assumption | exact mnl_i | exact mnl_r | exact mnl_n | exact mnl_0 | omega) only [↓reduceIte, tolS, E64_0, E64_12, E64_41, E64_57, E64_108, B64, cShG, S1_in hc.1 h5 hj, hlt, kRider, hf, show ¬ (2 : Int32) = 0 by decide, show ¬ (2 : Int32) = 1 by decide]
theorem S64_3i (hc : CG I V A many R th day rl) (h5 : many ≤ 5) {j : Nat} (hj : j < many) (d : Nat) (P : MP) : mRun (d + 3) 64 [.ref 0, .int (nI j), .int 3] (mkH cSh I V L A) P = P (some (.int (nI (R j 2)))) (mkH cSh I V L A) := by
  have hlt : 6 + 1 * j < 900 := by omega
  have hr := c6j (j := j) (by omega)
  have hf := hc.2.1 j hj 2 (by omega)
  simp (disch := first | assumption | exact mnl_i | exact mnl_r | exact mnl_n | exact mnl_0 | omega) only [↓reduceIte, tolS, E64_0, E64_12, E64_41, E64_57, E64_113, B64, cShG, S1_in hc.1 h5 hj, hlt, kRider, hf, show ¬ (3 : Int32) = 0 by decide, show ¬ (3 : Int32) = 1 by decide, show ¬ (3 : Int32) = 2 by decide]
theorem S64_4i (hc : CG I V A many R th day rl) (h5 : many ≤ 5) {j : Nat} (hj : j < many) (d : Nat) (P : MP) : mRun (d + 3) 64 [.ref 0, .int (nI j), .int 4] (mkH cSh I V L A) P = P (some (.int (nI (R j 3)))) (mkH cSh I V L A) := by
  have hlt : 6 + 1 * j < 900 := by omega
  have hr := c6j (j := j) (by omega)
  have hf := hc.2.1 j hj 3 (by omega)
  simp (disch := first | assumption | exact mnl_i | exact mnl_r | exact mnl_n | exact mnl_0 | omega) only [↓reduceIte, tolS, E64_0, E64_12, E64_41, E64_57, E64_118, B64, cShG, S1_in hc.1 h5 hj, hlt, kRider, hf, show ¬ (4 : Int32) = 0 by decide, show ¬ (4 : Int32) = 1 by decide, show ¬ (4 : Int32) = 2 by decide, show ¬ (4 : Int32) = 3 by decide]
theorem S64_5i (hc : CG I V A many R th day rl) (h5 : many ≤ 5) {j : Nat} (hj : j < many) (d : Nat) (P : MP) : mRun (d + 3) 64 [.ref 0, .int (nI j), .int 5] (mkH cSh I V L A) P = P (some (.int (nI (R j 4)))) (mkH cSh I V L A) := by
  have hlt : 6 + 1 * j < 900 := by omega
  have hr := c6j (j := j) (by omega)
  have hf := hc.2.1 j hj 4 (by omega)
  simp (disch := first | assumption | exact mnl_i | exact mnl_r | exact mnl_n | exact mnl_0 | omega) only [↓reduceIte, tolS, E64_0, E64_12, E64_41, E64_57, E64_123, B64, cShG, S1_in hc.1 h5 hj, hlt, kRider, hf, show ¬ (5 : Int32) = 0 by decide, show ¬ (5 : Int32) = 1 by decide, show ¬ (5 : Int32) = 2 by decide, show ¬ (5 : Int32) = 3 by decide, show ¬ (5 : Int32) = 4 by decide]
theorem S64_6i (hc : CG I V A many R th day rl) (h5 : many ≤ 5) {j : Nat} (hj : j < many) (d : Nat) (P : MP) : mRun (d + 3) 64 [.ref 0, .int (nI j), .int 6] (mkH cSh I V L A) P = P (some (.int (nI (R j 0)))) (mkH cSh I V L A) := by
  have hlt : 6 + 1 * j < 900 := by omega
  have hr := c6j (j := j) (by omega)
  have hf := hc.2.1 j hj 0 (by omega)
  simp (disch := first | assumption | exact mnl_i | exact mnl_r | exact mnl_n | exact mnl_0 | omega) only [↓reduceIte, tolS, E64_0, E64_12, E64_41, E64_57, E64_128, B64, cShG, S1_in hc.1 h5 hj, hlt, kRider, hf, show ¬ (6 : Int32) = 0 by decide, show ¬ (6 : Int32) = 1 by decide, show ¬ (6 : Int32) = 2 by decide, show ¬ (6 : Int32) = 3 by decide, show ¬ (6 : Int32) = 4 by decide, show ¬ (6 : Int32) = 5 by decide]
theorem S64_7i (hc : CG I V A many R th day rl) (h5 : many ≤ 5) {j : Nat} (hj : j < many) (d : Nat) (P : MP) : mRun (d + 3) 64 [.ref 0, .int (nI j), .int 7] (mkH cSh I V L A) P = P (some (.int (nI (R j 5)))) (mkH cSh I V L A) := by
  have hlt : 6 + 1 * j < 900 := by omega
  have hr := c6j (j := j) (by omega)
  have hf := hc.2.1 j hj 5 (by omega)
  simp (disch := first | assumption | exact mnl_i | exact mnl_r | exact mnl_n | exact mnl_0 | omega) only [↓reduceIte, tolS, E64_0, E64_12, E64_41, E64_57, E64_133, B64, cShG, S1_in hc.1 h5 hj, hlt, kRider, hf, show ¬ (7 : Int32) = 0 by decide, show ¬ (7 : Int32) = 1 by decide, show ¬ (7 : Int32) = 2 by decide, show ¬ (7 : Int32) = 3 by decide, show ¬ (7 : Int32) = 4 by decide, show ¬ (7 : Int32) = 5 by decide, show ¬ (7 : Int32) = 6 by decide]
theorem S64_o (hc : CG I V A many R th day rl) (h5 : many ≤ 5) {w i : Int32} (h0 : ¬ w = 0) (h1 : ¬ w = 1) (hi : i < 0 ∨ ∃ j, many ≤ j ∧ j < 2 ^ 31 ∧ i = nI j) (d : Nat) (P : MP) : mRun (d + 3) 64 [.ref 0, .int i, .int w] (mkH cSh I V L A) P = P (some (.int (-2))) (mkH cSh I V L A) := by
  simp (disch := first | assumption | exact mnl_i | exact mnl_r | exact mnl_n | exact mnl_0 | omega) only [↓reduceIte, tolS, E64_0, E64_12, E64_41, E64_54, B64, cShG, S1_out hc.1 h5 hi, h0, h1]
theorem M121_0 (h0 : I 0 0 = nI day) (d : Nat) (x : Int32) (P : MP) : mRun (d + 1) 121 [.ref 0, .int 0, .int x] (mkH dSh I V L A) P = P (some (.int (nI day))) (mkH dSh I V L A) := by
  simp (disch := first | assumption | exact mnl_i | exact mnl_r | exact mnl_n | exact mnl_0 | omega) only [↓reduceIte, tolS, E121_0, E121_36, B121, dShG, h0]
theorem M121_1 (hm : MGm I A many R th day rl) {j : Nat} (hj : j < 24) (d : Nat) (P : MP) : mRun (d + 1) 121 [.ref 0, .int 1, .int (nI j)] (mkH dSh I V L A) P = P (some (.int (nI (th j)))) (mkH dSh I V L A) := by
  have h := hm.2.2.2.1 j hj
  simp (disch := first | assumption | exact mnl_i | exact mnl_r | exact mnl_n | exact mnl_0 | omega) only [↓reduceIte, tolS, E121_0, E121_41, B121, dShG, dShR, n10, pix_nI, h]
theorem M121_2 (hm : MGm I A many R th day rl) (h5 : many ≤ 5) {j : Nat} (hj : j < many) (d : Nat) (P : MP) : mRun (d + 1) 121 [.ref 0, .int 2, .int (nI j)] (mkH dSh I V L A) P = P (some (.int (nI (R j 1)))) (mkH dSh I V L A) := by
  have h : A 3 j = nI (R j 1) := hm.2.1 j hj 1 (by omega)
  have h55 : j < 5 := by omega
  simp (disch := first | assumption | exact mnl_i | exact mnl_r | exact mnl_n | exact mnl_0 | omega) only [↓reduceIte, tolS, E121_0, E121_48, B121, dShG, dShR, pix_nI, h, show ¬ (2 : Int32) = 0 by decide, show ¬ (2 : Int32) = 1 by decide]
theorem M121_3 (hm : MGm I A many R th day rl) (h5 : many ≤ 5) {j : Nat} (hj : j < many) (d : Nat) (P : MP) : mRun (d + 1) 121 [.ref 0, .int 3, .int (nI j)] (mkH dSh I V L A) P = P (some (.int (nI (R j 2)))) (mkH dSh I V L A) := by
  have h : A 4 j = nI (R j 2) := hm.2.1 j hj 2 (by omega)
  have h55 : j < 5 := by omega
  simp (disch := first | assumption | exact mnl_i | exact mnl_r | exact mnl_n | exact mnl_0 | omega) only [↓reduceIte, tolS, E121_0, E121_55, B121, dShG, dShR, pix_nI, h, show ¬ (3 : Int32) = 0 by decide, show ¬ (3 : Int32) = 1 by decide, show ¬ (3 : Int32) = 2 by decide]
theorem M121_4 (hm : MGm I A many R th day rl) (h5 : many ≤ 5) {j : Nat} (hj : j < many) (d : Nat) (P : MP) : mRun (d + 1) 121 [.ref 0, .int 4, .int (nI j)] (mkH dSh I V L A) P = P (some (.int (nI (R j 3)))) (mkH dSh I V L A) := by
  have h : A 5 j = nI (R j 3) := hm.2.1 j hj 3 (by omega)
  have h55 : j < 5 := by omega
  simp (disch := first | assumption | exact mnl_i | exact mnl_r | exact mnl_n | exact mnl_0 | omega) only [↓reduceIte, tolS, E121_0, E121_62, B121, dShG, dShR, pix_nI, h, show ¬ (4 : Int32) = 0 by decide, show ¬ (4 : Int32) = 1 by decide, show ¬ (4 : Int32) = 2 by decide, show ¬ (4 : Int32) = 3 by decide]
theorem M121_5 (hm : MGm I A many R th day rl) (h5 : many ≤ 5) {j : Nat} (hj : j < many) (d : Nat) (P : MP) : mRun (d + 1) 121 [.ref 0, .int 5, .int (nI j)] (mkH dSh I V L A) P = P (some (.int (nI (R j 4)))) (mkH dSh I V L A) := by
  have h : A 6 j = nI (R j 4) := hm.2.1 j hj 4 (by omega)
  have h55 : j < 5 := by omega
  simp (disch := first | assumption | exact mnl_i | exact mnl_r | exact mnl_n | exact mnl_0 | omega) only [↓reduceIte, tolS, E121_0, E121_69, B121, dShG, dShR, pix_nI, h, show ¬ (5 : Int32) = 0 by decide, show ¬ (5 : Int32) = 1 by decide, show ¬ (5 : Int32) = 2 by decide, show ¬ (5 : Int32) = 3 by decide, show ¬ (5 : Int32) = 4 by decide]
theorem J64 {hC hM : MH} (h : REL hC hM) (d : Nat) (x w : Int32) : JR (d + 90) 64 124 [.int x, .int w] hC hM := by
  obtain ⟨I, V, L, A, I', V', L', A', nt, W, many, R, th, day, rl, e, ec, em, hF, hc, hm⟩ := REL_B h
  rw [ec, em]
  unfold JR
  have h5 := hF.1.1
  have hrl : rl < 6 := by have := hF.1.2.2.2.2; omega
  have o : x < 0 ∨ (∃ j, 0 ≤ j ∧ j < 2 ^ 31 ∧ x = nI j) := by
    rcases i32_ix x 0 with ⟨j, hj, _⟩ | h | h
    · omega
    · exact Or.inl h
    · exact Or.inr h
  rcases i32_ix w 11 with ⟨q, hq, hq2, rfl⟩ | ho
  · match q, hq with
    | 0, _ =>
      refine Eq.mpr (S64_0 _ hc.1.2.2.1 _ _) ?_
      simp (disch := first | assumption | exact mnl_i | exact mnl_r | exact mnl_n | exact mnl_0 | omega) only [↓reduceIte, tolS, E124_0, E124_9, E124_18, E124_29, B124, dShG, show nI 0 = 0 from rfl, M114p, show ¬ (0 : Int32) < 0 by decide, show ¬ (5 : Int32) < 0 by decide, n10, M119_0, M121_0 hm.1.2.2.1]
      exact JR_B hF hc hm
    | 1, _ =>
      rcases i32_ix x 24 with ⟨j, hj, hj2, rfl⟩ | hi
      · refine Eq.mpr (S64_1i hc.1 hj _ _) ?_
        simp (disch := first | assumption | exact mnl_i | exact mnl_r | exact mnl_n | exact mnl_0 | omega) only [↓reduceIte, tolS, E124_0, E124_9, E124_18, E124_29, B124, dShG, show nI 1 = 1 from rfl, M114p, show ¬ (1 : Int32) < 0 by decide, show ¬ (5 : Int32) < 1 by decide, n10, M119_1i hj, M121_1 hm.1 hj]
        exact JR_B hF hc hm
      · refine Eq.mpr (S64_1o hi _ _) ?_
        simp (disch := first | assumption | exact mnl_i | exact mnl_r | exact mnl_n | exact mnl_0 | omega) only [↓reduceIte, tolS, E124_0, E124_9, E124_27, E124_29, B124, dShG, show nI 1 = 1 from rfl, M114p, show ¬ (1 : Int32) < 0 by decide, show ¬ (5 : Int32) < 1 by decide, n10, M119_1o hi]
        exact JR_B hF hc hm
    | 2, _ =>
      rcases i32_ix x many with ⟨j, hj, hj2, rfl⟩ | hi
      · refine Eq.mpr (S64_2i hc.1 h5 hj _ _) ?_
        simp (disch := first | assumption | exact mnl_i | exact mnl_r | exact mnl_n | exact mnl_0 | omega) only [↓reduceIte, tolS, E124_0, E124_9, E124_18, E124_29, B124, dShG, show nI 2 = 2 from rfl, M114p, show ¬ (2 : Int32) < 0 by decide, show ¬ (5 : Int32) < 2 by decide, n10, M119_2i hm.1.1 h5 hj, M121_2 hm.1 h5 hj]
        exact JR_B hF hc hm
      · refine Eq.mpr (S64_o hc.1 h5 (w := 2) (by decide) (by decide) hi _ _) ?_
        simp (disch := first | assumption | exact mnl_i | exact mnl_r | exact mnl_n | exact mnl_0 | omega) only [↓reduceIte, tolS, E124_0, E124_9, E124_27, E124_29, B124, dShG, show nI 2 = 2 from rfl, M114p, show ¬ (2 : Int32) < 0 by decide, show ¬ (5 : Int32) < 2 by decide, n10, M119_2o hm.1.1 h5 hi]
        exact JR_B hF hc hm
    | 3, _ =>
      rcases i32_ix x many with ⟨j, hj, hj2, rfl⟩ | hi
      · refine Eq.mpr (S64_3i hc.1 h5 hj _ _) ?_
        simp (disch := first | assumption | exact mnl_i | exact mnl_r | exact mnl_n | exact mnl_0 | omega) only [↓reduceIte, tolS, E124_0, E124_9, E124_18, E124_29, B124, dShG, show nI 3 = 3 from rfl, M114p, show ¬ (3 : Int32) < 0 by decide, show ¬ (5 : Int32) < 3 by decide, n10, M119_3i hm.1.1 h5 hj, M121_3 hm.1 h5 hj]
        exact JR_B hF hc hm
      · refine Eq.mpr (S64_o hc.1 h5 (w := 3) (by decide) (by decide) hi _ _) ?_
        simp (disch := first | assumption | exact mnl_i | exact mnl_r | exact mnl_n | exact mnl_0 | omega) only [↓reduceIte, tolS, E124_0, E124_9, E124_27, E124_29, B124, dShG, show nI 3 = 3 from rfl, M114p, show ¬ (3 : Int32) < 0 by decide, show ¬ (5 : Int32) < 3 by decide, n10, M119_3o hm.1.1 h5 hi]
        exact JR_B hF hc hm
    | 4, _ =>
      rcases i32_ix x many with ⟨j, hj, hj2, rfl⟩ | hi
      · refine Eq.mpr (S64_4i hc.1 h5 hj _ _) ?_
        simp (disch := first | assumption | exact mnl_i | exact mnl_r | exact mnl_n | exact mnl_0 | omega) only [↓reduceIte, tolS, E124_0, E124_9, E124_18, E124_29, B124, dShG, show nI 4 = 4 from rfl, M114p, show ¬ (4 : Int32) < 0 by decide, show ¬ (5 : Int32) < 4 by decide, n10, M119_4i hm.1.1 h5 hj, M121_4 hm.1 h5 hj]
        exact JR_B hF hc hm
      · refine Eq.mpr (S64_o hc.1 h5 (w := 4) (by decide) (by decide) hi _ _) ?_
        simp (disch := first | assumption | exact mnl_i | exact mnl_r | exact mnl_n | exact mnl_0 | omega) only [↓reduceIte, tolS, E124_0, E124_9, E124_27, E124_29, B124, dShG, show nI 4 = 4 from rfl, M114p, show ¬ (4 : Int32) < 0 by decide, show ¬ (5 : Int32) < 4 by decide, n10, M119_4o hm.1.1 h5 hi]
        exact JR_B hF hc hm
    | 5, _ =>
      rcases i32_ix x many with ⟨j, hj, hj2, rfl⟩ | hi
      · refine Eq.mpr (S64_5i hc.1 h5 hj _ _) ?_
        simp (disch := first | assumption | exact mnl_i | exact mnl_r | exact mnl_n | exact mnl_0 | omega) only [↓reduceIte, tolS, E124_0, E124_9, E124_18, E124_29, B124, dShG, show nI 5 = 5 from rfl, M114p, show ¬ (5 : Int32) < 0 by decide, show ¬ (5 : Int32) < 5 by decide, n10, M119_5i hm.1.1 h5 hj, M121_5 hm.1 h5 hj]
        exact JR_B hF hc hm
      · refine Eq.mpr (S64_o hc.1 h5 (w := 5) (by decide) (by decide) hi _ _) ?_
        simp (disch := first | assumption | exact mnl_i | exact mnl_r | exact mnl_n | exact mnl_0 | omega) only [↓reduceIte, tolS, E124_0, E124_9, E124_27, E124_29, B124, dShG, show nI 5 = 5 from rfl, M114p, show ¬ (5 : Int32) < 0 by decide, show ¬ (5 : Int32) < 5 by decide, n10, M119_5o hm.1.1 h5 hi]
        exact JR_B hF hc hm
    | 6, _ =>
      rcases i32_ix x many with ⟨j, hj, hj2, rfl⟩ | hi
      · have hr : A' 2 j = nI (R j 0) := hm.1.2.1 j hj 0 (by omega)
        have hj5 : j < 5 := by omega
        refine Eq.mpr (S64_6i hc.1 h5 hj _ _) ?_
        simp (disch := first | assumption | exact mnl_i | exact mnl_r | exact mnl_n | exact mnl_0 | omega) only [↓reduceIte, tolS, E124_0, E124_30, E124_41, E124_76, B124, dShG, dShR, show nI 6 = 6 from rfl, M114p, show ¬ (6 : Int32) < 0 by decide, show (5 : Int32) < 6 by decide, n10, M116_in hm.1.1 h5 hj, pix_nI, hr]
        exact JR_B hF hc hm
      · refine Eq.mpr (S64_o hc.1 h5 (w := 6) (by decide) (by decide) hi _ _) ?_
        simp (disch := first | assumption | exact mnl_i | exact mnl_r | exact mnl_n | exact mnl_0 | omega) only [↓reduceIte, tolS, E124_0, E124_30, E124_38, B124, dShG, show nI 6 = 6 from rfl, M114p, show ¬ (6 : Int32) < 0 by decide, show (5 : Int32) < 6 by decide, n10, M116_out hm.1.1 h5 hi]
        exact JR_B hF hc hm
    | 7, _ =>
      rcases i32_ix x many with ⟨j, hj, hj2, rfl⟩ | hi
      · have hr : A' 7 j = nI (R j 5) := hm.1.2.1 j hj 5 (by omega)
        have hj5 : j < 5 := by omega
        refine Eq.mpr (S64_7i hc.1 h5 hj _ _) ?_
        simp (disch := first | assumption | exact mnl_i | exact mnl_r | exact mnl_n | exact mnl_0 | omega) only [↓reduceIte, tolS, E124_0, E124_30, E124_41, E124_83, B124, dShG, dShR, show nI 7 = 7 from rfl, M114p, show ¬ (7 : Int32) < 0 by decide, show (5 : Int32) < 7 by decide, n10, M116_in hm.1.1 h5 hj, pix_nI, hr, show ¬ (7 : Int32) = 6 by decide]
        exact JR_B hF hc hm
      · refine Eq.mpr (S64_o hc.1 h5 (w := 7) (by decide) (by decide) hi _ _) ?_
        simp (disch := first | assumption | exact mnl_i | exact mnl_r | exact mnl_n | exact mnl_0 | omega) only [↓reduceIte, tolS, E124_0, E124_30, E124_38, B124, dShG, show nI 7 = 7 from rfl, M114p, show ¬ (7 : Int32) < 0 by decide, show (5 : Int32) < 7 by decide, n10, M116_out hm.1.1 h5 hi]
        exact JR_B hF hc hm
    | 8, _ =>
      rcases i32_ix x many with ⟨j, hj, hj2, rfl⟩ | hi
      · have hlt : 6 + 1 * j < 900 := by omega
        have hj5 : j < 5 := by omega
        have hrid := c6j hj5
        have hW := WR_of hF.1 hc.1 hc.2.1 hj
        have hM2 := WM_of hF.1 hm.1 hm.2.1 hj
        have hr5 : A' 5 j = nI (R j 3) := hm.1.2.1 j hj 3 (by omega)
        have hp := (hF.1.2.1 j hj).2.2.2.1
        simp (disch := first | assumption | exact mnl_i | exact mnl_r | exact mnl_n | exact mnl_0 | omega) only [↓reduceIte, tolS, E64_0, E64_12, E64_41, E64_57, E64_138.1, E64_138.2.1, E64_138.2.2.1, E64_138.2.2.2.1, E64_138.2.2.2.2.1, B64, cShG, kRider, S1_in hc.1.1 h5 hj, hlt, show ¬ (8 : Int32) = 0 by decide, show ¬ (8 : Int32) = 1 by decide, show ¬ (8 : Int32) = 2 by decide, show ¬ (8 : Int32) = 3 by decide, show ¬ (8 : Int32) = 4 by decide, show ¬ (8 : Int32) = 5 by decide, show ¬ (8 : Int32) = 6 by decide, show ¬ (8 : Int32) = 7 by decide, show nI 8 = 8 from rfl]
        refine S12 hW _ _ (fun f1 => ?_)
        simp (disch := first | assumption | exact mnl_i | exact mnl_r | exact mnl_n | exact mnl_0 | omega) only [↓reduceIte, tolS, E64_138.2.2.2.2.2]
        simp (disch := first | assumption | exact mnl_i | exact mnl_r | exact mnl_n | exact mnl_0 | omega) only [↓reduceIte, tolS, E124_0, E124_30, E124_41, E124_90.1, E124_90.2.1, E124_90.2.2.1, E124_90.2.2.2.1, E124_90.2.2.2.2.1, E124_90.2.2.2.2.2.1, E124_90.2.2.2.2.2.2.1, B124, dShG, dShR, show nI 8 = 8 from rfl, M114p, show ¬ (8 : Int32) < 0 by decide, show (5 : Int32) < 8 by decide, n10, M116_in hm.1.1 h5 hj, pix_nI, hr5, show ¬ (8 : Int32) = 6 by decide, show ¬ (8 : Int32) = 7 by decide]
        refine M147 hM2 (pl := R j 3) (by omega) _ _ (fun A2 q2 => ?_)
        simp (disch := first | assumption | exact mnl_i | exact mnl_r | exact mnl_n | exact mnl_0 | omega) only [↓reduceIte, tolS, E124_90.2.2.2.2.2.2.2, uN_self]
        exact JR_S hF.1 hF.2 hc.1 hc.2.1 hc.2.2 hm.1 hm.2.1 hm.2.2 (cS_20 hrl (fun _ _ _ => rfl) (fun b hb => upA_n hb)) (mS_13 (fun _ _ => rfl) q2)
      · refine Eq.mpr (S64_o hc.1 h5 (w := 8) (by decide) (by decide) hi _ _) ?_
        simp (disch := first | assumption | exact mnl_i | exact mnl_r | exact mnl_n | exact mnl_0 | omega) only [↓reduceIte, tolS, E124_0, E124_30, E124_38, B124, dShG, show nI 8 = 8 from rfl, M114p, show ¬ (8 : Int32) < 0 by decide, show (5 : Int32) < 8 by decide, n10, M116_out hm.1.1 h5 hi]
        exact JR_B hF hc hm
    | 9, _ =>
      rcases i32_ix x many with ⟨j, hj, hj2, rfl⟩ | hi
      · have hlt : 6 + 1 * j < 900 := by omega
        have hj5 : j < 5 := by omega
        have hrid := c6j hj5
        have hW := WR_of hF.1 hc.1 hc.2.1 hj
        have hM2 := WM_of hF.1 hm.1 hm.2.1 hj
        have hr5 : A' 5 j = nI (R j 3) := hm.1.2.1 j hj 3 (by omega)
        have hp := (hF.1.2.1 j hj).2.2.2.1
        simp (disch := first | assumption | exact mnl_i | exact mnl_r | exact mnl_n | exact mnl_0 | omega) only [↓reduceIte, tolS, E64_0, E64_12, E64_41, E64_57, E64_147.1, E64_147.2.1, E64_147.2.2.1, E64_147.2.2.2.1, E64_147.2.2.2.2.1, B64, cShG, kRider, S1_in hc.1.1 h5 hj, hlt, show ¬ (9 : Int32) = 0 by decide, show ¬ (9 : Int32) = 1 by decide, show ¬ (9 : Int32) = 2 by decide, show ¬ (9 : Int32) = 3 by decide, show ¬ (9 : Int32) = 4 by decide, show ¬ (9 : Int32) = 5 by decide, show ¬ (9 : Int32) = 6 by decide, show ¬ (9 : Int32) = 7 by decide, show ¬ (9 : Int32) = 8 by decide, show nI 9 = 9 from rfl]
        refine S14 hW _ _ (fun f1 => ?_)
        simp (disch := first | assumption | exact mnl_i | exact mnl_r | exact mnl_n | exact mnl_0 | omega) only [↓reduceIte, tolS, E64_147.2.2.2.2.2]
        simp (disch := first | assumption | exact mnl_i | exact mnl_r | exact mnl_n | exact mnl_0 | omega) only [↓reduceIte, tolS, E124_0, E124_30, E124_41, E124_102.1, E124_102.2.1, E124_102.2.2.1, B124, dShG, dShR, show nI 9 = 9 from rfl, M114p, show ¬ (9 : Int32) < 0 by decide, show (5 : Int32) < 9 by decide, n10, M116_in hm.1.1 h5 hj, pix_nI, hr5, show ¬ (9 : Int32) = 6 by decide, show ¬ (9 : Int32) = 7 by decide, show ¬ (9 : Int32) = 8 by decide]
        refine M148 hM2 _ _ (fun A2 q2 => ?_)
        simp (disch := first | assumption | exact mnl_i | exact mnl_r | exact mnl_n | exact mnl_0 | omega) only [↓reduceIte, tolS, E124_102.2.2.2]
        exact JR_S hF.1 hF.2 hc.1 hc.2.1 hc.2.2 hm.1 hm.2.1 hm.2.2 (cS_20 hrl (fun _ _ _ => rfl) (fun b hb => upA_n hb)) (mS_13 (fun _ _ => rfl) q2)
      · refine Eq.mpr (S64_o hc.1 h5 (w := 9) (by decide) (by decide) hi _ _) ?_
        simp (disch := first | assumption | exact mnl_i | exact mnl_r | exact mnl_n | exact mnl_0 | omega) only [↓reduceIte, tolS, E124_0, E124_30, E124_38, B124, dShG, show nI 9 = 9 from rfl, M114p, show ¬ (9 : Int32) < 0 by decide, show (5 : Int32) < 9 by decide, n10, M116_out hm.1.1 h5 hi]
        exact JR_B hF hc hm
    | 10, _ =>
      rcases i32_ix x many with ⟨j, hj, hj2, rfl⟩ | hi
      · have hlt : 6 + 1 * j < 900 := by omega
        have hj5 : j < 5 := by omega
        have hrid := c6j hj5
        have hW := WR_of hF.1 hc.1 hc.2.1 hj
        have hM2 := WM_of hF.1 hm.1 hm.2.1 hj
        have hr5 : A' 5 j = nI (R j 3) := hm.1.2.1 j hj 3 (by omega)
        have hp := (hF.1.2.1 j hj).2.2.2.1
        simp (disch := first | assumption | exact mnl_i | exact mnl_r | exact mnl_n | exact mnl_0 | omega) only [↓reduceIte, tolS, E64_0, E64_12, E64_41, E64_57, E64_156.1, E64_156.2.1, E64_156.2.2.1, E64_156.2.2.2.1, E64_156.2.2.2.2.1, B64, cShG, kRider, S1_in hc.1.1 h5 hj, hlt, show ¬ (10 : Int32) = 0 by decide, show ¬ (10 : Int32) = 1 by decide, show ¬ (10 : Int32) = 2 by decide, show ¬ (10 : Int32) = 3 by decide, show ¬ (10 : Int32) = 4 by decide, show ¬ (10 : Int32) = 5 by decide, show ¬ (10 : Int32) = 6 by decide, show ¬ (10 : Int32) = 7 by decide, show ¬ (10 : Int32) = 8 by decide, show ¬ (10 : Int32) = 9 by decide, show nI 10 = 10 from rfl]
        refine S15 hW _ _ (fun f1 => ?_)
        simp (disch := first | assumption | exact mnl_i | exact mnl_r | exact mnl_n | exact mnl_0 | omega) only [↓reduceIte, tolS, E64_156.2.2.2.2.2]
        simp (disch := first | assumption | exact mnl_i | exact mnl_r | exact mnl_n | exact mnl_0 | omega) only [↓reduceIte, tolS, E124_0, E124_30, E124_41, E124_108.1, E124_108.2.1, E124_108.2.2.1, E124_108.2.2.2.1, E124_108.2.2.2.2.1, E124_108.2.2.2.2.2.1, E124_108.2.2.2.2.2.2.1, B124, dShG, dShR, show nI 10 = 10 from rfl, M114p, show ¬ (10 : Int32) < 0 by decide, show (5 : Int32) < 10 by decide, n10, M116_in hm.1.1 h5 hj, pix_nI, hr5, show ¬ (10 : Int32) = 6 by decide, show ¬ (10 : Int32) = 7 by decide, show ¬ (10 : Int32) = 8 by decide, show ¬ (10 : Int32) = 9 by decide]
        refine M149 hM2 (pl := R j 3) (by omega) _ _ (fun A2 q2 => ?_)
        simp (disch := first | assumption | exact mnl_i | exact mnl_r | exact mnl_n | exact mnl_0 | omega) only [↓reduceIte, tolS, E124_108.2.2.2.2.2.2.2, uN_self]
        exact JR_S hF.1 hF.2 hc.1 hc.2.1 hc.2.2 hm.1 hm.2.1 hm.2.2 (cS_20 hrl (fun _ _ _ => rfl) (fun b hb => upA_n hb)) (mS_13 (fun _ _ => rfl) q2)
      · refine Eq.mpr (S64_o hc.1 h5 (w := 10) (by decide) (by decide) hi _ _) ?_
        simp (disch := first | assumption | exact mnl_i | exact mnl_r | exact mnl_n | exact mnl_0 | omega) only [↓reduceIte, tolS, E124_0, E124_30, E124_38, B124, dShG, show nI 10 = 10 from rfl, M114p, show ¬ (10 : Int32) < 0 by decide, show (5 : Int32) < 10 by decide, n10, M116_out hm.1.1 h5 hi]
        exact JR_B hF hc hm
  · have hw : (w < 0 ∨ (5 : Int32) < w) ∧ (¬ w = 0 ∧ ¬ w = 1 ∧ ¬ w = 2 ∧ ¬ w = 3 ∧ ¬ w = 4 ∧ ¬ w = 5) ∧ (¬ w = 6 ∧ ¬ w = 7 ∧ ¬ w = 8 ∧ ¬ w = 9 ∧ ¬ w = 10) := by
      rcases ho with hi | ⟨q, hq, hq2, rfl⟩
      · refine ⟨Or.inl hi, ⟨?_, ?_, ?_, ?_, ?_, ?_⟩, ?_, ?_, ?_, ?_, ?_⟩ <;> (intro z; rw [z] at hi; revert hi; decide)
      · have nn : ∀ k, k < 11 → ¬ nI q = nI k := fun k hk z => by have := (nI_eq hq2 (by omega)).mp z; omega
        exact ⟨Or.inr ((nI_ltI (a := 5) (by omega) hq2).mpr (by omega)), ⟨nn 0 (by omega), nn 1 (by omega), nn 2 (by omega), nn 3 (by omega), nn 4 (by omega), nn 5 (by omega)⟩, nn 6 (by omega), nn 7 (by omega), nn 8 (by omega), nn 9 (by omega), nn 10 (by omega)⟩
    obtain ⟨w1, ⟨a0, a1, a2, a3, a4, a5⟩, a6, a7, a8, a9, a10⟩ := hw
    have hwn : ∀ d h P, mRun (d + 1) 114 [.int w, .int 0, .int 5] h P = P (some (.int 0)) h := by
      intro d h P
      rw [M114p]
      rcases w1 with z | z
      · rw [if_pos z]
      · by_cases c : w < 0
        · rw [if_pos c]
        · rw [if_neg c, if_pos z]
    rcases i32_ix x many with ⟨j, hj, hj2, rfl⟩ | hi
    · have hlt : 6 + 1 * j < 900 := by omega
      simp (disch := first | assumption | exact mnl_i | exact mnl_r | exact mnl_n | exact mnl_0 | omega) only [↓reduceIte, tolS, E64_0, E64_12, E64_41, E64_57, E64_165, B64, cShG, S1_in hc.1.1 h5 hj, hlt, a0, a1, a2, a3, a4, a5, a6, a7, a8, a9, a10]
      simp (disch := first | assumption | exact mnl_i | exact mnl_r | exact mnl_n | exact mnl_0 | omega) only [↓reduceIte, tolS, E124_0, E124_30, E124_41, E124_120, B124, dShG, hwn, M116_in hm.1.1 h5 hj, n10, a6, a7, a8, a9, a10]
      exact JR_B hF hc hm
    · refine Eq.mpr (S64_o hc.1 h5 a0 a1 hi _ _) ?_
      simp (disch := first | assumption | exact mnl_i | exact mnl_r | exact mnl_n | exact mnl_0 | omega) only [↓reduceIte, tolS, E124_0, E124_30, E124_38, B124, dShG, hwn, M116_out hm.1.1 h5 hi]
      exact JR_B hF hc hm
theorem palen_O {h : MH} {K : Nat → Prop} : palen h 1000 K = K 6 := rfl
theorem pial_O {h : MH} {i : Int32} {K : Int32 → Prop} : pial h 1000 i K = pix i 6 (fun j => K (([999, 9, 9, 9, 23, 99] : List Int32).getD j 0)) := rfl
/-- a rider's field is laid -/
theorem JQ_fld (hF : FB nt many R th day rl e) (hc : CB I V A nt W many R th day rl e) (hm : MB I' A' nt W many R th day rl e) {j f q : Nat} (hj : j < many) (hf : 1 ≤ f ∧ f ≤ 4) (hq : q ≤ (if f = 1 then 9 else if f = 2 then 9 else if f = 3 then 23 else 99)) {v : Option Value} : JQ v (mkH cSh (up2 I (6 + 1 * j) f (nI q)) V L A) v (mkH dSh I' V' L' (upA A' (2 + f) (upd (A' (2 + f)) j (nI q)))) := by
  have h5 := hF.1.1
  have hr := hc.1.2.1 j hj
  have ok := hF.1.2.1 j hj
  have ok2 : rOk (uN (R j) f q) := by
    obtain ⟨k0, k1, k2, k3, k4, k5⟩ := ok
    obtain ⟨f1, f4⟩ := hf
    have : f = 1 ∨ f = 2 ∨ f = 3 ∨ f = 4 := by omega
    rcases this with rfl | rfl | rfl | rfl
    · exact ⟨k0, by rw [uN_s]; simpa using hq, k2, k3, k4, k5⟩
    · exact ⟨k0, k1, by rw [uN_s]; simpa using hq, k3, k4, k5⟩
    · exact ⟨k0, k1, k2, by rw [uN_s]; simpa using hq, k4, k5⟩
    · exact ⟨k0, k1, k2, k3, by rw [uN_s]; simpa using hq, k5⟩
  have x1 := CTE_G (I' := up2 I (6 + 1 * j) f (nI q)) (V' := V) (A' := A) hc.2.1 hc.2.2 hF.1.2.2.2.2.2 hF.2 (fun b g hb => up2_a (by omega)) rfl (fun b hb => rfl)
  have x2 := MTE_G (I' := I') (A' := upA A' (2 + f) (upd (A' (2 + f)) j (nI q))) hm.2.1 hm.2.2 (fun f' _ => rfl) (fun b hb => upA_n (by omega))
  refine JR_end (FG_upR hF.1 (j := j) ok2) (FE_upR hF.2 (j := j) (uN_n (by omega))) (CG_upR hc.1 h5 (fun b g hb _ => up2_a hb) hj (up2_six hr) rfl rfl) x1.1 x1.2 (MG_upR hm.1 (fun _ _ => rfl) (upA_n (by omega)) (fun b k hb hk => ?_) (fun g hg => ?_)) x2.1 x2.2
  · by_cases eb : b = 2 + f
    · rw [eb, upA_s, upd_n hk]
    · rw [upA_n eb]
  · by_cases eg : g = f
    · rw [eg, upA_s, upd_s, uN_s]
    · rw [upA_n (by omega), uN_n eg]; exact hm.1.2.1 j hj g hg
theorem J62 {hC hM : MH} (h : REL hC hM) (d : Nat) (w x v : Int32) : JR (d + 90) 62 122 [.int w, .int x, .int v] hC hM := by
  obtain ⟨I, V, L, A, I', V', L', A', nt, W, many, R, th, day, rl, e, ec, em, hF, hc, hm⟩ := REL_B h
  rw [ec, em]
  unfold JR
  have h5 := hF.1.1
  have g00 : ¬ (0 : Int32) < 0 := by decide
  rcases i32_ix w 6 with ⟨q, hq, hq2, rfl⟩ | ho
  · match q, hq with
    | 0, _ =>
      have hcls : ∀ (y : Nat), y ≤ 999 → mFr (d + 89) 62 0 [some (.ref 0), some (.int 0), some (.int x), some (.int (nI y)), none] [] (mkH cSh I V L A) (fun v' h' => mRun (d + 90) 122 [.ref 0, .int 0, .int x, .int (nI y)] (mkH dSh I' V' L' A') (fun v'' h'' => JQ v' h' v'' h'')) = mFr (d + 89) 62 28 [some (.ref 0), some (.int 0), some (.int x), some (.int (nI y)), none] [] (mkH cSh I V L A) (fun v' h' => mRun (d + 90) 122 [.ref 0, .int 0, .int x, .int (nI y)] (mkH dSh I' V' L' A') (fun v'' h'' => JQ v' h' v'' h'')) := by
        intro y hy
        have hy2 : ¬ 999 < y := by omega
        simp (disch := first | assumption | exact mnl_i | exact mnl_r | exact mnl_n | exact mnl_0 | omega) only [↓reduceIte, tolS, E62_0, E62_4, E62_12, E62_16, show nI 0 = 0 from rfl, show ¬ (0 : Int32) < 0 by decide, show (0 : Int32) < Int32.ofNat 6 by decide, palen_O, pial_O, (pixL (n := 6) (by omega)), show (0 : Nat) < 6 by decide, show (([999, 9, 9, 9, 23, 99] : List Int32).getD 0 0) = 999 from rfl, q_neg, q_gt, hy2]
      rcases i32_ix v 1000 with ⟨y, hy, hy2, rfl⟩ | hv
      · refine Eq.mpr (B62 _ _ _ _ _ _ _) ?_
        refine Eq.mpr (hcls y (by omega)) ?_
        have hne : ¬ nI day = -2 := nI_m2 (by have := hF.1.2.2.1; omega)
        simp (disch := first | assumption | exact mnl_i | exact mnl_r | exact mnl_n | exact mnl_0 | omega) only [↓reduceIte, tolS, E62_28.1, E62_28.2.1, E62_28.2.2.1, E62_28.2.2.2.1, cShG]
        refine Eq.mpr (S64_0 _ hc.1.2.2.1 _ _) ?_
        simp (disch := first | assumption | exact mnl_i | exact mnl_r | exact mnl_n | exact mnl_0 | omega) only [↓reduceIte, tolS, tolN, E62_28.2.2.2.2.1, E62_28.2.2.2.2.2.1, E62_28.2.2.2.2.2.2.1, E62_28.2.2.2.2.2.2.2, E62_43.1, E62_43.2.1, E62_43.2.2.1, E62_43.2.2.2.1, E62_43.2.2.2.2, hne, cShG]
        simp (disch := first | assumption | exact mnl_i | exact mnl_r | exact mnl_n | exact mnl_0 | omega) only [↓reduceIte, tolS, tolN, E66_0, E66_4, B66, cShG, cShP]
        simp (disch := first | assumption | exact mnl_i | exact mnl_r | exact mnl_n | exact mnl_0 | omega) only [↓reduceIte, tolS, tolN, E62_50]
        simp (disch := first | assumption | exact mnl_i | exact mnl_r | exact mnl_n | exact mnl_0 | omega) only [↓reduceIte, tolS, tolN, E122_0, E122_9, E122_20, E122_64, E122_119, B122, dShG, dShP, M119_0, n10, B120, E120_0, E120_36, M114_in (y := 999) (n := 999) (j := y) rfl (by omega) (by omega), M121_0 hm.1.2.2.1]
        have x1 := CTE_G (I' := up2 I 59 1 (nI y)) (V' := V) (A' := A) hc.2.1 hc.2.2 hF.1.2.2.2.2.2 hF.2 (fun b g hb => up2_a (by omega)) rfl (fun b hb => rfl)
        have x2 := MTE_G (I' := up2 I' 0 0 (nI y)) (A' := A') hm.2.1 hm.2.2 (fun f' _ => up2_f (by omega)) (fun b hb => rfl)
        exact JR_end (day := y) ⟨h5, hF.1.2.1, by omega, hF.1.2.2.2⟩ hF.2 ⟨by rw [up2_a (by omega)]; exact hc.1.1, fun k hk f hf => by rw [up2_a (by omega)]; exact hc.1.2.1 k hk f hf, up2_s, hc.1.2.2.2.1, hc.1.2.2.2.2⟩ x1.1 x1.2 ⟨by rw [up2_f (by omega)]; exact hm.1.1, hm.1.2.1, up2_s, hm.1.2.2.2.1, by rw [up2_f (by omega)]; exact hm.1.2.2.2.2⟩ x2.1 x2.2
      · have hb : mRun (d + 90) 122 [.ref 0, .int 0, .int x, .int v] (mkH dSh I' V' L' A') (fun v'' h'' => JQ (some (.int (-2))) (mkH cSh I V L A) v'' h'') := by
          simp (disch := first | assumption | exact mnl_i | exact mnl_r | exact mnl_n | exact mnl_0 | omega) only [↓reduceIte, tolS, tolN, E122_0, E122_9, E122_17, B122, dShG, M119_0, n10, B120, E120_0, E120_36, M114_out (y := 999) (n := 999) (x := v) rfl hv]
          exact JR_B hF hc hm
        rcases hv with hv | ⟨y, hy, hy2, rfl⟩
        · simp (disch := first | assumption | exact mnl_i | exact mnl_r | exact mnl_n | exact mnl_0 | omega) only [↓reduceIte, tolS, E62_0, E62_4, E62_12, E62_25, B62, show nI 0 = 0 from rfl, show ¬ (0 : Int32) < 0 by decide, show (0 : Int32) < Int32.ofNat 6 by decide, palen_O, pial_O, (pixL (n := 6) (by omega)), show (0 : Nat) < 6 by decide, show (([999, 9, 9, 9, 23, 99] : List Int32).getD 0 0) = 999 from rfl, hv]
          exact hb
        · have hy3 : 999 < y := by omega
          simp (disch := first | assumption | exact mnl_i | exact mnl_r | exact mnl_n | exact mnl_0 | omega) only [↓reduceIte, tolS, E62_0, E62_4, E62_12, E62_16, E62_25, B62, show nI 0 = 0 from rfl, show ¬ (0 : Int32) < 0 by decide, show (0 : Int32) < Int32.ofNat 6 by decide, palen_O, pial_O, (pixL (n := 6) (by omega)), show (0 : Nat) < 6 by decide, show (([999, 9, 9, 9, 23, 99] : List Int32).getD 0 0) = 999 from rfl, q_neg, q_gt, hy3]
          exact hb
    | 1, _ =>
      have hcls : ∀ (y : Nat), y ≤ 9 → mFr (d + 89) 62 0 [some (.ref 0), some (.int 1), some (.int x), some (.int (nI y)), none] [] (mkH cSh I V L A) (fun v' h' => mRun (d + 90) 122 [.ref 0, .int 1, .int x, .int (nI y)] (mkH dSh I' V' L' A') (fun v'' h'' => JQ v' h' v'' h'')) = mFr (d + 89) 62 28 [some (.ref 0), some (.int 1), some (.int x), some (.int (nI y)), none] [] (mkH cSh I V L A) (fun v' h' => mRun (d + 90) 122 [.ref 0, .int 1, .int x, .int (nI y)] (mkH dSh I' V' L' A') (fun v'' h'' => JQ v' h' v'' h'')) := by
        intro y hy
        have hy2 : ¬ 9 < y := by omega
        simp (disch := first | assumption | exact mnl_i | exact mnl_r | exact mnl_n | exact mnl_0 | omega) only [↓reduceIte, tolS, E62_0, E62_4, E62_12, E62_16, show nI 1 = 1 from rfl, show ¬ (1 : Int32) < 0 by decide, show (1 : Int32) < Int32.ofNat 6 by decide, palen_O, pial_O, (pixL (n := 6) (by omega)), show (1 : Nat) < 6 by decide, show (([999, 9, 9, 9, 23, 99] : List Int32).getD 1 0) = 9 from rfl, q_neg, q_gt, hy2]
      rcases i32_ix v 10 with ⟨y, hy, hy2, rfl⟩ | hv
      · refine Eq.mpr (B62 _ _ _ _ _ _ _) ?_
        refine Eq.mpr (hcls y (by omega)) ?_
        rcases i32_ix x 24 with ⟨j, hj, hj2, rfl⟩ | hi
        · have hne : ¬ nI (th j) = -2 := nI_m2 (by have := hF.1.2.2.2.1 j hj; omega)
          simp (disch := first | assumption | exact mnl_i | exact mnl_r | exact mnl_n | exact mnl_0 | omega) only [↓reduceIte, tolS, E62_28.1, E62_28.2.1, E62_28.2.2.1, E62_28.2.2.2.1, cShG]
          refine Eq.mpr (S64_1i hc.1 hj _ _) ?_
          simp (disch := first | assumption | exact mnl_i | exact mnl_r | exact mnl_n | exact mnl_0 | omega) only [↓reduceIte, tolS, tolN, E62_28.2.2.2.2.1, E62_28.2.2.2.2.2.1, E62_28.2.2.2.2.2.2.1, E62_28.2.2.2.2.2.2.2, E62_43.1, E62_43.2.1, E62_43.2.2.1, E62_43.2.2.2.1, E62_43.2.2.2.2, hne, cShG]
          simp (disch := first | assumption | exact mnl_i | exact mnl_r | exact mnl_n | exact mnl_0 | omega) only [↓reduceIte, tolS, tolN, E66_0, E66_13, E66_18, B66, cShG, cShP, n10, S18 (b := 59) rfl rfl hj]
          simp (disch := first | assumption | exact mnl_i | exact mnl_r | exact mnl_n | exact mnl_0 | omega) only [↓reduceIte, tolS, tolN, E62_50]
          simp (disch := first | assumption | exact mnl_i | exact mnl_r | exact mnl_n | exact mnl_0 | omega) only [↓reduceIte, tolS, tolN, E122_0, E122_9, E122_20, E122_72, E122_119, B122, dShG, dShR, M119_1i hj, n10, B120, E120_0, E120_58, M114_in (y := 9) (n := 9) (j := y) rfl (by omega) (by omega), show ¬ (1 : Int32) = 0 by decide, show ¬ (1 : Int32) = 4 by decide, show ¬ (1 : Int32) = 5 by decide, M121_1 hm.1 hj, pix_nI, show ¬ (1 : Int32) = 0 by decide]
          have x1 := CTE_G (I' := I) (V' := V) (A' := upA A 60 (upd (A 60) j (nI y))) hc.2.1 hc.2.2 hF.1.2.2.2.2.2 hF.2 (fun b g hb => rfl) rfl (fun b hb => upA_n (by omega))
          have x2 := MTE_G (I' := I') (A' := upA A' 1 (upd (A' 1) j (nI y))) hm.2.1 hm.2.2 (fun f' _ => rfl) (fun b hb => upA_n (by omega))
          refine JR_end (th := fun p => if p = j then y else th p) ⟨h5, hF.1.2.1, hF.1.2.2.1, fun p hp => ?_, hF.1.2.2.2.2⟩ hF.2 ⟨hc.1.1, hc.1.2.1, hc.1.2.2.1, fun p hp => ?_, hc.1.2.2.2.2⟩ x1.1 x1.2 ⟨hm.1.1, fun k hk f hf => by rw [upA_n (by omega)]; exact hm.1.2.1 k hk f hf, hm.1.2.2.1, fun p hp => ?_, hm.1.2.2.2.2⟩ x2.1 x2.2
          · dsimp only
            by_cases c : p = j
            · rw [if_pos c]; omega
            · rw [if_neg c]; exact hF.1.2.2.2.1 p hp
          · dsimp only
            rw [upA_s]
            by_cases c : p = j
            · rw [if_pos c, c, upd_s]
            · rw [if_neg c, upd_n c]; exact hc.1.2.2.2.1 p hp
          · dsimp only
            rw [upA_s]
            by_cases c : p = j
            · rw [if_pos c, c, upd_s]
            · rw [if_neg c, upd_n c]; exact hm.1.2.2.2.1 p hp
        · simp (disch := first | assumption | exact mnl_i | exact mnl_r | exact mnl_n | exact mnl_0 | omega) only [↓reduceIte, tolS, E62_28.1, E62_28.2.1, E62_28.2.2.1, E62_28.2.2.2.1, cShG]
          refine Eq.mpr (S64_1o hi _ _) ?_
          simp (disch := first | assumption | exact mnl_i | exact mnl_r | exact mnl_n | exact mnl_0 | omega) only [↓reduceIte, tolS, tolN, E62_28.2.2.2.2.1, E62_28.2.2.2.2.2.1, E62_28.2.2.2.2.2.2.1, E62_28.2.2.2.2.2.2.2, E62_50]
          simp (disch := first | assumption | exact mnl_i | exact mnl_r | exact mnl_n | exact mnl_0 | omega) only [↓reduceIte, tolS, tolN, E122_0, E122_17, B122, dShG, M119_1o hi]
          exact JR_B hF hc hm
      · have hb : mRun (d + 90) 122 [.ref 0, .int 1, .int x, .int v] (mkH dSh I' V' L' A') (fun v'' h'' => JQ (some (.int (-2))) (mkH cSh I V L A) v'' h'') := by
          rcases i32_ix x 24 with ⟨j, hj, hj2, rfl⟩ | hi
          · simp (disch := first | assumption | exact mnl_i | exact mnl_r | exact mnl_n | exact mnl_0 | omega) only [↓reduceIte, tolS, tolN, E122_0, E122_9, E122_17, B122, dShG, M119_1i hj, n10, B120, E120_0, E120_58, M114_out (y := 9) (n := 9) (x := v) rfl hv, show ¬ (1 : Int32) = 0 by decide, show ¬ (1 : Int32) = 4 by decide, show ¬ (1 : Int32) = 5 by decide]
            exact JR_B hF hc hm
          · simp (disch := first | assumption | exact mnl_i | exact mnl_r | exact mnl_n | exact mnl_0 | omega) only [↓reduceIte, tolS, tolN, E122_0, E122_17, B122, dShG, M119_1o hi]
            exact JR_B hF hc hm
        rcases hv with hv | ⟨y, hy, hy2, rfl⟩
        · simp (disch := first | assumption | exact mnl_i | exact mnl_r | exact mnl_n | exact mnl_0 | omega) only [↓reduceIte, tolS, E62_0, E62_4, E62_12, E62_25, B62, show nI 1 = 1 from rfl, show ¬ (1 : Int32) < 0 by decide, show (1 : Int32) < Int32.ofNat 6 by decide, palen_O, pial_O, (pixL (n := 6) (by omega)), show (1 : Nat) < 6 by decide, show (([999, 9, 9, 9, 23, 99] : List Int32).getD 1 0) = 9 from rfl, hv]
          exact hb
        · have hy3 : 9 < y := by omega
          simp (disch := first | assumption | exact mnl_i | exact mnl_r | exact mnl_n | exact mnl_0 | omega) only [↓reduceIte, tolS, E62_0, E62_4, E62_12, E62_16, E62_25, B62, show nI 1 = 1 from rfl, show ¬ (1 : Int32) < 0 by decide, show (1 : Int32) < Int32.ofNat 6 by decide, palen_O, pial_O, (pixL (n := 6) (by omega)), show (1 : Nat) < 6 by decide, show (([999, 9, 9, 9, 23, 99] : List Int32).getD 1 0) = 9 from rfl, q_neg, q_gt, hy3]
          exact hb
    | 2, _ =>
      have hcls : ∀ (y : Nat), y ≤ 9 → mFr (d + 89) 62 0 [some (.ref 0), some (.int 2), some (.int x), some (.int (nI y)), none] [] (mkH cSh I V L A) (fun v' h' => mRun (d + 90) 122 [.ref 0, .int 2, .int x, .int (nI y)] (mkH dSh I' V' L' A') (fun v'' h'' => JQ v' h' v'' h'')) = mFr (d + 89) 62 28 [some (.ref 0), some (.int 2), some (.int x), some (.int (nI y)), none] [] (mkH cSh I V L A) (fun v' h' => mRun (d + 90) 122 [.ref 0, .int 2, .int x, .int (nI y)] (mkH dSh I' V' L' A') (fun v'' h'' => JQ v' h' v'' h'')) := by
        intro y hy
        have hy2 : ¬ 9 < y := by omega
        simp (disch := first | assumption | exact mnl_i | exact mnl_r | exact mnl_n | exact mnl_0 | omega) only [↓reduceIte, tolS, E62_0, E62_4, E62_12, E62_16, show nI 2 = 2 from rfl, show ¬ (2 : Int32) < 0 by decide, show (2 : Int32) < Int32.ofNat 6 by decide, palen_O, pial_O, (pixL (n := 6) (by omega)), show (2 : Nat) < 6 by decide, show (([999, 9, 9, 9, 23, 99] : List Int32).getD 2 0) = 9 from rfl, q_neg, q_gt, hy2]
      rcases i32_ix v 10 with ⟨y, hy, hy2, rfl⟩ | hv
      · refine Eq.mpr (B62 _ _ _ _ _ _ _) ?_
        refine Eq.mpr (hcls y (by omega)) ?_
        rcases i32_ix x many with ⟨j, hj, hj2, rfl⟩ | hi
        · have hj5 : j < 5 := by omega
          have hlt : 6 + 1 * j < 900 := by omega
          have hrid := c6j hj5
          have ok := hF.1.2.1 j hj
          have hne : ¬ nI (R j 1) = -2 := nI_m2 (by unfold rOk at ok; omega)
          simp (disch := first | assumption | exact mnl_i | exact mnl_r | exact mnl_n | exact mnl_0 | omega) only [↓reduceIte, tolS, E62_28.1, E62_28.2.1, E62_28.2.2.1, E62_28.2.2.2.1, cShG]
          refine Eq.mpr (S64_2i hc.1 h5 hj _ _) ?_
          simp (disch := first | assumption | exact mnl_i | exact mnl_r | exact mnl_n | exact mnl_0 | omega) only [↓reduceIte, tolS, tolN, E62_28.2.2.2.2.1, E62_28.2.2.2.2.2.1, E62_28.2.2.2.2.2.2.1, E62_28.2.2.2.2.2.2.2, E62_43.1, E62_43.2.1, E62_43.2.2.1, E62_43.2.2.2.1, E62_43.2.2.2.2, hne, cShG]
          simp (disch := first | assumption | exact mnl_i | exact mnl_r | exact mnl_n | exact mnl_0 | omega) only [↓reduceIte, tolS, tolN, E66_0, E66_13, E66_28, E66_44, E66_76, E66_112, B66, cShG, S1_in hc.1.1 h5 hj, hlt, kRider, show ¬ (2 : Int32) = 0 by decide, show ¬ (2 : Int32) = 1 by decide]
          simp (disch := first | assumption | exact mnl_i | exact mnl_r | exact mnl_n | exact mnl_0 | omega) only [↓reduceIte, tolS, tolN, E62_50]
          simp (disch := first | assumption | exact mnl_i | exact mnl_r | exact mnl_n | exact mnl_0 | omega) only [↓reduceIte, tolS, tolN, E122_0, E122_9, E122_20, E122_82, E122_119, B122, dShG, dShR, M119_2i hm.1.1 h5 hj, n10, B120, E120_0, E120_58, M114_in (y := 9) (n := 9) (j := y) rfl (by omega) (by omega), show ¬ (2 : Int32) = 0 by decide, show ¬ (2 : Int32) = 4 by decide, show ¬ (2 : Int32) = 5 by decide, M121_2 hm.1 h5 hj, pix_nI, show ¬ (2 : Int32) = 0 by decide, show ¬ (2 : Int32) = 1 by decide]
          exact JQ_fld hF hc hm (f := 1) hj (by omega) (by simp; omega)
        · simp (disch := first | assumption | exact mnl_i | exact mnl_r | exact mnl_n | exact mnl_0 | omega) only [↓reduceIte, tolS, E62_28.1, E62_28.2.1, E62_28.2.2.1, E62_28.2.2.2.1, cShG]
          refine Eq.mpr (S64_o hc.1 h5 (w := 2) (by decide) (by decide) hi _ _) ?_
          simp (disch := first | assumption | exact mnl_i | exact mnl_r | exact mnl_n | exact mnl_0 | omega) only [↓reduceIte, tolS, tolN, E62_28.2.2.2.2.1, E62_28.2.2.2.2.2.1, E62_28.2.2.2.2.2.2.1, E62_28.2.2.2.2.2.2.2, E62_50]
          simp (disch := first | assumption | exact mnl_i | exact mnl_r | exact mnl_n | exact mnl_0 | omega) only [↓reduceIte, tolS, tolN, E122_0, E122_17, B122, dShG, M119_2o hm.1.1 h5 hi]
          exact JR_B hF hc hm
      · have hb : mRun (d + 90) 122 [.ref 0, .int 2, .int x, .int v] (mkH dSh I' V' L' A') (fun v'' h'' => JQ (some (.int (-2))) (mkH cSh I V L A) v'' h'') := by
          rcases i32_ix x many with ⟨j, hj, hj2, rfl⟩ | hi
          · simp (disch := first | assumption | exact mnl_i | exact mnl_r | exact mnl_n | exact mnl_0 | omega) only [↓reduceIte, tolS, tolN, E122_0, E122_9, E122_17, B122, dShG, M119_2i hm.1.1 h5 hj, n10, B120, E120_0, E120_58, M114_out (y := 9) (n := 9) (x := v) rfl hv, show ¬ (2 : Int32) = 0 by decide, show ¬ (2 : Int32) = 4 by decide, show ¬ (2 : Int32) = 5 by decide]
            exact JR_B hF hc hm
          · simp (disch := first | assumption | exact mnl_i | exact mnl_r | exact mnl_n | exact mnl_0 | omega) only [↓reduceIte, tolS, tolN, E122_0, E122_17, B122, dShG, M119_2o hm.1.1 h5 hi]
            exact JR_B hF hc hm
        rcases hv with hv | ⟨y, hy, hy2, rfl⟩
        · simp (disch := first | assumption | exact mnl_i | exact mnl_r | exact mnl_n | exact mnl_0 | omega) only [↓reduceIte, tolS, E62_0, E62_4, E62_12, E62_25, B62, show nI 2 = 2 from rfl, show ¬ (2 : Int32) < 0 by decide, show (2 : Int32) < Int32.ofNat 6 by decide, palen_O, pial_O, (pixL (n := 6) (by omega)), show (2 : Nat) < 6 by decide, show (([999, 9, 9, 9, 23, 99] : List Int32).getD 2 0) = 9 from rfl, hv]
          exact hb
        · have hy3 : 9 < y := by omega
          simp (disch := first | assumption | exact mnl_i | exact mnl_r | exact mnl_n | exact mnl_0 | omega) only [↓reduceIte, tolS, E62_0, E62_4, E62_12, E62_16, E62_25, B62, show nI 2 = 2 from rfl, show ¬ (2 : Int32) < 0 by decide, show (2 : Int32) < Int32.ofNat 6 by decide, palen_O, pial_O, (pixL (n := 6) (by omega)), show (2 : Nat) < 6 by decide, show (([999, 9, 9, 9, 23, 99] : List Int32).getD 2 0) = 9 from rfl, q_neg, q_gt, hy3]
          exact hb
    | 3, _ =>
      have hcls : ∀ (y : Nat), y ≤ 9 → mFr (d + 89) 62 0 [some (.ref 0), some (.int 3), some (.int x), some (.int (nI y)), none] [] (mkH cSh I V L A) (fun v' h' => mRun (d + 90) 122 [.ref 0, .int 3, .int x, .int (nI y)] (mkH dSh I' V' L' A') (fun v'' h'' => JQ v' h' v'' h'')) = mFr (d + 89) 62 28 [some (.ref 0), some (.int 3), some (.int x), some (.int (nI y)), none] [] (mkH cSh I V L A) (fun v' h' => mRun (d + 90) 122 [.ref 0, .int 3, .int x, .int (nI y)] (mkH dSh I' V' L' A') (fun v'' h'' => JQ v' h' v'' h'')) := by
        intro y hy
        have hy2 : ¬ 9 < y := by omega
        simp (disch := first | assumption | exact mnl_i | exact mnl_r | exact mnl_n | exact mnl_0 | omega) only [↓reduceIte, tolS, E62_0, E62_4, E62_12, E62_16, show nI 3 = 3 from rfl, show ¬ (3 : Int32) < 0 by decide, show (3 : Int32) < Int32.ofNat 6 by decide, palen_O, pial_O, (pixL (n := 6) (by omega)), show (3 : Nat) < 6 by decide, show (([999, 9, 9, 9, 23, 99] : List Int32).getD 3 0) = 9 from rfl, q_neg, q_gt, hy2]
      rcases i32_ix v 10 with ⟨y, hy, hy2, rfl⟩ | hv
      · refine Eq.mpr (B62 _ _ _ _ _ _ _) ?_
        refine Eq.mpr (hcls y (by omega)) ?_
        rcases i32_ix x many with ⟨j, hj, hj2, rfl⟩ | hi
        · have hj5 : j < 5 := by omega
          have hlt : 6 + 1 * j < 900 := by omega
          have hrid := c6j hj5
          have ok := hF.1.2.1 j hj
          have hne : ¬ nI (R j 2) = -2 := nI_m2 (by unfold rOk at ok; omega)
          simp (disch := first | assumption | exact mnl_i | exact mnl_r | exact mnl_n | exact mnl_0 | omega) only [↓reduceIte, tolS, E62_28.1, E62_28.2.1, E62_28.2.2.1, E62_28.2.2.2.1, cShG]
          refine Eq.mpr (S64_3i hc.1 h5 hj _ _) ?_
          simp (disch := first | assumption | exact mnl_i | exact mnl_r | exact mnl_n | exact mnl_0 | omega) only [↓reduceIte, tolS, tolN, E62_28.2.2.2.2.1, E62_28.2.2.2.2.2.1, E62_28.2.2.2.2.2.2.1, E62_28.2.2.2.2.2.2.2, E62_43.1, E62_43.2.1, E62_43.2.2.1, E62_43.2.2.2.1, E62_43.2.2.2.2, hne, cShG]
          simp (disch := first | assumption | exact mnl_i | exact mnl_r | exact mnl_n | exact mnl_0 | omega) only [↓reduceIte, tolS, tolN, E66_0, E66_13, E66_28, E66_44, E66_85, E66_112, B66, cShG, S1_in hc.1.1 h5 hj, hlt, kRider, show ¬ (3 : Int32) = 0 by decide, show ¬ (3 : Int32) = 1 by decide, show ¬ (3 : Int32) = 2 by decide]
          simp (disch := first | assumption | exact mnl_i | exact mnl_r | exact mnl_n | exact mnl_0 | omega) only [↓reduceIte, tolS, tolN, E62_50]
          simp (disch := first | assumption | exact mnl_i | exact mnl_r | exact mnl_n | exact mnl_0 | omega) only [↓reduceIte, tolS, tolN, E122_0, E122_9, E122_20, E122_92, E122_119, B122, dShG, dShR, M119_3i hm.1.1 h5 hj, n10, B120, E120_0, E120_58, M114_in (y := 9) (n := 9) (j := y) rfl (by omega) (by omega), show ¬ (3 : Int32) = 0 by decide, show ¬ (3 : Int32) = 4 by decide, show ¬ (3 : Int32) = 5 by decide, M121_3 hm.1 h5 hj, pix_nI, show ¬ (3 : Int32) = 0 by decide, show ¬ (3 : Int32) = 1 by decide, show ¬ (3 : Int32) = 2 by decide]
          exact JQ_fld hF hc hm (f := 2) hj (by omega) (by simp; omega)
        · simp (disch := first | assumption | exact mnl_i | exact mnl_r | exact mnl_n | exact mnl_0 | omega) only [↓reduceIte, tolS, E62_28.1, E62_28.2.1, E62_28.2.2.1, E62_28.2.2.2.1, cShG]
          refine Eq.mpr (S64_o hc.1 h5 (w := 3) (by decide) (by decide) hi _ _) ?_
          simp (disch := first | assumption | exact mnl_i | exact mnl_r | exact mnl_n | exact mnl_0 | omega) only [↓reduceIte, tolS, tolN, E62_28.2.2.2.2.1, E62_28.2.2.2.2.2.1, E62_28.2.2.2.2.2.2.1, E62_28.2.2.2.2.2.2.2, E62_50]
          simp (disch := first | assumption | exact mnl_i | exact mnl_r | exact mnl_n | exact mnl_0 | omega) only [↓reduceIte, tolS, tolN, E122_0, E122_17, B122, dShG, M119_3o hm.1.1 h5 hi]
          exact JR_B hF hc hm
      · have hb : mRun (d + 90) 122 [.ref 0, .int 3, .int x, .int v] (mkH dSh I' V' L' A') (fun v'' h'' => JQ (some (.int (-2))) (mkH cSh I V L A) v'' h'') := by
          rcases i32_ix x many with ⟨j, hj, hj2, rfl⟩ | hi
          · simp (disch := first | assumption | exact mnl_i | exact mnl_r | exact mnl_n | exact mnl_0 | omega) only [↓reduceIte, tolS, tolN, E122_0, E122_9, E122_17, B122, dShG, M119_3i hm.1.1 h5 hj, n10, B120, E120_0, E120_58, M114_out (y := 9) (n := 9) (x := v) rfl hv, show ¬ (3 : Int32) = 0 by decide, show ¬ (3 : Int32) = 4 by decide, show ¬ (3 : Int32) = 5 by decide]
            exact JR_B hF hc hm
          · simp (disch := first | assumption | exact mnl_i | exact mnl_r | exact mnl_n | exact mnl_0 | omega) only [↓reduceIte, tolS, tolN, E122_0, E122_17, B122, dShG, M119_3o hm.1.1 h5 hi]
            exact JR_B hF hc hm
        rcases hv with hv | ⟨y, hy, hy2, rfl⟩
        · simp (disch := first | assumption | exact mnl_i | exact mnl_r | exact mnl_n | exact mnl_0 | omega) only [↓reduceIte, tolS, E62_0, E62_4, E62_12, E62_25, B62, show nI 3 = 3 from rfl, show ¬ (3 : Int32) < 0 by decide, show (3 : Int32) < Int32.ofNat 6 by decide, palen_O, pial_O, (pixL (n := 6) (by omega)), show (3 : Nat) < 6 by decide, show (([999, 9, 9, 9, 23, 99] : List Int32).getD 3 0) = 9 from rfl, hv]
          exact hb
        · have hy3 : 9 < y := by omega
          simp (disch := first | assumption | exact mnl_i | exact mnl_r | exact mnl_n | exact mnl_0 | omega) only [↓reduceIte, tolS, E62_0, E62_4, E62_12, E62_16, E62_25, B62, show nI 3 = 3 from rfl, show ¬ (3 : Int32) < 0 by decide, show (3 : Int32) < Int32.ofNat 6 by decide, palen_O, pial_O, (pixL (n := 6) (by omega)), show (3 : Nat) < 6 by decide, show (([999, 9, 9, 9, 23, 99] : List Int32).getD 3 0) = 9 from rfl, q_neg, q_gt, hy3]
          exact hb
    | 4, _ =>
      have hcls : ∀ (y : Nat), y ≤ 23 → mFr (d + 89) 62 0 [some (.ref 0), some (.int 4), some (.int x), some (.int (nI y)), none] [] (mkH cSh I V L A) (fun v' h' => mRun (d + 90) 122 [.ref 0, .int 4, .int x, .int (nI y)] (mkH dSh I' V' L' A') (fun v'' h'' => JQ v' h' v'' h'')) = mFr (d + 89) 62 28 [some (.ref 0), some (.int 4), some (.int x), some (.int (nI y)), none] [] (mkH cSh I V L A) (fun v' h' => mRun (d + 90) 122 [.ref 0, .int 4, .int x, .int (nI y)] (mkH dSh I' V' L' A') (fun v'' h'' => JQ v' h' v'' h'')) := by
        intro y hy
        have hy2 : ¬ 23 < y := by omega
        simp (disch := first | assumption | exact mnl_i | exact mnl_r | exact mnl_n | exact mnl_0 | omega) only [↓reduceIte, tolS, E62_0, E62_4, E62_12, E62_16, show nI 4 = 4 from rfl, show ¬ (4 : Int32) < 0 by decide, show (4 : Int32) < Int32.ofNat 6 by decide, palen_O, pial_O, (pixL (n := 6) (by omega)), show (4 : Nat) < 6 by decide, show (([999, 9, 9, 9, 23, 99] : List Int32).getD 4 0) = 23 from rfl, q_neg, q_gt, hy2]
      rcases i32_ix v 24 with ⟨y, hy, hy2, rfl⟩ | hv
      · refine Eq.mpr (B62 _ _ _ _ _ _ _) ?_
        refine Eq.mpr (hcls y (by omega)) ?_
        rcases i32_ix x many with ⟨j, hj, hj2, rfl⟩ | hi
        · have hj5 : j < 5 := by omega
          have hlt : 6 + 1 * j < 900 := by omega
          have hrid := c6j hj5
          have ok := hF.1.2.1 j hj
          have hne : ¬ nI (R j 3) = -2 := nI_m2 (by unfold rOk at ok; omega)
          simp (disch := first | assumption | exact mnl_i | exact mnl_r | exact mnl_n | exact mnl_0 | omega) only [↓reduceIte, tolS, E62_28.1, E62_28.2.1, E62_28.2.2.1, E62_28.2.2.2.1, cShG]
          refine Eq.mpr (S64_4i hc.1 h5 hj _ _) ?_
          simp (disch := first | assumption | exact mnl_i | exact mnl_r | exact mnl_n | exact mnl_0 | omega) only [↓reduceIte, tolS, tolN, E62_28.2.2.2.2.1, E62_28.2.2.2.2.2.1, E62_28.2.2.2.2.2.2.1, E62_28.2.2.2.2.2.2.2, E62_43.1, E62_43.2.1, E62_43.2.2.1, E62_43.2.2.2.1, E62_43.2.2.2.2, hne, cShG]
          simp (disch := first | assumption | exact mnl_i | exact mnl_r | exact mnl_n | exact mnl_0 | omega) only [↓reduceIte, tolS, tolN, E66_0, E66_13, E66_28, E66_44, E66_94, E66_112, B66, cShG, S1_in hc.1.1 h5 hj, hlt, kRider, show ¬ (4 : Int32) = 0 by decide, show ¬ (4 : Int32) = 1 by decide, show ¬ (4 : Int32) = 2 by decide, show ¬ (4 : Int32) = 3 by decide]
          simp (disch := first | assumption | exact mnl_i | exact mnl_r | exact mnl_n | exact mnl_0 | omega) only [↓reduceIte, tolS, tolN, E62_50]
          simp (disch := first | assumption | exact mnl_i | exact mnl_r | exact mnl_n | exact mnl_0 | omega) only [↓reduceIte, tolS, tolN, E122_0, E122_9, E122_20, E122_102, E122_119, B122, dShG, dShR, M119_4i hm.1.1 h5 hj, n10, B120, E120_0, E120_45, M117_in (j := y) (by omega), show ¬ (4 : Int32) = 0 by decide, M121_4 hm.1 h5 hj, pix_nI, show ¬ (4 : Int32) = 0 by decide, show ¬ (4 : Int32) = 1 by decide, show ¬ (4 : Int32) = 2 by decide, show ¬ (4 : Int32) = 3 by decide]
          exact JQ_fld hF hc hm (f := 3) hj (by omega) (by simp; omega)
        · simp (disch := first | assumption | exact mnl_i | exact mnl_r | exact mnl_n | exact mnl_0 | omega) only [↓reduceIte, tolS, E62_28.1, E62_28.2.1, E62_28.2.2.1, E62_28.2.2.2.1, cShG]
          refine Eq.mpr (S64_o hc.1 h5 (w := 4) (by decide) (by decide) hi _ _) ?_
          simp (disch := first | assumption | exact mnl_i | exact mnl_r | exact mnl_n | exact mnl_0 | omega) only [↓reduceIte, tolS, tolN, E62_28.2.2.2.2.1, E62_28.2.2.2.2.2.1, E62_28.2.2.2.2.2.2.1, E62_28.2.2.2.2.2.2.2, E62_50]
          simp (disch := first | assumption | exact mnl_i | exact mnl_r | exact mnl_n | exact mnl_0 | omega) only [↓reduceIte, tolS, tolN, E122_0, E122_17, B122, dShG, M119_4o hm.1.1 h5 hi]
          exact JR_B hF hc hm
      · have hb : mRun (d + 90) 122 [.ref 0, .int 4, .int x, .int v] (mkH dSh I' V' L' A') (fun v'' h'' => JQ (some (.int (-2))) (mkH cSh I V L A) v'' h'') := by
          rcases i32_ix x many with ⟨j, hj, hj2, rfl⟩ | hi
          · simp (disch := first | assumption | exact mnl_i | exact mnl_r | exact mnl_n | exact mnl_0 | omega) only [↓reduceIte, tolS, tolN, E122_0, E122_9, E122_17, B122, dShG, M119_4i hm.1.1 h5 hj, n10, B120, E120_0, E120_45, M117_out (i := v) hv, show ¬ (4 : Int32) = 0 by decide]
            exact JR_B hF hc hm
          · simp (disch := first | assumption | exact mnl_i | exact mnl_r | exact mnl_n | exact mnl_0 | omega) only [↓reduceIte, tolS, tolN, E122_0, E122_17, B122, dShG, M119_4o hm.1.1 h5 hi]
            exact JR_B hF hc hm
        rcases hv with hv | ⟨y, hy, hy2, rfl⟩
        · simp (disch := first | assumption | exact mnl_i | exact mnl_r | exact mnl_n | exact mnl_0 | omega) only [↓reduceIte, tolS, E62_0, E62_4, E62_12, E62_25, B62, show nI 4 = 4 from rfl, show ¬ (4 : Int32) < 0 by decide, show (4 : Int32) < Int32.ofNat 6 by decide, palen_O, pial_O, (pixL (n := 6) (by omega)), show (4 : Nat) < 6 by decide, show (([999, 9, 9, 9, 23, 99] : List Int32).getD 4 0) = 23 from rfl, hv]
          exact hb
        · have hy3 : 23 < y := by omega
          simp (disch := first | assumption | exact mnl_i | exact mnl_r | exact mnl_n | exact mnl_0 | omega) only [↓reduceIte, tolS, E62_0, E62_4, E62_12, E62_16, E62_25, B62, show nI 4 = 4 from rfl, show ¬ (4 : Int32) < 0 by decide, show (4 : Int32) < Int32.ofNat 6 by decide, palen_O, pial_O, (pixL (n := 6) (by omega)), show (4 : Nat) < 6 by decide, show (([999, 9, 9, 9, 23, 99] : List Int32).getD 4 0) = 23 from rfl, q_neg, q_gt, hy3]
          exact hb
    | 5, _ =>
      have hcls : ∀ (y : Nat), y ≤ 99 → mFr (d + 89) 62 0 [some (.ref 0), some (.int 5), some (.int x), some (.int (nI y)), none] [] (mkH cSh I V L A) (fun v' h' => mRun (d + 90) 122 [.ref 0, .int 5, .int x, .int (nI y)] (mkH dSh I' V' L' A') (fun v'' h'' => JQ v' h' v'' h'')) = mFr (d + 89) 62 28 [some (.ref 0), some (.int 5), some (.int x), some (.int (nI y)), none] [] (mkH cSh I V L A) (fun v' h' => mRun (d + 90) 122 [.ref 0, .int 5, .int x, .int (nI y)] (mkH dSh I' V' L' A') (fun v'' h'' => JQ v' h' v'' h'')) := by
        intro y hy
        have hy2 : ¬ 99 < y := by omega
        simp (disch := first | assumption | exact mnl_i | exact mnl_r | exact mnl_n | exact mnl_0 | omega) only [↓reduceIte, tolS, E62_0, E62_4, E62_12, E62_16, show nI 5 = 5 from rfl, show ¬ (5 : Int32) < 0 by decide, show (5 : Int32) < Int32.ofNat 6 by decide, palen_O, pial_O, (pixL (n := 6) (by omega)), show (5 : Nat) < 6 by decide, show (([999, 9, 9, 9, 23, 99] : List Int32).getD 5 0) = 99 from rfl, q_neg, q_gt, hy2]
      rcases i32_ix v 100 with ⟨y, hy, hy2, rfl⟩ | hv
      · refine Eq.mpr (B62 _ _ _ _ _ _ _) ?_
        refine Eq.mpr (hcls y (by omega)) ?_
        rcases i32_ix x many with ⟨j, hj, hj2, rfl⟩ | hi
        · have hj5 : j < 5 := by omega
          have hlt : 6 + 1 * j < 900 := by omega
          have hrid := c6j hj5
          have ok := hF.1.2.1 j hj
          have hne : ¬ nI (R j 4) = -2 := nI_m2 (by unfold rOk at ok; omega)
          simp (disch := first | assumption | exact mnl_i | exact mnl_r | exact mnl_n | exact mnl_0 | omega) only [↓reduceIte, tolS, E62_28.1, E62_28.2.1, E62_28.2.2.1, E62_28.2.2.2.1, cShG]
          refine Eq.mpr (S64_5i hc.1 h5 hj _ _) ?_
          simp (disch := first | assumption | exact mnl_i | exact mnl_r | exact mnl_n | exact mnl_0 | omega) only [↓reduceIte, tolS, tolN, E62_28.2.2.2.2.1, E62_28.2.2.2.2.2.1, E62_28.2.2.2.2.2.2.1, E62_28.2.2.2.2.2.2.2, E62_43.1, E62_43.2.1, E62_43.2.2.1, E62_43.2.2.2.1, E62_43.2.2.2.2, hne, cShG]
          simp (disch := first | assumption | exact mnl_i | exact mnl_r | exact mnl_n | exact mnl_0 | omega) only [↓reduceIte, tolS, tolN, E66_0, E66_13, E66_28, E66_44, E66_103, E66_112, B66, cShG, S1_in hc.1.1 h5 hj, hlt, kRider, show ¬ (5 : Int32) = 0 by decide, show ¬ (5 : Int32) = 1 by decide, show ¬ (5 : Int32) = 2 by decide, show ¬ (5 : Int32) = 3 by decide, show ¬ (5 : Int32) = 4 by decide]
          simp (disch := first | assumption | exact mnl_i | exact mnl_r | exact mnl_n | exact mnl_0 | omega) only [↓reduceIte, tolS, tolN, E62_50]
          simp (disch := first | assumption | exact mnl_i | exact mnl_r | exact mnl_n | exact mnl_0 | omega) only [↓reduceIte, tolS, tolN, E122_0, E122_9, E122_20, E122_112, E122_119, B122, dShG, dShR, M119_5i hm.1.1 h5 hj, n10, B120, E120_0, E120_50, M114_in (y := 99) (n := 99) (j := y) rfl (by omega) (by omega), show ¬ (5 : Int32) = 0 by decide, show ¬ (5 : Int32) = 4 by decide, M121_5 hm.1 h5 hj, pix_nI, show ¬ (5 : Int32) = 0 by decide, show ¬ (5 : Int32) = 1 by decide, show ¬ (5 : Int32) = 2 by decide, show ¬ (5 : Int32) = 3 by decide, show ¬ (5 : Int32) = 4 by decide]
          exact JQ_fld hF hc hm (f := 4) hj (by omega) (by simp; omega)
        · simp (disch := first | assumption | exact mnl_i | exact mnl_r | exact mnl_n | exact mnl_0 | omega) only [↓reduceIte, tolS, E62_28.1, E62_28.2.1, E62_28.2.2.1, E62_28.2.2.2.1, cShG]
          refine Eq.mpr (S64_o hc.1 h5 (w := 5) (by decide) (by decide) hi _ _) ?_
          simp (disch := first | assumption | exact mnl_i | exact mnl_r | exact mnl_n | exact mnl_0 | omega) only [↓reduceIte, tolS, tolN, E62_28.2.2.2.2.1, E62_28.2.2.2.2.2.1, E62_28.2.2.2.2.2.2.1, E62_28.2.2.2.2.2.2.2, E62_50]
          simp (disch := first | assumption | exact mnl_i | exact mnl_r | exact mnl_n | exact mnl_0 | omega) only [↓reduceIte, tolS, tolN, E122_0, E122_17, B122, dShG, M119_5o hm.1.1 h5 hi]
          exact JR_B hF hc hm
      · have hb : mRun (d + 90) 122 [.ref 0, .int 5, .int x, .int v] (mkH dSh I' V' L' A') (fun v'' h'' => JQ (some (.int (-2))) (mkH cSh I V L A) v'' h'') := by
          rcases i32_ix x many with ⟨j, hj, hj2, rfl⟩ | hi
          · simp (disch := first | assumption | exact mnl_i | exact mnl_r | exact mnl_n | exact mnl_0 | omega) only [↓reduceIte, tolS, tolN, E122_0, E122_9, E122_17, B122, dShG, M119_5i hm.1.1 h5 hj, n10, B120, E120_0, E120_50, M114_out (y := 99) (n := 99) (x := v) rfl hv, show ¬ (5 : Int32) = 0 by decide, show ¬ (5 : Int32) = 4 by decide]
            exact JR_B hF hc hm
          · simp (disch := first | assumption | exact mnl_i | exact mnl_r | exact mnl_n | exact mnl_0 | omega) only [↓reduceIte, tolS, tolN, E122_0, E122_17, B122, dShG, M119_5o hm.1.1 h5 hi]
            exact JR_B hF hc hm
        rcases hv with hv | ⟨y, hy, hy2, rfl⟩
        · simp (disch := first | assumption | exact mnl_i | exact mnl_r | exact mnl_n | exact mnl_0 | omega) only [↓reduceIte, tolS, E62_0, E62_4, E62_12, E62_25, B62, show nI 5 = 5 from rfl, show ¬ (5 : Int32) < 0 by decide, show (5 : Int32) < Int32.ofNat 6 by decide, palen_O, pial_O, (pixL (n := 6) (by omega)), show (5 : Nat) < 6 by decide, show (([999, 9, 9, 9, 23, 99] : List Int32).getD 5 0) = 99 from rfl, hv]
          exact hb
        · have hy3 : 99 < y := by omega
          simp (disch := first | assumption | exact mnl_i | exact mnl_r | exact mnl_n | exact mnl_0 | omega) only [↓reduceIte, tolS, E62_0, E62_4, E62_12, E62_16, E62_25, B62, show nI 5 = 5 from rfl, show ¬ (5 : Int32) < 0 by decide, show (5 : Int32) < Int32.ofNat 6 by decide, palen_O, pial_O, (pixL (n := 6) (by omega)), show (5 : Nat) < 6 by decide, show (([999, 9, 9, 9, 23, 99] : List Int32).getD 5 0) = 99 from rfl, q_neg, q_gt, hy3]
          exact hb
  · have hw : (w < 0 ∨ (5 : Int32) < w) ∧ (¬ w = 0 ∧ ¬ w = 1) := by
      rcases ho with hi | ⟨q, hq, hq2, rfl⟩
      · refine ⟨Or.inl hi, ?_, ?_⟩ <;> (intro z; rw [z] at hi; revert hi; decide)
      · have nn : ∀ k, k < 6 → ¬ nI q = nI k := fun k hk z => by have := (nI_eq hq2 (by omega)).mp z; omega
        exact ⟨Or.inr ((nI_ltI (a := 5) (by omega) hq2).mpr (by omega)), nn 0 (by omega), nn 1 (by omega)⟩
    obtain ⟨w1, a0, a1⟩ := hw
    have hwn : ∀ d h P, mRun (d + 1) 114 [.int w, .int 2, .int 5] h P = P (some (.int 0)) h := by
      intro d h P
      rw [M114p]
      by_cases c : w < 2
      · rw [if_pos c]
      · rcases w1 with z | z
        · exfalso
          rw [i32_lt] at z c
          have e0 : (0 : Int32).toInt = 0 := by decide
          have e2 : (2 : Int32).toInt = 2 := by decide
          omega
        · rw [if_neg c, if_pos z]
    have hb : mRun (d + 90) 122 [.ref 0, .int w, .int x, .int v] (mkH dSh I' V' L' A') (fun v'' h'' => JQ (some (.int (-2))) (mkH cSh I V L A) v'' h'') := by
      simp (disch := first | assumption | exact mnl_i | exact mnl_r | exact mnl_n | exact mnl_0 | omega) only [↓reduceIte, tolS, tolN, E122_0, E122_17, B122, dShG, E119_0, E119_4, E119_19, E119_40, E119_41, B119, dShG, a0, a1, hwn]
      exact JR_B hF hc hm
    rcases ho with hi | ⟨q, hq, hq2, rfl⟩
    · simp (disch := first | assumption | exact mnl_i | exact mnl_r | exact mnl_n | exact mnl_0 | omega) only [↓reduceIte, tolS, E62_0, E62_25, B62, hi]
      exact hb
    · have h6 : ¬ q < 6 := by omega
      simp (disch := first | assumption | exact mnl_i | exact mnl_r | exact mnl_n | exact mnl_0 | omega) only [↓reduceIte, tolS, E62_0, E62_4, E62_25, B62, q_neg, palen_O, nI_d, q_ll, h6]
      exact hb
end J7
