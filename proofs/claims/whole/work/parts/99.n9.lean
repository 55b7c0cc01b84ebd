/-! tells on both sides: J92 -/
section N9
variable {I I' A A' I1 A1 I2 A2 : TI} {V V' V1 : TV} {L L' : Nat → Int64} {nt many day rl rl' t : Nat} {R : Nat → Nat → Nat} {th th' : Nat → Nat} {W : Nat → Nat → List Int32} {w : Nat → List Int32} {r : Nat → Nat} {ce : Nat → Int32} {e : TE}
theorem S93_n {w : Int32} (h : w < 0 ∨ ∃ q, ((7 ≤ q ∧ q < 10) ∨ 34 ≤ q) ∧ q < 2 ^ 31 ∧ w = nI q) (d : Nat) (h' : MH) (P : MP) : mRun (d + 1) 93 [.int w] h' P = P (some (.int 0)) h' := by
  rcases h with h | ⟨q, h, hq, rfl⟩
  · have h10 : w < 10 := Int32.lt_trans h (by decide)
    simp (disch := first | assumption | exact mnl_i | exact mnl_r | exact mnl_n | exact mnl_0 | omega) only [↓reduceIte, tolS, E93_0, E93_4, E93_10, E93_16, E93_22, E93_26, E93_27, B93, h, h10]
  · have c : 6 < q := by omega
    rcases h with h | h
    · have c1 : q < 10 := h.2
      simp (disch := first | assumption | exact mnl_i | exact mnl_r | exact mnl_n | exact mnl_0 | omega) only [↓reduceIte, tolS, E93_0, E93_4, E93_10, E93_16, E93_22, E93_26, E93_27, B93, q_neg, q_gt, q_lt, c, c1]
    · have c1 : ¬ q < 10 := by omega
      have c2 : ¬ q < 34 := by omega
      simp (disch := first | assumption | exact mnl_i | exact mnl_r | exact mnl_n | exact mnl_0 | omega) only [↓reduceIte, tolS, E93_0, E93_4, E93_10, E93_16, E93_22, E93_26, E93_27, B93, q_neg, q_gt, q_lt, c, c1]
      rw [show (34 : Int32) = nI 34 by decide]
      simp (disch := first | assumption | exact mnl_i | exact mnl_r | exact mnl_n | exact mnl_0 | omega) only [↓reduceIte, q_ll, c2]
theorem J92 {hC hM : MH} (h : REL hC hM) (d : Nat) (x y w : Int32) : JR (d + 90) 92 179 [.int x, .int y, .int w] hC hM := by
  obtain ⟨I, V, L, A, I', V', L', A', nt, W, many, R, th, day, rl, e, ec, em, hF, hc, hm⟩ := REL_B h
  rw [ec, em]
  unfold JR
  have h5 := hF.1.1
  have bad : JQ (some (.int (-2))) (mkH cSh I V L A) (some (.int (-2))) (mkH dSh I' V' L' A') := JR_B hF hc hm
  rcases i32_ix y many with ⟨j, hj, hj2, rfl⟩ | hy
  · have hj5 : j < 5 := by omega
    have hlt : 6 + 1 * j < 900 := by omega
    have hrid := c6j hj5
    have hok := hF.1.2.1 j hj
    rcases i32_ix x 4 with ⟨s, hs, hs2, rfl⟩ | hx
    · have hlt2 : 47 + 2 * s < 900 := by omega
      obtain ⟨sh1, sh2⟩ := c47 hs
      obtain ⟨s1, s2, s3⟩ := hc.2.2.2.2 s hs
      obtain ⟨u1, u2, u3⟩ := hm.2.2.2.2 s hs
      obtain ⟨hso, hsz⟩ := hF.2.2.2 s hs
      generalize hv : e.2.2.1 s = so at s1 u1 hso
      generalize hz : e.2.2.2.1 s = n at s2 u2 hsz
      generalize hce : e.2.2.2.2 s = ce at s3 u3
      by_cases ask : ∃ q, (q ≤ 6 ∨ (10 ≤ q ∧ q < 34)) ∧ w = nI q
      · obtain ⟨q, hq, rfl⟩ := ask
        have hq34 : q < 34 := by omega
        have a93 := fun d h P => S93_y (q := q) hq d h P
        have head : ∀ P : MP, mFr (d + 89) 179 39 [some (.ref 0), some (.int (nI s)), some (.int (nI j)), some (.int (nI q))] [] (mkH dSh I' V' L' A') P → mRun (d + 90) 179 [.ref 0, .int (nI s), .int (nI j), .int (nI q)] (mkH dSh I' V' L' A') P := by
          intro P hP
          by_cases c : 6 < q
          · have c1 : ¬ q < 10 := by omega
            have c2 : ¬ 33 < q := by omega
            simp (disch := first | assumption | exact mnl_i | exact mnl_r | exact mnl_n | exact mnl_0 | omega) only [↓reduceIte, tolS, E179_0, E179_7, E179_15, E179_25, B179, dShG, M118_in hs, M116_in hm.1.1 h5 hj, n10, M114p, q_neg, q_gt, q_lt, c, c1, c2]
            exact hP
          · simp (disch := first | assumption | exact mnl_i | exact mnl_r | exact mnl_n | exact mnl_0 | omega) only [↓reduceIte, tolS, E179_0, E179_7, E179_15, B179, dShG, M118_in hs, M116_in hm.1.1 h5 hj, n10, M114p, q_neg, q_gt, c]
            exact hP
        simp (disch := first | assumption | exact mnl_i | exact mnl_r | exact mnl_n | exact mnl_0 | omega) only [↓reduceIte, tolS, E92_0, E92_22, E92_27, E92_37, B92, cShG, kSheet, S112_in hs, hlt2, S1_in hc.1.1 h5 hj, hlt, a93, n10, s1]
        sorry
      · have hw : w < 0 ∨ ∃ q, ((7 ≤ q ∧ q < 10) ∨ 34 ≤ q) ∧ q < 2 ^ 31 ∧ w = nI q := by
          rcases i32_ix w 34 with ⟨q, h1, h2, rfl⟩ | h1 | ⟨q, h1, h2, h3⟩
          · right
            refine ⟨q, Or.inl ?_, h2, rfl⟩
            by_cases c : 7 ≤ q ∧ q < 10
            · exact c
            · exact absurd ⟨q, by omega, rfl⟩ ask
          · exact Or.inl h1
          · exact Or.inr ⟨q, Or.inr h1, h2, h3⟩
        simp (disch := first | assumption | exact mnl_i | exact mnl_r | exact mnl_n | exact mnl_0 | omega) only [↓reduceIte, tolS, E92_0, E92_22, E92_27, E92_34, B92, cShG, S112_in hs, hlt2, S1_in hc.1.1 h5 hj, hlt, S93_n hw]
        rcases hw with hw | ⟨q, hq, hq2, rfl⟩
        · have h10 : w < 10 := Int32.lt_trans hw (by decide)
          simp (disch := first | assumption | exact mnl_i | exact mnl_r | exact mnl_n | exact mnl_0 | omega) only [↓reduceIte, tolS, E179_0, E179_7, E179_15, E179_25, E179_36, B179, dShG, M118_in hs, M116_in hm.1.1 h5 hj, n10, M114p, hw, h10]
          exact bad
        · have c : 6 < q := by omega
          rcases hq with hq | hq
          · have c1 : q < 10 := hq.2
            simp (disch := first | assumption | exact mnl_i | exact mnl_r | exact mnl_n | exact mnl_0 | omega) only [↓reduceIte, tolS, E179_0, E179_7, E179_15, E179_25, E179_36, B179, dShG, M118_in hs, M116_in hm.1.1 h5 hj, n10, M114p, q_neg, q_gt, q_lt, c, c1]
            exact bad
          · have c1 : ¬ q < 10 := by omega
            have c2 : 33 < q := by omega
            simp (disch := first | assumption | exact mnl_i | exact mnl_r | exact mnl_n | exact mnl_0 | omega) only [↓reduceIte, tolS, E179_0, E179_7, E179_15, E179_25, E179_36, B179, dShG, M118_in hs, M116_in hm.1.1 h5 hj, n10, M114p, q_neg, q_gt, q_lt, c, c1, c2]
            exact bad
    · simp (disch := first | assumption | exact mnl_i | exact mnl_r | exact mnl_n | exact mnl_0 | omega) only [↓reduceIte, tolS, E92_0, E92_34, B92, cShG, S112_out hx, S1_in hc.1.1 h5 hj, hlt]
      simp (disch := first | assumption | exact mnl_i | exact mnl_r | exact mnl_n | exact mnl_0 | omega) only [↓reduceIte, tolS, E179_0, E179_36, B179, dShG, M118_out hx]
      exact bad
  · rcases i32_ix x 4 with ⟨s, hs, hs2, rfl⟩ | hx
    · have hlt2 : 47 + 2 * s < 900 := by omega
      simp (disch := first | assumption | exact mnl_i | exact mnl_r | exact mnl_n | exact mnl_0 | omega) only [↓reduceIte, tolS, E92_0, E92_22, E92_34, B92, cShG, S112_in hs, hlt2, S1_out hc.1.1 h5 hy]
      simp (disch := first | assumption | exact mnl_i | exact mnl_r | exact mnl_n | exact mnl_0 | omega) only [↓reduceIte, tolS, E179_0, E179_7, E179_36, B179, dShG, M118_in hs, M116_out hm.1.1 h5 hy, n10]
      exact bad
    · simp (disch := first | assumption | exact mnl_i | exact mnl_r | exact mnl_n | exact mnl_0 | omega) only [↓reduceIte, tolS, E92_0, E92_34, B92, cShG, S112_out hx, S1_out hc.1.1 h5 hy]
      simp (disch := first | assumption | exact mnl_i | exact mnl_r | exact mnl_n | exact mnl_0 | omega) only [↓reduceIte, tolS, E179_0, E179_36, B179, dShG, M118_out hx]
      exact bad
end N9
