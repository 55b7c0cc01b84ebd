/-! calls on both sides: force, count, rider, sheet -/
def sumN (f : Nat → Nat) : Nat → Nat
  | 0 => 0
  | n + 1 => sumN f n + f n
section J2
variable {I I' A A' : TI} {V V' : TV} {L : Nat → Int64} {nt many day rl : Nat} {R : Nat → Nat → Nat} {th : Nat → Nat} {W : Nat → Nat → List Int32} {e : TE}
theorem M114_in {y : Int32} {n j : Nat} (hy : y = nI n) (hj : j ≤ n) (hn : n < 2 ^ 31) (d : Nat) (h : MH) (P : MP) : mRun (d + 1) 114 [.int (nI j), .int 0, .int y] h P = P (some (.int 1)) h := by
  rw [M114p, hy, if_neg (nI_pos (by omega)), if_neg (fun z => by have := (nI_ltI (a := n) (b := j) (by omega) (by omega)).mp z; omega)]
theorem M114_out {y x : Int32} {n : Nat} (hy : y = nI n) (hx : x < 0 ∨ ∃ j, n + 1 ≤ j ∧ j < 2 ^ 31 ∧ x = nI j) (d : Nat) (h : MH) (P : MP) : mRun (d + 1) 114 [.int x, .int 0, .int y] h P = P (some (.int 0)) h := by
  rw [M114p, hy]
  rcases hx with hx | ⟨j, h1, h2, rfl⟩
  · rw [if_pos hx]
  · rw [if_neg (nI_pos (by omega)), if_pos ((nI_ltI (a := n) (b := j) (by omega) (by omega)).mpr (by omega))]
theorem S70_in {j : Nat} (ht : I 0 3 = nI nt) (hn : nt ≤ 6) (hj : j < nt) (d : Nat) (P : MP) : mRun (d + 1) 70 [.ref 0, .int (nI j)] (mkH cSh I V L A) P = P (some (.ref (23 + 4 * j))) (mkH cSh I V L A) := by
  have h2 : j < 6 := by omega
  simp (disch := first | assumption | exact mnl_i | exact mnl_r | exact mnl_n | exact mnl_0 | omega) only [↓reduceIte, E70_0, E70_4, E70_12, E70_21, E70_30, E70_31, B70, cShG, cShR, q_neg, ht, q_ll, hj, nI_d, h2, pix_nI]
theorem S70_out {i : Int32} (ht : I 0 3 = nI nt) (hn : nt ≤ 6) (hi : i < 0 ∨ ∃ j, nt ≤ j ∧ j < 2 ^ 31 ∧ i = nI j) (d : Nat) (P : MP) : mRun (d + 1) 70 [.ref 0, .int i] (mkH cSh I V L A) P = P (some .null) (mkH cSh I V L A) := by
  rcases hi with hi | ⟨j, hj, hj2, rfl⟩
  · simp (disch := first | assumption | exact mnl_i | exact mnl_r | exact mnl_n | exact mnl_0 | omega) only [↓reduceIte, E70_0, E70_4, E70_12, E70_21, E70_30, E70_31, B70, cShG, cShR, hi]
  · have h2 : ¬ j < nt := by omega
    simp (disch := first | assumption | exact mnl_i | exact mnl_r | exact mnl_n | exact mnl_0 | omega) only [↓reduceIte, E70_0, E70_4, E70_12, E70_21, E70_30, E70_31, B70, cShG, cShR, q_neg, ht, q_ll, h2]
theorem J69 {hC hM : MH} (h : REL hC hM) (d : Nat) (x : Int32) : JR (d + 90) 69 143 [.int x] hC hM := by
  obtain ⟨I, V, L, A, I', V', L', A', nt, W, many, R, th, day, rl, e, ec, em, g, f, c1, c2, c3, m1, m2, m3⟩ := h
  rw [ec, em]
  unfold JR
  have hrl : rl < 6 := by have := g.2.2.2.2; omega
  have hnt := g.2.2.2.2.2
  have hnt1 : 1 ≤ nt := by have := g.2.2.2.2.1; omega
  have hv := c1.2.2.2.2
  have ht1 := (c23 hrl).1
  have hnum := c2.2.2 rl hrl
  have hm12 := m2.1
  have hm9 := m1.2.2.2.2
  rcases i32_ix x nt with ⟨j, hj, hj2, rfl⟩ | ho
  · have hlt : 23 + 4 * j < 900 := by omega
    have hjn : ¬ nt - 1 < j := by omega
    have hj6 : j < 6 := by omega
    simp (disch := first | assumption | exact mnl_i | exact mnl_r | exact mnl_n | exact mnl_0 | omega) only [↓reduceIte, tolS, E69_0, E69_13, B69, cShG, cShP, S70_in c2.1 hnt hj, hlt, hv, kText, hnum]
    simp (disch := first | assumption | exact mnl_i | exact mnl_r | exact mnl_n | exact mnl_0 | omega) only [↓reduceIte, tolS, E143_0, E143_14, E143_17, B143, dShG, dShP, M114p, q_neg, hm12, q_sub, q_ll, hjn, n10, hm9]
    have x1 := CTE_G (I' := I) (V' := up2 V 59 2 (23 + 4 * j)) (A' := A) c2 c3 hnt f (fun b g' hb => rfl) (up2_a (by omega)) (fun b hb => rfl)
    have x2 := MTE_G (I' := up2 I' 0 9 (nI j)) (A' := A') m2 m3 (fun f' hf => up2_f (by omega)) (fun b hb => rfl)
    exact JR_end (rl := j) ⟨g.1, g.2.1, g.2.2.1, g.2.2.2.1, hj, hnt⟩ f ⟨c1.1, c1.2.1, c1.2.2.1, c1.2.2.2.1, up2_s⟩ x1.1 x1.2 ⟨by rw [up2_f (by decide)]; exact m1.1, m1.2.1, by rw [up2_f (by decide)]; exact m1.2.2.1, m1.2.2.2.1, up2_s⟩ x2.1 x2.2
  · simp (disch := first | assumption | exact mnl_i | exact mnl_r | exact mnl_n | exact mnl_0 | omega) only [↓reduceIte, tolS, E69_0, E69_10, B69, cShG, cShP, S70_out c2.1 hnt ho]
    have ho' : x < 0 ∨ ∃ j, (nt - 1) + 1 ≤ j ∧ j < 2 ^ 31 ∧ x = nI j := by
      rcases ho with z | ⟨j, z1, z2, z3⟩
      · exact Or.inl z
      · exact Or.inr ⟨j, by omega, z2, z3⟩
    simp (disch := first | assumption | exact mnl_i | exact mnl_r | exact mnl_n | exact mnl_0 | omega) only [↓reduceIte, tolS, E143_0, E143_14, B143, dShG, dShP, hm12, q_sub, M114_out (n := nt - 1) rfl ho']
    exact JR_end g f c1 c2 c3 m1 m2 m3
theorem S5 (c1 : CG I V A many R th day rl) (hm : many ≤ 5) (hk : ∀ j, j < many → rOk (R j)) (d : Nat) (P : MP) (hP : P (some (.int (nI (sumN (fun j => if R j 3 < 23 then 0 else 1) many)))) (mkH cSh I V L A)) : mRun (d + 2) 5 [.ref 4] (mkH cSh I V L A) P := by
  have h41 := c1.1
  simp (disch := first | assumption | exact mnl_i | exact mnl_r | exact mnl_n | exact mnl_0 | omega) only [↓reduceIte, tolS, E5_0, B5]
  refine up_loop many (fun k (_ : Unit) => mFr (d + 1) 5 4 [some (.ref 4), some (.int (nI (sumN (fun j => if R j 3 < 23 then 0 else 1) k))), some (.int (nI k))] [] (mkH cSh I V L A) P) (fun _ _ => True) (fun k _ hkm _ ih => ?_) (fun _ _ => ?_) () trivial
  · have ih := ih () trivial
    have k5 : k < 5 := by omega
    have hr3 := c1.2.1 k hkm 3 (by omega)
    have hb := (hk k hkm).2.2.2.1
    have hrid := c6j k5
    simp only [sumN] at ih
    by_cases c : R k 3 < 23
    · rw [if_pos c, Nat.add_zero] at ih
      simp (disch := first | assumption | exact mnl_i | exact mnl_r | exact mnl_n | exact mnl_0 | omega) only [↓reduceIte, tolS, E5_4, E5_12, E5_21, cShG, cShR, kRider, h41, q_ll, hkm, nI_d, k5, pix_nI, S10 hrid, hr3, q_lt, c]
      simp (disch := first | assumption | exact mnl_i | exact mnl_r | exact mnl_n | exact mnl_0 | omega) only [E5_36, q_add]
      exact ih
    · rw [if_neg c] at ih
      simp (disch := first | assumption | exact mnl_i | exact mnl_r | exact mnl_n | exact mnl_0 | omega) only [↓reduceIte, tolS, E5_4, E5_12, E5_21, cShG, cShR, kRider, h41, q_ll, hkm, nI_d, k5, pix_nI, S10 hrid, hr3, q_lt, c, n10]
      simp (disch := first | assumption | exact mnl_i | exact mnl_r | exact mnl_n | exact mnl_0 | omega) only [E5_33, E5_36, q_add]
      exact ih
  · have e : ¬ many < many := by omega
    simp (disch := first | assumption | exact mnl_i | exact mnl_r | exact mnl_n | exact mnl_0 | omega) only [↓reduceIte, tolS, E5_4, E5_42, cShG, h41, q_ll, e]
    exact hP
theorem M152 (c1 : MGm I A many R th day rl) (hm : many ≤ 5) (hk : ∀ j, j < many → rOk (R j)) (d : Nat) (P : MP) (hP : P (some (.int (nI (sumN (fun j => if R j 3 < 23 then 0 else 1) many)))) (mkH dSh I V L A)) : mRun (d + 1) 152 [.ref 0] (mkH dSh I V L A) P := by
  have h02 := c1.1
  simp (disch := first | assumption | exact mnl_i | exact mnl_r | exact mnl_n | exact mnl_0 | omega) only [↓reduceIte, tolS, E152_0, B152]
  refine up_loop many (fun k (_ : Unit) => mFr d 152 4 [some (.ref 0), some (.int (nI (sumN (fun j => if R j 3 < 23 then 0 else 1) k))), some (.int (nI k))] [] (mkH dSh I V L A) P) (fun _ _ => True) (fun k _ hkm _ ih => ?_) (fun _ _ => ?_) () trivial
  · have ih := ih () trivial
    have k5 : k < 5 := by omega
    have hr3 : A 5 k = nI (R k 3) := c1.2.1 k hkm 3 (by omega)
    have hb := (hk k hkm).2.2.2.1
    simp only [sumN] at ih
    by_cases c : R k 3 = 23
    · rw [if_neg (by omega)] at ih
      simp (disch := first | assumption | exact mnl_i | exact mnl_r | exact mnl_n | exact mnl_0 | omega) only [↓reduceIte, tolS, E152_4, E152_12, dShG, dShR, h02, q_ll, hkm, k5, pix_nI, hr3, q_eq, c]
      simp (disch := first | assumption | exact mnl_i | exact mnl_r | exact mnl_n | exact mnl_0 | omega) only [E152_23, E152_26, q_add]
      exact ih
    · rw [if_pos (by omega), Nat.add_zero] at ih
      simp (disch := first | assumption | exact mnl_i | exact mnl_r | exact mnl_n | exact mnl_0 | omega) only [↓reduceIte, tolS, E152_4, E152_12, dShG, dShR, h02, q_ll, hkm, k5, pix_nI, hr3, q_eq, c]
      simp (disch := first | assumption | exact mnl_i | exact mnl_r | exact mnl_n | exact mnl_0 | omega) only [E152_26, q_add]
      exact ih
  · have e : ¬ many < many := by omega
    simp (disch := first | assumption | exact mnl_i | exact mnl_r | exact mnl_n | exact mnl_0 | omega) only [↓reduceIte, tolS, E152_4, E152_32, dShG, h02, q_ll, e]
    exact hP
theorem S6 (c1 : CG I V A many R th day rl) (hm : many ≤ 5) (d : Nat) (P : MP) (hP : P (some (.int (nI (sumN (fun j => R j 2) many)))) (mkH cSh I V L A)) : mRun (d + 1) 6 [.ref 4] (mkH cSh I V L A) P := by
  have h41 := c1.1
  simp (disch := first | assumption | exact mnl_i | exact mnl_r | exact mnl_n | exact mnl_0 | omega) only [↓reduceIte, tolS, E6_0, B6]
  refine up_loop many (fun k (_ : Unit) => mFr d 6 4 [some (.ref 4), some (.int (nI (sumN (fun j => R j 2) k))), some (.int (nI k))] [] (mkH cSh I V L A) P) (fun _ _ => True) (fun k _ hkm _ ih => ?_) (fun _ _ => ?_) () trivial
  · have ih := ih () trivial
    have k5 : k < 5 := by omega
    have hr2 := c1.2.1 k hkm 2 (by omega)
    have hrid := c6j k5
    simp only [sumN] at ih
    simp (disch := first | assumption | exact mnl_i | exact mnl_r | exact mnl_n | exact mnl_0 | omega) only [↓reduceIte, tolS, E6_4, E6_12, cShG, cShR, kRider, h41, q_ll, hkm, nI_d, k5]
    simp (disch := first | assumption | exact mnl_i | exact mnl_r | exact mnl_n | exact mnl_0 | omega) only [E6_21, cShG, cShR, kRider, pix_nI, hr2, q_aa, q_add]
    exact ih
  · have e : ¬ many < many := by omega
    simp (disch := first | assumption | exact mnl_i | exact mnl_r | exact mnl_n | exact mnl_0 | omega) only [↓reduceIte, tolS, E6_4, E6_39, cShG, h41, q_ll, e]
    exact hP
theorem M169 (c1 : MGm I A many R th day rl) (hm : many ≤ 5) (d : Nat) (P : MP) (hP : P (some (.int (nI (sumN (fun j => R j 2) many)))) (mkH dSh I V L A)) : mRun (d + 1) 169 [.ref 0] (mkH dSh I V L A) P := by
  have h02 := c1.1
  simp (disch := first | assumption | exact mnl_i | exact mnl_r | exact mnl_n | exact mnl_0 | omega) only [↓reduceIte, tolS, E169_0, B169]
  refine up_loop many (fun k (_ : Unit) => mFr d 169 4 [some (.ref 0), some (.int (nI (sumN (fun j => R j 2) k))), some (.int (nI k))] [] (mkH dSh I V L A) P) (fun _ _ => True) (fun k _ hkm _ ih => ?_) (fun _ _ => ?_) () trivial
  · have ih := ih () trivial
    have k5 : k < 5 := by omega
    have hr2 : A 4 k = nI (R k 2) := c1.2.1 k hkm 2 (by omega)
    simp only [sumN] at ih
    simp (disch := first | assumption | exact mnl_i | exact mnl_r | exact mnl_n | exact mnl_0 | omega) only [↓reduceIte, tolS, E169_4, dShG, dShR, h02, q_ll, hkm]
    simp (disch := first | assumption | exact mnl_i | exact mnl_r | exact mnl_n | exact mnl_0 | omega) only [E169_12, dShG, dShR, pix_nI, hr2, q_aa, q_add]
    exact ih
  · have e : ¬ many < many := by omega
    simp (disch := first | assumption | exact mnl_i | exact mnl_r | exact mnl_n | exact mnl_0 | omega) only [↓reduceIte, tolS, E169_4, E169_27, dShG, h02, q_ll, e]
    exact hP
theorem J105 {hC hM : MH} (h : REL hC hM) (d : Nat) (x : Int32) : JR (d + 90) 105 186 [.int x] hC hM := by
  obtain ⟨I, V, L, A, I', V', L', A', nt, W, many, R, th, day, rl, e, ec, em, g, f, c1, c2, c3, m1, m2, m3⟩ := h
  rw [ec, em]
  unfold JR
  have hrl : rl < 6 := by have := g.2.2.2.2; omega
  have E := fun v => JR_end (v := v) (L := L) (L' := L') (V2 := V') g f c1 c2 c3 m1 m2 m3
  have k1 := c1.1
  have k2 := c2.1
  have k3 := c3.1.1
  have k4 := c1.2.2.2.2
  have k5 := c2.2.2 rl hrl
  have ht1 := (c23 hrl).1
  have q1 := m1.1
  have q2 := m2.1
  have q3 := m3.1.1
  have q4 := m1.2.2.2.2
  by_cases x0 : x = 0
  · simp (disch := first | assumption | exact mnl_i | exact mnl_r | exact mnl_n | exact mnl_0 | omega) only [↓reduceIte, tolS, E105_0, E105_40, B105, cShG, x0, k1]
    simp (disch := first | assumption | exact mnl_i | exact mnl_r | exact mnl_n | exact mnl_0 | omega) only [↓reduceIte, tolS, E186_0, E186_40, B186, dShG, q1]
    exact E _
  by_cases x1 : x = 1
  · simp (disch := first | assumption | exact mnl_i | exact mnl_r | exact mnl_n | exact mnl_0 | omega) only [↓reduceIte, tolS, E105_0, E105_48.1, E105_48.2.1, E105_48.2.2.1, B105, cShG, x1, n10]
    refine S5 c1 g.1 g.2.1 _ _ ?_
    simp (disch := first | assumption | exact mnl_i | exact mnl_r | exact mnl_n | exact mnl_0 | omega) only [↓reduceIte, tolS, E105_48.2.2.2]
    simp (disch := first | assumption | exact mnl_i | exact mnl_r | exact mnl_n | exact mnl_0 | omega) only [↓reduceIte, tolS, E186_0, E186_45.1, E186_45.2.1, B186, dShG, n10]
    refine M152 m1 g.1 g.2.1 _ _ ?_
    simp (disch := first | assumption | exact mnl_i | exact mnl_r | exact mnl_n | exact mnl_0 | omega) only [↓reduceIte, tolS, E186_45.2.2]
    exact E _
  by_cases x2 : x = 2
  · simp (disch := first | assumption | exact mnl_i | exact mnl_r | exact mnl_n | exact mnl_0 | omega) only [↓reduceIte, tolS, E105_0, E105_56.1, E105_56.2.1, E105_56.2.2.1, B105, cShG, x2, show ¬ (2 : Int32) = 0 by decide, show ¬ (2 : Int32) = 1 by decide]
    refine S6 c1 g.1 _ _ ?_
    simp (disch := first | assumption | exact mnl_i | exact mnl_r | exact mnl_n | exact mnl_0 | omega) only [↓reduceIte, tolS, E105_56.2.2.2]
    simp (disch := first | assumption | exact mnl_i | exact mnl_r | exact mnl_n | exact mnl_0 | omega) only [↓reduceIte, tolS, E186_0, E186_50.1, E186_50.2.1, B186, dShG, show ¬ (2 : Int32) = 0 by decide, show ¬ (2 : Int32) = 1 by decide]
    refine M169 m1 g.1 _ _ ?_
    simp (disch := first | assumption | exact mnl_i | exact mnl_r | exact mnl_n | exact mnl_0 | omega) only [↓reduceIte, tolS, E186_50.2.2]
    exact E _
  by_cases x3 : x = 3
  · simp (disch := first | assumption | exact mnl_i | exact mnl_r | exact mnl_n | exact mnl_0 | omega) only [↓reduceIte, tolS, E105_0, E105_64, B105, cShG, x3, show ¬ (3 : Int32) = 0 by decide, show ¬ (3 : Int32) = 1 by decide, show ¬ (3 : Int32) = 2 by decide, k2]
    simp (disch := first | assumption | exact mnl_i | exact mnl_r | exact mnl_n | exact mnl_0 | omega) only [↓reduceIte, tolS, E186_0, E186_55, B186, dShG, show ¬ (3 : Int32) = 0 by decide, show ¬ (3 : Int32) = 1 by decide, show ¬ (3 : Int32) = 2 by decide, q2]
    exact E _
  by_cases x4 : x = 4
  · simp (disch := first | assumption | exact mnl_i | exact mnl_r | exact mnl_n | exact mnl_0 | omega) only [↓reduceIte, tolS, E105_0, E105_69, B105, cShG, x4, show ¬ (4 : Int32) = 0 by decide, show ¬ (4 : Int32) = 1 by decide, show ¬ (4 : Int32) = 2 by decide, show ¬ (4 : Int32) = 3 by decide, k3]
    simp (disch := first | assumption | exact mnl_i | exact mnl_r | exact mnl_n | exact mnl_0 | omega) only [↓reduceIte, tolS, E186_0, E186_60, B186, dShG, show ¬ (4 : Int32) = 0 by decide, show ¬ (4 : Int32) = 1 by decide, show ¬ (4 : Int32) = 2 by decide, show ¬ (4 : Int32) = 3 by decide, q3]
    exact E _
  by_cases x5 : x = 5
  · simp (disch := first | assumption | exact mnl_i | exact mnl_r | exact mnl_n | exact mnl_0 | omega) only [↓reduceIte, tolS, E105_0, E105_77, B105, cShG, x5, show ¬ (5 : Int32) = 0 by decide, show ¬ (5 : Int32) = 1 by decide, show ¬ (5 : Int32) = 2 by decide, show ¬ (5 : Int32) = 3 by decide, show ¬ (5 : Int32) = 4 by decide, k4, kText, k5]
    simp (disch := first | assumption | exact mnl_i | exact mnl_r | exact mnl_n | exact mnl_0 | omega) only [↓reduceIte, tolS, E186_0, E186_65, B186, dShG, show ¬ (5 : Int32) = 0 by decide, show ¬ (5 : Int32) = 1 by decide, show ¬ (5 : Int32) = 2 by decide, show ¬ (5 : Int32) = 3 by decide, show ¬ (5 : Int32) = 4 by decide, q4]
    exact E _
  simp (disch := first | assumption | exact mnl_i | exact mnl_r | exact mnl_n | exact mnl_0 | omega) only [↓reduceIte, tolS, E105_0, E105_88, B105, x0, x1, x2, x3, x4, x5]
  simp (disch := first | assumption | exact mnl_i | exact mnl_r | exact mnl_n | exact mnl_0 | omega) only [↓reduceIte, tolS, E186_0, E186_70, B186, x0, x1, x2, x3, x4, x5]
  exact E _
theorem S65_in {j : Nat} (hj : j < 10) (d : Nat) (h : MH) (P : MP) : mRun (d + 1) 65 [.int (nI j)] h P = P (some (.int 1)) h := by
  have h2 : ¬ 9 < j := by omega
  simp (disch := first | assumption | exact mnl_i | exact mnl_r | exact mnl_n | exact mnl_0 | omega) only [↓reduceIte, E65_0, E65_4, E65_10, E65_14, E65_15, B65, q_neg, q_gt, h2]
theorem S65_out {i : Int32} (hi : i < 0 ∨ ∃ j, 10 ≤ j ∧ j < 2 ^ 31 ∧ i = nI j) (d : Nat) (h : MH) (P : MP) : mRun (d + 1) 65 [.int i] h P = P (some (.int 0)) h := by
  rcases hi with hi | ⟨j, hj, hj2, rfl⟩
  · simp (disch := first | assumption | exact mnl_i | exact mnl_r | exact mnl_n | exact mnl_0 | omega) only [↓reduceIte, E65_0, E65_4, E65_10, E65_14, E65_15, B65, hi]
  · have h2 : 9 < j := by omega
    simp (disch := first | assumption | exact mnl_i | exact mnl_r | exact mnl_n | exact mnl_0 | omega) only [↓reduceIte, E65_0, E65_4, E65_10, E65_14, E65_15, B65, q_neg, q_gt, h2]
def newR (k n p : Nat) : Nat → Nat := fun f => if f = 0 then k else if f = 1 then n else if f = 2 then p else if f = 4 then 99 else 0
theorem newR_ok {k n p : Nat} (h1 : k < 6) (h2 : n < 10) (h3 : p < 10) : rOk (newR k n p) := ⟨by show k ≤ 5; omega, by show n ≤ 9; omega, by show p ≤ 9; omega, by show 0 ≤ 23; omega, by show 99 ≤ 99; omega, by show 0 ≤ 999; omega⟩
end J2
