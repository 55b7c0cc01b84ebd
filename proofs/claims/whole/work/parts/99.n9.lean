/-! tells on both sides: J92 -/
section N9
variable {I I' A A' I1 A1 I2 A2 : TI} {V V' V1 : TV} {L L' : Nat → Int64} {nt many day rl rl' t : Nat} {R : Nat → Nat → Nat} {th th' : Nat → Nat} {W : Nat → Nat → List Int32} {w : Nat → List Int32} {r : Nat → Nat} {ce : Nat → Int32} {e : TE}
theorem S93_n {w : Int32} (h : w < 0 ∨ ∃ q, ((7 ≤ q ∧ q < 10) ∨ 34 ≤ q) ∧ q < 2 ^ 31 ∧ w = nI q) (d : Nat) (h' : MH) (P : MP) : mRun (d + 1) 93 [.int w] h' P = P (some (.int 0)) h' := by
  rcases h with h | ⟨q, h, hq, rfl⟩
  · have h10 : w < 10 := Int32.lt_trans h (by decide)
    simp (disch := first | assumption | exact mnl_i | exact mnl_r | exact mnl_n | exact mnl_0 | omega) only [↓reduceIte, tolS, E93_0, E93_4, E93_10, E93_16, E93_22, E93_26, E93_27, B93, h, h10]
  · have c : 6 < q := by omega
    rcases h with h | h
    · have c1 : q < 10 := h.2
      simp (disch := first | assumption | exact mnl_i | exact mnl_r | exact mnl_n | exact mnl_0 | omega) only [↓reduceIte, tolS, E93_0, E93_4, E93_10, E93_16, E93_22, E93_26, E93_27, B93, q_neg, q_gt, q_lt, c, c1]
    · have c1 : ¬ q < 10 := by omega
      have c2 : ¬ q < 34 := by omega
      simp (disch := first | assumption | exact mnl_i | exact mnl_r | exact mnl_n | exact mnl_0 | omega) only [↓reduceIte, tolS, E93_0, E93_4, E93_10, E93_16, E93_22, E93_26, E93_27, B93, q_neg, q_gt, q_lt, c, c1]
      rw [show (34 : Int32) = nI 34 by decide]
      simp (disch := first | assumption | exact mnl_i | exact mnl_r | exact mnl_n | exact mnl_0 | omega) only [↓reduceIte, q_ll, c2]
set_option maxHeartbeats 1000000 in
theorem J92 {hC hM : MH} (h : REL hC hM) (d : Nat) (x y w : Int32) : JR (d + 90) 92 179 [.int x, .int y, .int w] hC hM := by
  obtain ⟨I, V, L, A, I', V', L', A', nt, W, many, R, th, day, rl, e, ec, em, hF, hc, hm⟩ := REL_B h
  rw [ec, em]
  unfold JR
  have h5 := hF.1.1
  have bad : JQ (some (.int (-2))) (mkH cSh I V L A) (some (.int (-2))) (mkH dSh I' V' L' A') := JR_B hF hc hm
  rcases i32_ix y many with ⟨j, hj, hj2, rfl⟩ | hy
  · have hj5 : j < 5 := by omega
    have hlt : 6 + 1 * j < 900 := by omega
    have hrid := c6j hj5
    have hok := hF.1.2.1 j hj
    rcases i32_ix x 4 with ⟨s, hs, hs2, rfl⟩ | hx
    · have hlt2 : 47 + 2 * s < 900 := by omega
      obtain ⟨sh1, sh2⟩ := c47 hs
      obtain ⟨s1, s2, s3⟩ := hc.2.2.2.2 s hs
      obtain ⟨u1, u2, u3⟩ := hm.2.2.2.2 s hs
      obtain ⟨hso, hsz⟩ := hF.2.2.2 s hs
      generalize hv : e.2.2.1 s = so at s1 u1 hso
      generalize hz : e.2.2.2.1 s = n at s2 u2 hsz
      generalize hce : e.2.2.2.2 s = ce at s3 u3
      by_cases ask : ∃ q, (q ≤ 6 ∨ (10 ≤ q ∧ q < 34)) ∧ w = nI q
      · obtain ⟨q, hq, rfl⟩ := ask
        have hq34 : q < 34 := by omega
        have a93 := fun d h P => S93_y (q := q) hq d h P
        have head : ∀ P : MP, mFr (d + 89) 179 39 [some (.ref 0), some (.int (nI s)), some (.int (nI j)), some (.int (nI q))] [] (mkH dSh I' V' L' A') P → mRun (d + 90) 179 [.ref 0, .int (nI s), .int (nI j), .int (nI q)] (mkH dSh I' V' L' A') P := by
          intro P hP
          by_cases c : 6 < q
          · have c1 : ¬ q < 10 := by omega
            have c2 : ¬ 33 < q := by omega
            simp (disch := first | assumption | exact mnl_i | exact mnl_r | exact mnl_n | exact mnl_0 | omega) only [↓reduceIte, tolS, E179_0, E179_7, E179_15, E179_25, B179, dShG, M118_in hs, M116_in hm.1.1 h5 hj, n10, M114p, q_neg, q_gt, q_lt, c, c1, c2]
            exact hP
          · simp (disch := first | assumption | exact mnl_i | exact mnl_r | exact mnl_n | exact mnl_0 | omega) only [↓reduceIte, tolS, E179_0, E179_7, E179_15, B179, dShG, M118_in hs, M116_in hm.1.1 h5 hj, n10, M114p, q_neg, q_gt, c]
            exact hP
        simp (disch := first | assumption | exact mnl_i | exact mnl_r | exact mnl_n | exact mnl_0 | omega) only [↓reduceIte, tolS, E92_0, E92_22, E92_27, E92_37, B92, cShG, kSheet, S112_in hs, hlt2, S1_in hc.1.1 h5 hj, hlt, a93, n10, s1]
        by_cases cm : so = -1
        · simp (disch := first | assumption | exact mnl_i | exact mnl_r | exact mnl_n | exact mnl_0 | omega) only [↓reduceIte, tolS, E92_46, cm]
          refine head _ ?_
          simp (disch := first | assumption | exact mnl_i | exact mnl_r | exact mnl_n | exact mnl_0 | omega) only [↓reduceIte, tolS, E179_39, E179_48, dShG, dShR, pix_nI, u1, cm, show (-1 : Int32) < 0 by decide]
          exact JR_B hF hc hm
        have cn : ¬ so < 0 := by rw [so_neg hso]; exact cm
        simp (disch := first | assumption | exact mnl_i | exact mnl_r | exact mnl_n | exact mnl_0 | omega) only [↓reduceIte, tolS, E92_49, cShG, kSheet, cm, s2, q_gt]
        by_cases c30 : 30 < n
        · simp (disch := first | assumption | exact mnl_i | exact mnl_r | exact mnl_n | exact mnl_0 | omega) only [↓reduceIte, tolS, E92_59, c30]
          refine head _ ?_
          simp (disch := first | assumption | exact mnl_i | exact mnl_r | exact mnl_n | exact mnl_0 | omega) only [↓reduceIte, tolS, E179_39, E179_51, E179_62, dShG, dShR, pix_nI, u1, u2, cn, q_gt, c30]
          exact JR_B hF hc hm
        simp (disch := first | assumption | exact mnl_i | exact mnl_r | exact mnl_n | exact mnl_0 | omega) only [↓reduceIte, tolS, E92_62.1, E92_62.2.1, E92_62.2.2.1, E92_62.2.2.2.1, E92_62.2.2.2.2.1, cShG, c30]
        refine S9 c19 hrid (by omega) _ _ (fun I1 q1 q2 => ?_)
        have t1 : cS I V A I1 V A := ⟨fun b g hb => q1 b g (by unfold scI at hb; omega), fun _ _ _ => rfl, fun _ _ => rfl⟩
        simp (disch := first | assumption | exact mnl_i | exact mnl_r | exact mnl_n | exact mnl_0 | omega) only [↓reduceIte, tolN, tolS, E92_62.2.2.2.2.2.1, E92_62.2.2.2.2.2.2.1, E92_62.2.2.2.2.2.2.2.1, E92_62.2.2.2.2.2.2.2.2.1, E92_62.2.2.2.2.2.2.2.2.2.1, cShG]
        refine S20_dream hF hc t1 _ _ (fun I2 V2 A2 t2 D2 f2 => ?_)
        have st : ST I V A day I2 V2 A2 rl th (R j) := ⟨t2, fun f hf => by rw [f2 19 f (by omega), q2 f hf]; exact hc.1.2.1 j hj f hf, D2⟩
        simp (disch := first | assumption | exact mnl_i | exact mnl_r | exact mnl_n | exact mnl_0 | omega) only [↓reduceIte, tolN, tolS, E92_62.2.2.2.2.2.2.2.2.2.2.1, E92_62.2.2.2.2.2.2.2.2.2.2.2]
        have fin := fun (v : Option Value) (I1 : TI) (V1 : TV) (A1 I2 A2 : TI) g1 g2 => JR_T (v := v) (V1 := V1) (I1 := I1) (A1 := A1) (I2 := I2) (A2 := A2) (L := L) (L' := L') (V' := V') hF hc hm g1 g2
        have hd2 : ∀ P : MP, mFr (d + 89) 179 65 [some (.ref 0), some (.int (nI s)), some (.int (nI j)), some (.int (nI q))] [] (mkH dSh I' V' L' A') P → mRun (d + 90) 179 [.ref 0, .int (nI s), .int (nI j), .int (nI q)] (mkH dSh I' V' L' A') P := by
          intro P hP
          refine head _ ?_
          simp (disch := first | assumption | exact mnl_i | exact mnl_r | exact mnl_n | exact mnl_0 | omega) only [↓reduceIte, tolS, E179_39, E179_51, dShG, dShR, pix_nI, u1, u2, cn, q_gt, c30]
          exact hP
        have hW := WM_of hF.1 hm.1 hm.2.1 hj
        by_cases c0 : q = 0
        · rw [c0] at hd2 ⊢
          simp (disch := first | assumption | exact mnl_i | exact mnl_r | exact mnl_n | exact mnl_0 | omega) only [↓reduceIte, tolS, E92_86.1, E92_86.2.1, E92_86.2.2.1, E92_86.2.2.2.1, cShG, q_eq]
          refine ST94 hF hc st hF.1.2.2.2.2.1 hF.1.2.2.2.1 hok hs hsz s2 s3 _ _ (fun I4 A4 s4 => ?_)
          simp (disch := first | assumption | exact mnl_i | exact mnl_r | exact mnl_n | exact mnl_0 | omega) only [↓reduceIte, tolS, E92_86.2.2.2.2]
          refine hd2 _ ?_
          simp (disch := first | assumption | exact mnl_i | exact mnl_r | exact mnl_n | exact mnl_0 | omega) only [↓reduceIte, tolS, E179_65, E179_108.1, E179_108.2.1, E179_108.2.2.1, E179_108.2.2.2.1, dShG, q_eq]
          refine M171 hW hok hj5 hs hsz u2 u3 _ _ (fun I5 A5 p1 p2 => ?_)
          simp (disch := first | assumption | exact mnl_i | exact mnl_r | exact mnl_n | exact mnl_0 | omega) only [↓reduceIte, tolS, E179_108.2.2.2.2]
          exact fin _ _ _ _ _ _ s4.1 ⟨p1, fun b hb => p2 b (by omega) (by omega)⟩
        by_cases c1 : q = 1
        · rw [c1] at hd2 ⊢
          simp (disch := first | assumption | exact mnl_i | exact mnl_r | exact mnl_n | exact mnl_0 | omega) only [↓reduceIte, tolS, E92_93, E92_98, E92_111.1, E92_111.2.1, E92_111.2.2.1, E92_111.2.2.2.1, E92_111.2.2.2.2.1, cShG, q_eq, Nat.reduceEqDiff]
          refine S96_1 hF hc hj st hs hsz s2 s3 (fun k => fdN (airN (W rl) th day (uN (R j) 0 k)) ce n) (fun _ => rfl) _ _ (fun I4 V4 A4 s4 => ?_)
          simp (disch := first | assumption | exact mnl_i | exact mnl_r | exact mnl_n | exact mnl_0 | omega) only [↓reduceIte, tolS, E92_111.2.2.2.2.2]
          refine hd2 _ ?_
          simp (disch := first | assumption | exact mnl_i | exact mnl_r | exact mnl_n | exact mnl_0 | omega) only [↓reduceIte, tolS, E179_65, E179_115.1, E179_115.2.1, E179_115.2.2.1, E179_115.2.2.2.1, dShG, q_eq, Nat.reduceEqDiff]
          refine M173 hF hm hj hs hsz u2 u3 (fun k => fdN (airN (W rl) th day (uN (R j) 0 k)) ce n) (fun _ => rfl) _ _ (fun I5 A5 p1 => ?_)
          simp (disch := first | assumption | exact mnl_i | exact mnl_r | exact mnl_n | exact mnl_0 | omega) only [↓reduceIte, tolS, E179_115.2.2.2.2]
          exact fin _ _ _ _ _ _ s4 p1
        by_cases c2 : q = 2
        · rw [c2] at hd2 ⊢
          simp (disch := first | assumption | exact mnl_i | exact mnl_r | exact mnl_n | exact mnl_0 | omega) only [↓reduceIte, tolS, E92_93, E92_98, E92_111.1, E92_111.2.1, E92_111.2.2.1, E92_111.2.2.2.1, E92_111.2.2.2.2.1, cShG, q_eq, Nat.reduceEqDiff]
          refine S96_2 hF hc hj st hs hsz s2 s3 (fun k => fdN (airN (W rl) th day (uN (R j) 1 k)) ce n) (fun _ => rfl) _ _ (fun I4 V4 A4 s4 => ?_)
          simp (disch := first | assumption | exact mnl_i | exact mnl_r | exact mnl_n | exact mnl_0 | omega) only [↓reduceIte, tolS, E92_111.2.2.2.2.2]
          refine hd2 _ ?_
          simp (disch := first | assumption | exact mnl_i | exact mnl_r | exact mnl_n | exact mnl_0 | omega) only [↓reduceIte, tolS, E179_65, E179_122.1, E179_122.2.1, E179_122.2.2.1, E179_122.2.2.2.1, dShG, q_eq, Nat.reduceEqDiff]
          refine M174 hF hm hj hs hsz u2 u3 (fun k => fdN (airN (W rl) th day (uN (R j) 1 k)) ce n) (fun _ => rfl) _ _ (fun I5 A5 p1 => ?_)
          simp (disch := first | assumption | exact mnl_i | exact mnl_r | exact mnl_n | exact mnl_0 | omega) only [↓reduceIte, tolS, E179_122.2.2.2.2]
          exact fin _ _ _ _ _ _ s4 p1
        by_cases c3 : q = 3
        · rw [c3] at hd2 ⊢
          simp (disch := first | assumption | exact mnl_i | exact mnl_r | exact mnl_n | exact mnl_0 | omega) only [↓reduceIte, tolS, E92_93, E92_98, E92_111.1, E92_111.2.1, E92_111.2.2.1, E92_111.2.2.2.1, E92_111.2.2.2.2.1, cShG, q_eq, Nat.reduceEqDiff]
          refine S96_3 hF hc hj st hs hsz s2 s3 (fun k => fdN (airN (W rl) th day (uN (R j) 2 k)) ce n) (fun _ => rfl) _ _ (fun I4 V4 A4 s4 => ?_)
          simp (disch := first | assumption | exact mnl_i | exact mnl_r | exact mnl_n | exact mnl_0 | omega) only [↓reduceIte, tolS, E92_111.2.2.2.2.2]
          refine hd2 _ ?_
          simp (disch := first | assumption | exact mnl_i | exact mnl_r | exact mnl_n | exact mnl_0 | omega) only [↓reduceIte, tolS, E179_65, E179_129.1, E179_129.2.1, E179_129.2.2.1, E179_129.2.2.2.1, dShG, q_eq, Nat.reduceEqDiff]
          refine M175 hF hm hj hs hsz u2 u3 (fun k => fdN (airN (W rl) th day (uN (R j) 2 k)) ce n) (fun _ => rfl) _ _ (fun I5 A5 p1 => ?_)
          simp (disch := first | assumption | exact mnl_i | exact mnl_r | exact mnl_n | exact mnl_0 | omega) only [↓reduceIte, tolS, E179_129.2.2.2.2]
          exact fin _ _ _ _ _ _ s4 p1
        by_cases c6 : q = 6
        · rw [c6] at hd2 ⊢
          simp (disch := first | assumption | exact mnl_i | exact mnl_r | exact mnl_n | exact mnl_0 | omega) only [↓reduceIte, tolS, E92_93, E92_98, E92_111.1, E92_111.2.1, E92_111.2.2.1, E92_111.2.2.2.1, E92_111.2.2.2.2.1, cShG, q_eq, Nat.reduceEqDiff]
          refine S96_6 hF hc hj st hs hsz s2 s3 (fun k => fdN (airN (W k) th day (R j)) ce n) (fun _ => rfl) _ _ (fun I4 V4 A4 s4 => ?_)
          simp (disch := first | assumption | exact mnl_i | exact mnl_r | exact mnl_n | exact mnl_0 | omega) only [↓reduceIte, tolS, E92_111.2.2.2.2.2]
          refine hd2 _ ?_
          simp (disch := first | assumption | exact mnl_i | exact mnl_r | exact mnl_n | exact mnl_0 | omega) only [↓reduceIte, tolS, E179_65, E179_152.1, E179_152.2.1, E179_152.2.2.1, E179_152.2.2.2.1, dShG, q_eq, Nat.reduceEqDiff]
          refine M177 hF hm hj hs hsz u2 u3 (fun k => fdN (airN (W k) th day (R j)) ce n) (fun _ => rfl) _ _ (fun I5 A5 p1 => ?_)
          simp (disch := first | assumption | exact mnl_i | exact mnl_r | exact mnl_n | exact mnl_0 | omega) only [↓reduceIte, tolS, E179_152.2.2.2.2]
          exact fin _ _ _ _ _ _ s4 p1
        by_cases c4 : q = 4
        · rw [c4] at hd2 ⊢
          simp (disch := first | assumption | exact mnl_i | exact mnl_r | exact mnl_n | exact mnl_0 | omega) only [↓reduceIte, tolS, E92_93, E92_103.1, E92_103.2.1, E92_103.2.2.1, E92_103.2.2.2.1, E92_103.2.2.2.2.1, cShG, q_eq, Nat.reduceEqDiff]
          refine S95_a hF hc hj st (by omega) hs hsz s2 s3 (fun k => fdN (airN (W rl) th day (uN (R j) 4 k)) ce n) (fun _ => rfl) _ _ (fun I4 V4 A4 s4 => ?_)
          rw [if_pos rfl]
          simp (disch := first | assumption | exact mnl_i | exact mnl_r | exact mnl_n | exact mnl_0 | omega) only [↓reduceIte, tolS, E92_103.2.2.2.2.2]
          refine hd2 _ ?_
          simp (disch := first | assumption | exact mnl_i | exact mnl_r | exact mnl_n | exact mnl_0 | omega) only [↓reduceIte, tolS, E179_65, E179_136.1, E179_136.2.1, E179_136.2.2.1, E179_136.2.2.2.1, E179_136.2.2.2.2.1, dShG, q_eq, Nat.reduceEqDiff]
          rw [show (0 : Int32) = nI 0 by decide]
          refine M176 (q := 0) hF hm hj hs hsz u2 u3 (fun k => fdN (airN (W rl) th day (uN (R j) 4 k)) ce n) (fun _ => rfl) (by omega) _ _ (fun I5 A5 p1 => ?_)
          rw [if_pos rfl]
          simp (disch := first | assumption | exact mnl_i | exact mnl_r | exact mnl_n | exact mnl_0 | omega) only [↓reduceIte, tolS, E179_136.2.2.2.2.2]
          exact fin _ _ _ _ _ _ s4 p1
        by_cases c5 : q = 5
        · rw [c5] at hd2 ⊢
          simp (disch := first | assumption | exact mnl_i | exact mnl_r | exact mnl_n | exact mnl_0 | omega) only [↓reduceIte, tolS, E92_93, E92_98, E92_103.1, E92_103.2.1, E92_103.2.2.1, E92_103.2.2.2.1, E92_103.2.2.2.2.1, cShG, q_eq, Nat.reduceEqDiff]
          refine S95_a hF hc hj st (by omega) hs hsz s2 s3 (fun k => fdN (airN (W rl) th day (uN (R j) 4 k)) ce n) (fun _ => rfl) _ _ (fun I4 V4 A4 s4 => ?_)
          rw [if_neg (by omega)]
          simp (disch := first | assumption | exact mnl_i | exact mnl_r | exact mnl_n | exact mnl_0 | omega) only [↓reduceIte, tolS, E92_103.2.2.2.2.2]
          refine hd2 _ ?_
          simp (disch := first | assumption | exact mnl_i | exact mnl_r | exact mnl_n | exact mnl_0 | omega) only [↓reduceIte, tolS, E179_65, E179_144.1, E179_144.2.1, E179_144.2.2.1, E179_144.2.2.2.1, E179_144.2.2.2.2.1, dShG, q_eq, Nat.reduceEqDiff]
          rw [show (1 : Int32) = nI 1 by decide]
          refine M176 (q := 1) hF hm hj hs hsz u2 u3 (fun k => fdN (airN (W rl) th day (uN (R j) 4 k)) ce n) (fun _ => rfl) (by omega) _ _ (fun I5 A5 p1 => ?_)
          rw [if_neg (by omega)]
          simp (disch := first | assumption | exact mnl_i | exact mnl_r | exact mnl_n | exact mnl_0 | omega) only [↓reduceIte, tolS, E179_144.2.2.2.2.2]
          exact fin _ _ _ _ _ _ s4 p1
        obtain ⟨p, hp, rfl⟩ : ∃ p, p < 24 ∧ q = p + 10 := ⟨q - 10, by omega, by omega⟩
        have e10 : nI (p + 10) - 10 = nI p := by rw [n10i, pk_sub (by omega), Nat.add_sub_cancel]
        simp (disch := first | assumption | exact mnl_i | exact mnl_r | exact mnl_n | exact mnl_0 | omega) only [↓reduceIte, tolS, E92_93, E92_98, E92_111.1, E92_111.2.1, E92_111.2.2.1, E92_111.2.2.2.1, E92_111.2.2.2.2.1, cShG, q_eq, c0, c4, c5]
        refine S96_t hF hc hj st hp hs hsz s2 s3 (fun k => fdN (airN (W rl) (upT th p k) day (R j)) ce n) (fun _ => rfl) _ _ (fun I4 V4 A4 s4 => ?_)
        simp (disch := first | assumption | exact mnl_i | exact mnl_r | exact mnl_n | exact mnl_0 | omega) only [↓reduceIte, tolS, E92_111.2.2.2.2.2]
        refine hd2 _ ?_
        simp (disch := first | assumption | exact mnl_i | exact mnl_r | exact mnl_n | exact mnl_0 | omega) only [↓reduceIte, tolS, E179_65, E179_159.1, E179_159.2.1, E179_159.2.2.1, E179_159.2.2.2.1, E179_159.2.2.2.2.1, E179_159.2.2.2.2.2.1, E179_159.2.2.2.2.2.2.1, dShG, q_eq, c0, c1, c2, c3, c4, c5, c6, e10]
        refine M178 hF hm hj hs hsz u2 u3 hp (fun k => fdN (airN (W rl) (upT th p k) day (R j)) ce n) (fun _ => rfl) _ _ (fun I5 A5 p1 => ?_)
        simp (disch := first | assumption | exact mnl_i | exact mnl_r | exact mnl_n | exact mnl_0 | omega) only [↓reduceIte, tolS, E179_159.2.2.2.2.2.2.2]
        exact fin _ _ _ _ _ _ s4 p1
      · have hw : w < 0 ∨ ∃ q, ((7 ≤ q ∧ q < 10) ∨ 34 ≤ q) ∧ q < 2 ^ 31 ∧ w = nI q := by
          rcases i32_ix w 34 with ⟨q, h1, h2, rfl⟩ | h1 | ⟨q, h1, h2, h3⟩
          · right
            refine ⟨q, Or.inl ?_, h2, rfl⟩
            by_cases c : 7 ≤ q ∧ q < 10
            · exact c
            · exact absurd ⟨q, by omega, rfl⟩ ask
          · exact Or.inl h1
          · exact Or.inr ⟨q, Or.inr h1, h2, h3⟩
        simp (disch := first | assumption | exact mnl_i | exact mnl_r | exact mnl_n | exact mnl_0 | omega) only [↓reduceIte, tolS, E92_0, E92_22, E92_27, E92_34, B92, cShG, S112_in hs, hlt2, S1_in hc.1.1 h5 hj, hlt, S93_n hw]
        rcases hw with hw | ⟨q, hq, hq2, rfl⟩
        · have h10 : w < 10 := Int32.lt_trans hw (by decide)
          simp (disch := first | assumption | exact mnl_i | exact mnl_r | exact mnl_n | exact mnl_0 | omega) only [↓reduceIte, tolS, E179_0, E179_7, E179_15, E179_25, E179_36, B179, dShG, M118_in hs, M116_in hm.1.1 h5 hj, n10, M114p, hw, h10]
          exact bad
        · have c : 6 < q := by omega
          rcases hq with hq | hq
          · have c1 : q < 10 := hq.2
            simp (disch := first | assumption | exact mnl_i | exact mnl_r | exact mnl_n | exact mnl_0 | omega) only [↓reduceIte, tolS, E179_0, E179_7, E179_15, E179_25, E179_36, B179, dShG, M118_in hs, M116_in hm.1.1 h5 hj, n10, M114p, q_neg, q_gt, q_lt, c, c1]
            exact bad
          · have c1 : ¬ q < 10 := by omega
            have c2 : 33 < q := by omega
            simp (disch := first | assumption | exact mnl_i | exact mnl_r | exact mnl_n | exact mnl_0 | omega) only [↓reduceIte, tolS, E179_0, E179_7, E179_15, E179_25, E179_36, B179, dShG, M118_in hs, M116_in hm.1.1 h5 hj, n10, M114p, q_neg, q_gt, q_lt, c, c1, c2]
            exact bad
    · simp (disch := first | assumption | exact mnl_i | exact mnl_r | exact mnl_n | exact mnl_0 | omega) only [↓reduceIte, tolS, E92_0, E92_34, B92, cShG, S112_out hx, S1_in hc.1.1 h5 hj, hlt]
      simp (disch := first | assumption | exact mnl_i | exact mnl_r | exact mnl_n | exact mnl_0 | omega) only [↓reduceIte, tolS, E179_0, E179_36, B179, dShG, M118_out hx]
      exact bad
  · rcases i32_ix x 4 with ⟨s, hs, hs2, rfl⟩ | hx
    · have hlt2 : 47 + 2 * s < 900 := by omega
      simp (disch := first | assumption | exact mnl_i | exact mnl_r | exact mnl_n | exact mnl_0 | omega) only [↓reduceIte, tolS, E92_0, E92_22, E92_34, B92, cShG, S112_in hs, hlt2, S1_out hc.1.1 h5 hy]
      simp (disch := first | assumption | exact mnl_i | exact mnl_r | exact mnl_n | exact mnl_0 | omega) only [↓reduceIte, tolS, E179_0, E179_7, E179_36, B179, dShG, M118_in hs, M116_out hm.1.1 h5 hy, n10]
      exact bad
    · simp (disch := first | assumption | exact mnl_i | exact mnl_r | exact mnl_n | exact mnl_0 | omega) only [↓reduceIte, tolS, E92_0, E92_34, B92, cShG, S112_out hx, S1_out hc.1.1 h5 hy]
      simp (disch := first | assumption | exact mnl_i | exact mnl_r | exact mnl_n | exact mnl_0 | omega) only [↓reduceIte, tolS, E179_0, E179_36, B179, dShG, M118_out hx]
      exact bad
end N9
