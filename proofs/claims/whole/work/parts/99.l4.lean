/-! all on both sides -/
section L4
variable {I I' A A' I1 A1 : TI} {V V' V1 : TV} {L L' : Nat → Int64} {nt many day rl : Nat} {R : Nat → Nat → Nat} {th th' : Nat → Nat} {W : Nat → Nat → List Int32} {e : TE}
theorem S86 (hF : FB nt many R th day rl e) (hc : CB I V A nt W many R th day rl e) (s : cS I V A I1 V1 A1) (d : Nat) (P : MP) (hP : ∀ I2 A2, cS I V A I2 V1 A2 → (∀ p, p < 24 → A2 21 p = nI (FN (fun i p => fla (W rl) th day (R i) p) many p)) → P (some (.int (mxN (FN (fun i p => fla (W rl) th day (R i) p) many) 24).2)) (mkH cSh I2 V1 L A2)) : mRun (d + 7) 86 [.ref 0] (mkH cSh I1 V1 L A1) P := by
  have h5 := hF.1.1
  generalize hG : (fun i p => fla (W rl) th day (R i) p) = G at hP
  have hG1 : ∀ i p, fla (W rl) th day (R i) p = G i p := fun i p => by rw [← hG]
  simp (disch := first | assumption | exact mnl_i | exact mnl_r | exact mnl_n | exact mnl_0 | omega) only [↓reduceIte, tolS, E86_0, B86]
  refine up_loop 24 (fun k (s' : TI) => mFr (d + 6) 86 2 [some (.ref 0), some (.int (nI k)), none, none] [] (mkH cSh I1 V1 L s') P) (fun k s' => cS I V A I1 V1 s' ∧ ∀ p, p < k → s' 21 p = nI 0) (fun k A3 hk hi ih => ?_) (fun A3 hi => ?_) A1 ⟨s, fun p hp => absurd hp (by omega)⟩
  · have s4 : cS I V A I1 V1 (upA A3 21 (upd (A3 21) k 0)) := cS_trans hi.1 ⟨fun _ _ _ => rfl, fun _ _ _ => rfl, fun b hb => upA_n (by unfold scA at hb; omega)⟩
    have ih' := ih (upA A3 21 (upd (A3 21) k 0)) ⟨s4, fun p hp => by
      rw [upA_s]
      by_cases c : p = k
      · rw [c, upd_s]; rfl
      · rw [upd_n c]; exact hi.2 p (by omega)⟩
    simp (disch := first | assumption | exact mnl_i | exact mnl_r | exact mnl_n | exact mnl_0 | omega) only [↓reduceIte, tolS, E86_2, cShG, cShR, nI_d, q_ll, hk]
    simp (disch := first | assumption | exact mnl_i | exact mnl_r | exact mnl_n | exact mnl_0 | omega) only [↓reduceIte, tolS, E86_11, cShG, cShR, pix_nI, hk, q_add]
    exact ih'
  · have hk2 : ¬ 24 < 24 := by omega
    simp (disch := first | assumption | exact mnl_i | exact mnl_r | exact mnl_n | exact mnl_0 | omega) only [↓reduceIte, tolS, E86_2, E86_24, cShG, cShR, nI_d, q_ll, hk2]
    refine up_loop many (fun k (s' : TI × TI) => mFr (d + 6) 86 26 [some (.ref 0), some (.int (nI k)), none, none] [] (mkH cSh s'.1 V1 L s'.2) P) (fun k s' => cS I V A s'.1 V1 s'.2 ∧ ∀ p, p < 24 → s'.2 21 p = nI (FN G k p)) (fun k s' hk hi ih => ?_) (fun s' hi => ?_) (I1, A3) ⟨hi.1, fun p hp => hi.2 p hp⟩
    · obtain ⟨I4, A4⟩ := s'
      obtain ⟨i1, i2⟩ := hi
      replace i1 : cS I V A I4 V1 A4 := i1
      replace i2 : ∀ p, p < 24 → A4 21 p = nI (FN G k p) := i2
      have k5 : k < 5 := by omega
      have hrid := c6j k5
      have h41 : I4 4 1 = nI many := (CG_S hc.1 hF.1.1 i1).1
      simp (disch := first | assumption | exact mnl_i | exact mnl_r | exact mnl_n | exact mnl_0 | omega) only [↓reduceIte, tolS, E86_26, E86_37, E86_42.1, E86_42.2.1, E86_42.2.2.1, E86_42.2.2.2.1, E86_42.2.2.2.2.1, E86_42.2.2.2.2.2.1, E86_42.2.2.2.2.2.2.1, cShG, cShR, kRider, h41, q_ll, q_lt, hk, nI_d, k5, pix_nI]
      refine S87 hF hc i1 hk i2 (fun p => by have := FN_le (G := G) k p; omega) _ _ (fun I5 A5 s5 q5 => ?_)
      have ih' := ih (I5, A5) ⟨s5, fun p hp => by
        show A5 21 p = nI (FN G (k + 1) p)
        rw [q5 p hp, FN_s, hG1]⟩
      simp (disch := first | assumption | exact mnl_i | exact mnl_r | exact mnl_n | exact mnl_0 | omega) only [↓reduceIte, tolN, tolS, E86_42.2.2.2.2.2.2.2.1, E86_42.2.2.2.2.2.2.2.2, q_add]
      exact ih'
    · obtain ⟨I4, A4⟩ := s'
      obtain ⟨i1, i2⟩ := hi
      replace i1 : cS I V A I4 V1 A4 := i1
      replace i2 : ∀ p, p < 24 → A4 21 p = nI (FN G many p) := i2
      have e : ¬ many < many := by omega
      have h41 : I4 4 1 = nI many := (CG_S hc.1 hF.1.1 i1).1
      simp (disch := first | assumption | exact mnl_i | exact mnl_r | exact mnl_n | exact mnl_0 | omega) only [↓reduceIte, tolS, E86_26, E86_61, cShG, h41, q_ll, e]
      refine up_loop 24 (fun k (_ : Unit) => mFr (d + 6) 86 67 [some (.ref 0), some (.int (mxN (FN G many) k).2), some (.int (nI (mxN (FN G many) k).1)), some (.int (nI k))] [] (mkH cSh I4 V1 L A4) P) (fun _ _ => True) (fun k _ hk _ ih => ?_) (fun _ _ => ?_) () trivial
      · have ih' := ih () trivial
        have b1 := mxN_le (G := G) (m := many) k
        have b2 := FN_le (G := G) many k
        have hv := i2 k hk
        simp only [mxN] at ih'
        by_cases c : (mxN (FN G many) k).1 < FN G many k
        · rw [if_pos c] at ih'
          simp (disch := first | assumption | exact mnl_i | exact mnl_r | exact mnl_n | exact mnl_0 | omega) only [↓reduceIte, tolS, E86_67, E86_76, E86_86, cShG, cShR, pix_nI, hv, nI_d, q_ll, hk, c]
          simp (disch := first | assumption | exact mnl_i | exact mnl_r | exact mnl_n | exact mnl_0 | omega) only [E86_95, q_add]
          exact ih'
        · rw [if_neg c] at ih'
          simp (disch := first | assumption | exact mnl_i | exact mnl_r | exact mnl_n | exact mnl_0 | omega) only [↓reduceIte, tolS, E86_67, E86_76, cShG, cShR, pix_nI, hv, nI_d, q_ll, hk, c]
          simp (disch := first | assumption | exact mnl_i | exact mnl_r | exact mnl_n | exact mnl_0 | omega) only [E86_95, q_add]
          exact ih'
      · simp (disch := first | assumption | exact mnl_i | exact mnl_r | exact mnl_n | exact mnl_0 | omega) only [↓reduceIte, tolS, E86_67, E86_101, cShG, cShR, nI_d, q_ll, hk2]
        exact hP I4 A4 i1 i2
theorem M157_F (hF : FB nt many R th day rl e) (hm : MB I A nt W many R th day rl e) (s : mSx I A I1 A1) {j : Nat} (hj : j < many) (d : Nat) (P : MP) (hP : ∀ I2 A2, mSx I A I2 A2 → (∀ b, b ≠ 13 → b ≠ 14 → A2 b = A1 b) → I2 0 36 = f36 0 (trN (W rl) th day 240 (R j)) → P (some (.int (nI (takesN (W rl) th day (R j))))) (mkH dSh I2 V L A2)) : mRun (d + 6) 157 [.ref 0, .int (nI j)] (mkH dSh I1 V L A1) P :=
  M157 (WM_of hF.1 (MG_S hm.1 s) (MT_S hm.2.1 s) hj) d P (fun I2 A2 q1 q2 q3 q4 q5 => hP I2 A2 (mSx_trans s ⟨q1, fun b hb => q5 b (by omega) (by omega)⟩) q5 q4)
theorem M166 (hF : FB nt many R th day rl e) (hm : MB I A nt W many R th day rl e) (s : mSx I A I1 A1) {w : Int32} (d : Nat) (P : MP) (hP : ∀ I2 A2, mSx I A I2 A2 → P (some (.int (if w = 0 then (mxN (FN (fun i p => fla (W rl) th day (R i) p) many) 24).2 else nI (mxN (FN (fun i p => fla (W rl) th day (R i) p) many) 24).1))) (mkH dSh I2 V L A2)) : mRun (d + 7) 166 [.ref 0, .int w] (mkH dSh I1 V L A1) P := by
  have h5 := hF.1.1
  generalize hG : (fun i p => fla (W rl) th day (R i) p) = G at hP
  have hG1 : ∀ i p, fla (W rl) th day (R i) p = G i p := fun i p => by rw [← hG]
  simp (disch := first | assumption | exact mnl_i | exact mnl_r | exact mnl_n | exact mnl_0 | omega) only [↓reduceIte, tolS, E166_0, B166]
  refine up_loop 24 (fun k (s' : TI) => mFr (d + 6) 166 2 [some (.ref 0), some (.int w), some (.int (nI k)), none, none] [] (mkH dSh I1 V L s') P) (fun k s' => mSx I A I1 s' ∧ ∀ p, p < k → s' 16 p = nI 0) (fun k A3 hk hi ih => ?_) (fun A3 hi => ?_) A1 ⟨s, fun p hp => absurd hp (by omega)⟩
  · have hk2 : ¬ 23 < k := by omega
    have s4 : mSx I A I1 (upA A3 16 (upd (A3 16) k 0)) := mSx_trans hi.1 ⟨fun _ _ => rfl, fun b hb => upA_n (by omega)⟩
    have ih' := ih (upA A3 16 (upd (A3 16) k 0)) ⟨s4, fun p hp => by
      rw [upA_s]
      by_cases c : p = k
      · rw [c, upd_s]; rfl
      · rw [upd_n c]; exact hi.2 p (by omega)⟩
    simp (disch := first | assumption | exact mnl_i | exact mnl_r | exact mnl_n | exact mnl_0 | omega) only [↓reduceIte, tolS, E166_2, dShG, dShR, q_gt, hk2]
    simp (disch := first | assumption | exact mnl_i | exact mnl_r | exact mnl_n | exact mnl_0 | omega) only [↓reduceIte, tolS, E166_8, dShG, dShR, pix_nI, hk, q_add]
    exact ih'
  · have hk2 : 23 < 24 := by omega
    simp (disch := first | assumption | exact mnl_i | exact mnl_r | exact mnl_n | exact mnl_0 | omega) only [↓reduceIte, tolS, E166_2, E166_21, dShG, dShR, q_gt, hk2]
    refine up_loop many (fun k (s' : TI × TI × Option Value) => mFr (d + 6) 166 23 [some (.ref 0), some (.int w), some (.int (nI k)), s'.2.2, none] [] (mkH dSh s'.1 V L s'.2.1) P) (fun k s' => mSx I A s'.1 s'.2.1 ∧ ∀ p, p < 24 → s'.2.1 16 p = nI (FN G k p)) (fun k s' hk hi ih => ?_) (fun s' hi => ?_) (I1, A3, none) ⟨hi.1, fun p hp => hi.2 p hp⟩
    · obtain ⟨I4, A4, l3⟩ := s'
      obtain ⟨i1, i2⟩ := hi
      replace i1 : mSx I A I4 A4 := i1
      replace i2 : ∀ p, p < 24 → A4 16 p = nI (FN G k p) := i2
      have h02 : I4 0 2 = nI many := (MG_S hm.1 i1).1
      simp (disch := first | assumption | exact mnl_i | exact mnl_r | exact mnl_n | exact mnl_0 | omega) only [↓reduceIte, tolS, E166_23, E166_31.1, E166_31.2.1, E166_31.2.2.1, dShG, h02, q_ll, hk]
      refine M157_F hF hm i1 hk _ _ (fun I5 A5 s5 p5 q36 => ?_)
      have hw : ∀ p, (I5 0 36 >>> (nI p &&& 31)) &&& 1 = nI (if G k p = true then 1 else 0) := fun p => by
        rw [q36]
        refine Eq.trans fla_bz ?_
        rw [hG1]
        split <;> decide
      have i5 : ∀ p, p < 24 → A5 16 p = nI (FN G k p) := fun p hp => by rw [p5 16 (by omega) (by omega)]; exact i2 p hp
      simp (disch := first | assumption | exact mnl_i | exact mnl_r | exact mnl_n | exact mnl_0 | omega) only [↓reduceIte, tolS, E166_31.2.2.2.1, E166_31.2.2.2.2.1, E166_31.2.2.2.2.2, dShG]
      refine up_loop 24 (fun x (s' : TI) => mFr (d + 6) 166 39 [some (.ref 0), some (.int w), some (.int (nI k)), some (.int (nI x)), none] [] (mkH dSh I5 V L s') P) (fun x s' => mSx I A I5 s' ∧ ∀ p, p < 24 → s' 16 p = nI (if p < x then FN G (k + 1) p else FN G k p)) (fun x A6 hx hi ih => ?_) (fun A6 hi => ?_) A5 ⟨s5, fun p hp => by rw [if_neg (by omega)]; exact i5 p hp⟩
      · have hk3 : ¬ 23 < x := by omega
        have hv : A6 16 x = nI (FN G k x) := by rw [hi.2 x hx, if_neg (by omega)]
        have b1 := FN_le (G := G) k x
        have s7 : mSx I A I5 (upA A6 16 (upd (A6 16) x (nI (FN G (k + 1) x)))) := mSx_trans hi.1 ⟨fun _ _ => rfl, fun b hb => upA_n (by omega)⟩
        have ih' := ih _ ⟨s7, fun p hp => by
          rw [upA_s]
          by_cases c : p = x
          · rw [c, upd_s, if_pos (by omega)]
          · rw [upd_n c, hi.2 p hp]
            by_cases c2 : p < x
            · rw [if_pos c2, if_pos (by omega)]
            · rw [if_neg c2, if_neg (by omega)]⟩
        rw [FN_s] at ih'
        simp (disch := first | assumption | exact mnl_i | exact mnl_r | exact mnl_n | exact mnl_0 | omega) only [↓reduceIte, tolS, E166_39, dShG, dShR, q_gt, hk3]
        simp (disch := first | assumption | exact mnl_i | exact mnl_r | exact mnl_n | exact mnl_0 | omega) only [↓reduceIte, tolS, E166_45, dShG, dShR, pix_nI, hx, hv, hw, q_aa, q_add]
        exact ih'
      · have i6 := ih (I5, A6, some (.int (nI 24))) ⟨hi.1, fun p hp => by
          show A6 16 p = _
          rw [hi.2 p hp, if_pos hp]⟩
        simp (disch := first | assumption | exact mnl_i | exact mnl_r | exact mnl_n | exact mnl_0 | omega) only [↓reduceIte, tolS, E166_39, E166_68, dShG, dShR, q_gt, hk2, q_add]
        exact i6
    · obtain ⟨I4, A4, l3⟩ := s'
      obtain ⟨i1, i2⟩ := hi
      replace i1 : mSx I A I4 A4 := i1
      replace i2 : ∀ p, p < 24 → A4 16 p = nI (FN G many p) := i2
      have e : ¬ many < many := by omega
      have h02 : I4 0 2 = nI many := (MG_S hm.1 i1).1
      simp (disch := first | assumption | exact mnl_i | exact mnl_r | exact mnl_n | exact mnl_0 | omega) only [↓reduceIte, tolS, E166_23, E166_74, dShG, h02, q_ll, e]
      refine up_loop 24 (fun k (_ : Unit) => mFr (d + 6) 166 81 [some (.ref 0), some (.int w), some (.int (mxN (FN G many) k).2), some (.int (nI (mxN (FN G many) k).1)), some (.int (nI k))] [] (mkH dSh I4 V L A4) P) (fun _ _ => True) (fun k _ hk _ ih => ?_) (fun _ _ => ?_) () trivial
      · have ih' := ih () trivial
        have b1 := mxN_le (G := G) (m := many) k
        have b2 := FN_le (G := G) many k
        have hv := i2 k hk
        have hk3 : ¬ 23 < k := by omega
        simp only [mxN] at ih'
        by_cases c : (mxN (FN G many) k).1 < FN G many k
        · rw [if_pos c] at ih'
          simp (disch := first | assumption | exact mnl_i | exact mnl_r | exact mnl_n | exact mnl_0 | omega) only [↓reduceIte, tolS, E166_81, E166_88, E166_102, dShG, dShR, pix_nI, hv, q_gt, q_ll, hk, hk3, c]
          simp (disch := first | assumption | exact mnl_i | exact mnl_r | exact mnl_n | exact mnl_0 | omega) only [E166_113, q_add]
          exact ih'
        · rw [if_neg c] at ih'
          simp (disch := first | assumption | exact mnl_i | exact mnl_r | exact mnl_n | exact mnl_0 | omega) only [↓reduceIte, tolS, E166_81, E166_88, E166_99, dShG, dShR, pix_nI, hv, q_gt, q_ll, hk, hk3, c]
          simp (disch := first | assumption | exact mnl_i | exact mnl_r | exact mnl_n | exact mnl_0 | omega) only [E166_113, q_add]
          exact ih'
      · have fin := hP I4 A4 i1
        by_cases c : w = 0
        · rw [if_pos c] at fin
          simp (disch := first | assumption | exact mnl_i | exact mnl_r | exact mnl_n | exact mnl_0 | omega) only [↓reduceIte, tolS, E166_81, E166_119, E166_123, E166_128, dShG, dShR, q_gt, hk2, c]
          exact fin
        · rw [if_neg c] at fin
          simp (disch := first | assumption | exact mnl_i | exact mnl_r | exact mnl_n | exact mnl_0 | omega) only [↓reduceIte, tolS, E166_81, E166_119, E166_127, E166_128, dShG, dShR, q_gt, hk2, c]
          exact fin
theorem J83 {hC hM : MH} (h : REL hC hM) (d : Nat) (x : Int32) : JR (d + 90) 83 168 [.int x] hC hM := by
  obtain ⟨I, V, L, A, I', V', L', A', nt, W, many, R, th, day, rl, e, ec, em, hF, hc, hm⟩ := REL_B h
  rw [ec, em]
  unfold JR
  have h5 := hF.1.1
  have fin := fun (v : Option Value) (I1 : TI) (V1 : TV) (A1 I2 A2 : TI) s1 s2 => JR_T (v := v) (V1 := V1) (I1 := I1) (A1 := A1) (I2 := I2) (A2 := A2) (L := L) (L' := L') (V' := V') hF hc hm s1 s2
  generalize hT : (fun j => takesN (W rl) th day (R j)) = T
  have hTj : ∀ j, takesN (W rl) th day (R j) = T j := fun j => by rw [← hT]
  have hT2 : ∀ j, T j ≤ 240 := fun j => by rw [← hTj]; exact takesN_le
  generalize hG : (fun i p => fla (W rl) th day (R i) p) = G
  have A84 := fun {I1 V1 A1} (s : cS I V A I1 V1 A1) (d : Nat) (P : MP) hP => S84 (L := L) hF hc s d P hP
  have A85 := fun {I1 V1 A1} (s : cS I V A I1 V1 A1) (d : Nat) (P : MP) hP => S85 (L := L) hF hc s d P hP
  have A86 := fun {I1 V1 A1} (s : cS I V A I1 V1 A1) (d : Nat) (P : MP) hP => S86 (L := L) hF hc s d P hP
  have A165 := fun {I1 A1} (s : mSx I' A' I1 A1) (d : Nat) (P : MP) hP => M165 (L := L') (V := V') hF hm s d P hP
  have A166 := fun {I1 A1} (s : mSx I' A' I1 A1) (w : Int32) (d : Nat) (P : MP) hP => M166 (L := L') (V := V') (w := w) hF hm s d P hP
  have A167 := fun {I1 A1} (s : mSx I' A' I1 A1) (d : Nat) (P : MP) hP => M167 (L := L') (V := V') hF hm s d P hP
  rw [hT] at A84 A85 A165 A167
  rw [hG] at A86 A166
  by_cases x0 : x = 0
  · simp (disch := first | assumption | exact mnl_i | exact mnl_r | exact mnl_n | exact mnl_0 | omega) only [↓reduceIte, tolS, E83_0, E83_36.1, E83_36.2.1, B83, cShG, x0]
    refine A84 cS_refl _ _ (fun I2 A2 s2 => ?_)
    simp (disch := first | assumption | exact mnl_i | exact mnl_r | exact mnl_n | exact mnl_0 | omega) only [↓reduceIte, tolS, E83_36.2.2]
    simp (disch := first | assumption | exact mnl_i | exact mnl_r | exact mnl_n | exact mnl_0 | omega) only [↓reduceIte, tolS, E168_0.1, E168_0.2.1, B168, dShG]
    refine A165 mSx_refl _ _ (fun I3 A3 s3 => ?_)
    simp (disch := first | assumption | exact mnl_i | exact mnl_r | exact mnl_n | exact mnl_0 | omega) only [↓reduceIte, tolS, E168_0.2.2.1, E168_0.2.2.2.1, E168_0.2.2.2.2, E168_40]
    exact fin _ _ _ _ _ _ s2 s3
  by_cases x1 : x = 1
  · simp (disch := first | assumption | exact mnl_i | exact mnl_r | exact mnl_n | exact mnl_0 | omega) only [↓reduceIte, tolS, E83_0, E83_41.1, E83_41.2.1, E83_41.2.2.1, E83_41.2.2.2.1, B83, cShG, x1, n10]
    refine A84 cS_refl _ _ (fun I2 A2 s2 => ?_)
    have h41 : I2 4 1 = nI many := (CG_S hc.1 hF.1.1 s2).1
    rcases fhN_ok hT2 many with ⟨h0, h1⟩ | ⟨h0, i, h1, h2⟩
    · rw [h1]
      have so := fun d P => S1_out (V := V) (L := L) (A := A2) h41 h5 (i := -1) (Or.inl (by decide)) d P
      simp (disch := first | assumption | exact mnl_i | exact mnl_r | exact mnl_n | exact mnl_0 | omega) only [↓reduceIte, tolS, E83_41.2.2.2.2.1, E83_41.2.2.2.2.2.1, E83_41.2.2.2.2.2.2.1, E83_41.2.2.2.2.2.2.2.1, E83_41.2.2.2.2.2.2.2.2.1, E83_41.2.2.2.2.2.2.2.2.2.1, E83_41.2.2.2.2.2.2.2.2.2.2, E83_57, E83_70, cShG, so]
      simp (disch := first | assumption | exact mnl_i | exact mnl_r | exact mnl_n | exact mnl_0 | omega) only [↓reduceIte, tolS, E168_0.1, E168_0.2.1, B168, dShG]
      refine A165 mSx_refl _ _ (fun I3 A3 s3 => ?_)
      rw [h1]
      simp (disch := first | assumption | exact mnl_i | exact mnl_r | exact mnl_n | exact mnl_0 | omega) only [↓reduceIte, tolS, E168_0.2.2.1, E168_0.2.2.2.1, E168_0.2.2.2.2, E168_42, E168_47, E168_56, dShG, n10]
      exact fin _ _ _ _ _ _ s2 s3
    · rw [h2]
      have hi5 : i < 5 := by omega
      have hlt : 6 + 1 * i < 900 := by omega
      simp (disch := first | assumption | exact mnl_i | exact mnl_r | exact mnl_n | exact mnl_0 | omega) only [↓reduceIte, tolS, E83_41.2.2.2.2.1, E83_41.2.2.2.2.2.1, E83_41.2.2.2.2.2.2.1, E83_41.2.2.2.2.2.2.2.1, E83_41.2.2.2.2.2.2.2.2.1, E83_41.2.2.2.2.2.2.2.2.2.1, E83_41.2.2.2.2.2.2.2.2.2.2, E83_61.1, E83_61.2.1, E83_61.2.2.1, E83_61.2.2.2.1, E83_61.2.2.2.2.1, E83_61.2.2.2.2.2, cShG, S1_in h41 h5 h1, hlt]
      refine S75_road hF hc s2 (c6j hi5) (by omega) (seat_S hF hc s2 h1) (hF.1.2.1 i h1) _ _ (fun I4 A4 s4 _ _ => ?_)
      rw [hTj]
      simp (disch := first | assumption | exact mnl_i | exact mnl_r | exact mnl_n | exact mnl_0 | omega) only [↓reduceIte, tolS, E83_70, cShG]
      simp (disch := first | assumption | exact mnl_i | exact mnl_r | exact mnl_n | exact mnl_0 | omega) only [↓reduceIte, tolS, E168_0.1, E168_0.2.1, B168, dShG]
      refine A165 mSx_refl _ _ (fun I3 A3 s3 => ?_)
      rw [h2]
      have n1 := nI_m1 (a := i) (by omega)
      simp (disch := first | assumption | exact mnl_i | exact mnl_r | exact mnl_n | exact mnl_0 | omega) only [↓reduceIte, tolS, E168_0.2.2.1, E168_0.2.2.2.1, E168_0.2.2.2.2, E168_42, E168_51.1, E168_51.2.1, E168_51.2.2, dShG, n10, n1]
      refine M157_S hF hm s3 h1 _ _ (fun I5 A5 s5 _ => ?_)
      rw [hTj]
      simp (disch := first | assumption | exact mnl_i | exact mnl_r | exact mnl_n | exact mnl_0 | omega) only [↓reduceIte, tolS, E168_56, dShG]
      exact fin _ _ _ _ _ _ s4 s5
  by_cases x2 : x = 2
  · simp (disch := first | assumption | exact mnl_i | exact mnl_r | exact mnl_n | exact mnl_0 | omega) only [↓reduceIte, tolS, E83_0, E83_71.1, E83_71.2.1, B83, cShG, x2, show ¬ (2 : Int32) = 0 by decide, show ¬ (2 : Int32) = 1 by decide]
    refine A86 cS_refl _ _ (fun I2 A2 s2 _ => ?_)
    simp (disch := first | assumption | exact mnl_i | exact mnl_r | exact mnl_n | exact mnl_0 | omega) only [↓reduceIte, tolS, E83_71.2.2]
    simp (disch := first | assumption | exact mnl_i | exact mnl_r | exact mnl_n | exact mnl_0 | omega) only [↓reduceIte, tolS, E168_0.1, E168_0.2.1, B168, dShG]
    refine A165 mSx_refl _ _ (fun I3 A3 s3 => ?_)
    simp (disch := first | assumption | exact mnl_i | exact mnl_r | exact mnl_n | exact mnl_0 | omega) only [↓reduceIte, tolS, E168_0.2.2.1, E168_0.2.2.2.1, E168_0.2.2.2.2, E168_57.1, E168_57.2.1, E168_57.2.2.1, dShG, show ¬ (2 : Int32) = 0 by decide, show ¬ (2 : Int32) = 1 by decide]
    refine A166 s3 _ _ _ (fun I4 A4 s4 => ?_)
    simp (disch := first | assumption | exact mnl_i | exact mnl_r | exact mnl_n | exact mnl_0 | omega) only [↓reduceIte, tolS, E168_57.2.2.2]
    exact fin _ _ _ _ _ _ s2 s4
  by_cases x3 : x = 3
  · simp (disch := first | assumption | exact mnl_i | exact mnl_r | exact mnl_n | exact mnl_0 | omega) only [↓reduceIte, tolS, E83_0, E83_76.1, E83_76.2.1, B83, cShG, x3, show ¬ (3 : Int32) = 0 by decide, show ¬ (3 : Int32) = 1 by decide, show ¬ (3 : Int32) = 2 by decide]
    refine A86 cS_refl _ _ (fun I2 A2 s2 a2 => ?_)
    have f0 : (3 : Int32) = 0 ↔ False := by decide
    have f1 : (3 : Int32) = 1 ↔ False := by decide
    have f2 : (3 : Int32) = 2 ↔ False := by decide
    have mh : ∀ v : Int32, v = nI (mxN (FN G many) 24).1 → mRun (d + 90) 168 [.ref 0, .int 3] (mkH dSh I' V' L' A') (fun v' h' => JQ (some (.int v)) (mkH cSh I2 V L A2) v' h') := by
      intro v hv
      simp (disch := first | assumption | exact mnl_i | exact mnl_r | exact mnl_n | exact mnl_0 | omega) only [↓reduceIte, tolS, E168_0.1, E168_0.2.1, B168, dShG]
      refine A165 mSx_refl _ _ (fun I3 A3 s3 => ?_)
      simp (disch := first | assumption | exact mnl_i | exact mnl_r | exact mnl_n | exact mnl_0 | omega) only [↓reduceIte, tolS, E168_0.2.2.1, E168_0.2.2.2.1, E168_0.2.2.2.2, E168_63.1, E168_63.2.1, E168_63.2.2.1, dShG, show ¬ (3 : Int32) = 0 by decide, show ¬ (3 : Int32) = 1 by decide, show ¬ (3 : Int32) = 2 by decide]
      refine A166 s3 _ _ _ (fun I4 A4 s4 => ?_)
      rw [if_neg n10]
      simp (disch := first | assumption | exact mnl_i | exact mnl_r | exact mnl_n | exact mnl_0 | omega) only [↓reduceIte, tolS, E168_63.2.2.2]
      rw [hv]
      exact fin _ _ _ _ _ _ s2 s4
    rcases mxN_ok (F := FN G many) 24 with h1 | ⟨i, h1, h2⟩
    · rw [h1]
      simp (disch := first | assumption | exact mnl_i | exact mnl_r | exact mnl_n | exact mnl_0 | omega) only [↓reduceIte, tolS, E83_76.2.2.1, E83_76.2.2.2.1, E83_76.2.2.2.2, E83_94, E83_104, cShG, show (-1 : Int32) < 0 by decide]
      exact mh 0 (by rw [h1]; decide)
    · rw [h2]
      have hv := a2 i h1
      simp (disch := first | assumption | exact mnl_i | exact mnl_r | exact mnl_n | exact mnl_0 | omega) only [↓reduceIte, tolS, E83_76.2.2.1, E83_76.2.2.2.1, E83_76.2.2.2.2, E83_85, E83_98, E83_104, cShG, cShR, q_neg, nI_d, q_ll, h1, pix_nI, hv]
      exact mh _ (by rw [h2])
  by_cases x4 : x = 4
  · simp (disch := first | assumption | exact mnl_i | exact mnl_r | exact mnl_n | exact mnl_0 | omega) only [↓reduceIte, tolS, E83_0, E83_105.1, E83_105.2.1, B83, cShG, x4, show ¬ (4 : Int32) = 0 by decide, show ¬ (4 : Int32) = 1 by decide, show ¬ (4 : Int32) = 2 by decide, show ¬ (4 : Int32) = 3 by decide]
    refine A85 cS_refl _ _ (fun I2 A2 s2 => ?_)
    simp (disch := first | assumption | exact mnl_i | exact mnl_r | exact mnl_n | exact mnl_0 | omega) only [↓reduceIte, tolS, E83_105.2.2]
    simp (disch := first | assumption | exact mnl_i | exact mnl_r | exact mnl_n | exact mnl_0 | omega) only [↓reduceIte, tolS, E168_0.1, E168_0.2.1, B168, dShG]
    refine A165 mSx_refl _ _ (fun I3 A3 s3 => ?_)
    simp (disch := first | assumption | exact mnl_i | exact mnl_r | exact mnl_n | exact mnl_0 | omega) only [↓reduceIte, tolS, E168_0.2.2.1, E168_0.2.2.2.1, E168_0.2.2.2.2, E168_69.1, E168_69.2.1, dShG, show ¬ (4 : Int32) = 0 by decide, show ¬ (4 : Int32) = 1 by decide, show ¬ (4 : Int32) = 2 by decide, show ¬ (4 : Int32) = 3 by decide]
    refine A167 s3 _ _ (fun I4 A4 s4 => ?_)
    simp (disch := first | assumption | exact mnl_i | exact mnl_r | exact mnl_n | exact mnl_0 | omega) only [↓reduceIte, tolS, E168_69.2.2]
    exact fin _ _ _ _ _ _ s2 s4
  · simp (disch := first | assumption | exact mnl_i | exact mnl_r | exact mnl_n | exact mnl_0 | omega) only [↓reduceIte, tolS, E83_0, E83_110, B83, cShG, x0, x1, x2, x3, x4]
    simp (disch := first | assumption | exact mnl_i | exact mnl_r | exact mnl_n | exact mnl_0 | omega) only [↓reduceIte, tolS, E168_0.1, E168_0.2.1, B168, dShG]
    refine A165 mSx_refl _ _ (fun I3 A3 s3 => ?_)
    simp (disch := first | assumption | exact mnl_i | exact mnl_r | exact mnl_n | exact mnl_0 | omega) only [↓reduceIte, tolS, E168_0.2.2.1, E168_0.2.2.2.1, E168_0.2.2.2.2, E168_74, dShG, x0, x1, x2, x3, x4]
    exact fin _ _ _ _ _ _ cS_refl s3
end L4
