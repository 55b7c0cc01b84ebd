/-! all: sums and firsts -/
section L2
variable {I I' A A' I1 A1 : TI} {V V' V1 : TV} {L L' : Nat → Int64} {nt many day rl : Nat} {R : Nat → Nat → Nat} {th th' : Nat → Nat} {W : Nat → Nat → List Int32} {e : TE}
theorem S85 (hF : FB nt many R th day rl e) (hc : CB I V A nt W many R th day rl e) (s : cS I V A I1 V1 A1) (d : Nat) (P : MP) (hP : ∀ I2 A2, cS I V A I2 V1 A2 → P (some (.int (nI (sumN (fun j => takesN (W rl) th day (R j)) many)))) (mkH cSh I2 V1 L A2)) : mRun (d + 7) 85 [.ref 0] (mkH cSh I1 V1 L A1) P := by
  have h5 := hF.1.1
  simp (disch := first | assumption | exact mnl_i | exact mnl_r | exact mnl_n | exact mnl_0 | omega) only [↓reduceIte, tolS, E85_0, B85]
  refine up_loop many (fun k (s' : TI × TI) => mFr (d + 6) 85 4 [some (.ref 0), some (.int (nI (sumN (fun j => takesN (W rl) th day (R j)) k))), some (.int (nI k))] [] (mkH cSh s'.1 V1 L s'.2) P) (fun k s' => cS I V A s'.1 V1 s'.2) (fun k s' hk hi ih => ?_) (fun s' hi => ?_) (I1, A1) s
  · obtain ⟨I3, A3⟩ := s'
    replace hi : cS I V A I3 V1 A3 := hi
    have k5 : k < 5 := by omega
    have hrid := c6j k5
    have h41 : I3 4 1 = nI many := (CG_S hc.1 hF.1.1 hi).1
    simp (disch := first | assumption | exact mnl_i | exact mnl_r | exact mnl_n | exact mnl_0 | omega) only [↓reduceIte, tolS, E85_4, E85_15, E85_20.1, E85_20.2.1, E85_20.2.2.1, E85_20.2.2.2.1, E85_20.2.2.2.2.1, E85_20.2.2.2.2.2.1, E85_20.2.2.2.2.2.2.1, E85_20.2.2.2.2.2.2.2.1, E85_20.2.2.2.2.2.2.2.2.1, E85_20.2.2.2.2.2.2.2.2.2.1, cShG, cShR, kRider, h41, q_ll, q_lt, hk, nI_d, k5, pix_nI]
    refine S75_road hF hc hi hrid (by omega) (seat_S hF hc hi hk) (hF.1.2.1 k hk) _ _ (fun I4 A4 s4 _ _ => ?_)
    have ih' := ih (I4, A4) s4
    simp only [sumN] at ih'
    simp (disch := first | assumption | exact mnl_i | exact mnl_r | exact mnl_n | exact mnl_0 | omega) only [↓reduceIte, tolS, E85_20.2.2.2.2.2.2.2.2.2.2.1, E85_20.2.2.2.2.2.2.2.2.2.2.2.1, E85_20.2.2.2.2.2.2.2.2.2.2.2.2.1, E85_20.2.2.2.2.2.2.2.2.2.2.2.2.2, cShG, q_aa, q_add]
    exact ih'
  · obtain ⟨I3, A3⟩ := s'
    replace hi : cS I V A I3 V1 A3 := hi
    have e : ¬ many < many := by omega
    have h41 : I3 4 1 = nI many := (CG_S hc.1 hF.1.1 hi).1
    simp (disch := first | assumption | exact mnl_i | exact mnl_r | exact mnl_n | exact mnl_0 | omega) only [↓reduceIte, tolS, E85_4, E85_46, cShG, h41, q_ll, e]
    exact hP _ _ hi
theorem M167 (hF : FB nt many R th day rl e) (hm : MB I A nt W many R th day rl e) (s : mSx I A I1 A1) (d : Nat) (P : MP) (hP : ∀ I2 A2, mSx I A I2 A2 → P (some (.int (nI (sumN (fun j => takesN (W rl) th day (R j)) many)))) (mkH dSh I2 V L A2)) : mRun (d + 7) 167 [.ref 0] (mkH dSh I1 V L A1) P := by
  have h5 := hF.1.1
  simp (disch := first | assumption | exact mnl_i | exact mnl_r | exact mnl_n | exact mnl_0 | omega) only [↓reduceIte, tolS, E167_0, B167]
  refine up_loop many (fun k (s' : TI × TI) => mFr (d + 6) 167 4 [some (.ref 0), some (.int (nI (sumN (fun j => takesN (W rl) th day (R j)) k))), some (.int (nI k))] [] (mkH dSh s'.1 V L s'.2) P) (fun k s' => mSx I A s'.1 s'.2) (fun k s' hk hi ih => ?_) (fun s' hi => ?_) (I1, A1) s
  · obtain ⟨I3, A3⟩ := s'
    replace hi : mSx I A I3 A3 := hi
    have h02 : I3 0 2 = nI many := (MG_S hm.1 hi).1
    simp (disch := first | assumption | exact mnl_i | exact mnl_r | exact mnl_n | exact mnl_0 | omega) only [↓reduceIte, tolS, E167_4, E167_12.1, E167_12.2.1, E167_12.2.2.1, E167_12.2.2.2.1, dShG, h02, q_ll, hk]
    refine M157_S hF hm hi hk _ _ (fun I4 A4 s4 _ => ?_)
    have ih' := ih (I4, A4) s4
    simp only [sumN] at ih'
    simp (disch := first | assumption | exact mnl_i | exact mnl_r | exact mnl_n | exact mnl_0 | omega) only [↓reduceIte, tolS, E167_12.2.2.2.2.1, E167_12.2.2.2.2.2.1, E167_12.2.2.2.2.2.2.1, E167_12.2.2.2.2.2.2.2, dShG, q_aa, q_add]
    exact ih'
  · obtain ⟨I3, A3⟩ := s'
    replace hi : mSx I A I3 A3 := hi
    have e : ¬ many < many := by omega
    have h02 : I3 0 2 = nI many := (MG_S hm.1 hi).1
    simp (disch := first | assumption | exact mnl_i | exact mnl_r | exact mnl_n | exact mnl_0 | omega) only [↓reduceIte, tolS, E167_4, E167_26, dShG, h02, q_ll, e]
    exact hP _ _ hi
def fhN (T : Nat → Nat) (k : Nat) : Nat × Int32 := am1 T nI (241, -1) k
theorem fhN_ok {T : Nat → Nat} (hT : ∀ j, T j ≤ 240) : ∀ k, (k = 0 ∧ fhN T k = (241, -1)) ∨ (fhN T k).1 ≤ 240 ∧ ∃ i, i < k ∧ (fhN T k).2 = nI i := by
  intro k
  induction k with
  | zero => left; exact ⟨rfl, rfl⟩
  | succ k ih =>
    right
    have h1 := hT k
    show (stp (T k) (nI k) (fhN T k)).1 ≤ 240 ∧ ∃ i, i < k + 1 ∧ (stp (T k) (nI k) (fhN T k)).2 = nI i
    unfold stp
    by_cases c : T k < (fhN T k).1
    · rw [if_pos c]; exact ⟨h1, k, by omega, rfl⟩
    · rw [if_neg c]
      rcases ih with ⟨_, h2⟩ | ⟨h2, i, h3, h4⟩
      · rw [h2] at c; exact absurd (show T k < 241 by omega) c
      · exact ⟨h2, i, by omega, h4⟩
theorem S84 (hF : FB nt many R th day rl e) (hc : CB I V A nt W many R th day rl e) (s : cS I V A I1 V1 A1) (d : Nat) (P : MP) (hP : ∀ I2 A2, cS I V A I2 V1 A2 → P (some (.int (fhN (fun j => takesN (W rl) th day (R j)) many).2)) (mkH cSh I2 V1 L A2)) : mRun (d + 7) 84 [.ref 0] (mkH cSh I1 V1 L A1) P := by
  have h5 := hF.1.1
  generalize hT : (fun j => takesN (W rl) th day (R j)) = T at hP
  have hTj : ∀ j, takesN (W rl) th day (R j) = T j := fun j => by rw [← hT]
  have hT2 : ∀ j, T j ≤ 240 := fun j => by rw [← hTj]; exact takesN_le
  have hle : ∀ k, (fhN T k).1 ≤ 241 := am1_le (Nat.le_refl 241)
  simp (disch := first | assumption | exact mnl_i | exact mnl_r | exact mnl_n | exact mnl_0 | omega) only [↓reduceIte, tolS, E84_0, B84]
  have e241 : (241 : Int32) = nI 241 := by decide
  rw [e241]
  refine up_loop many (fun k (s' : TI × TI × Option Value) => mFr (d + 6) 84 8 [some (.ref 0), some (.int (fhN T k).2), some (.int (nI (fhN T k).1)), some (.int (nI k)), s'.2.2] [] (mkH cSh s'.1 V1 L s'.2.1) P) (fun k s' => cS I V A s'.1 V1 s'.2.1) (fun k s' hk hi ih => ?_) (fun s' hi => ?_) (I1, A1, none) s
  · obtain ⟨I3, A3, l4⟩ := s'
    replace hi : cS I V A I3 V1 A3 := hi
    have k5 : k < 5 := by omega
    have hrid := c6j k5
    have h41 : I3 4 1 = nI many := (CG_S hc.1 hF.1.1 hi).1
    simp (disch := first | assumption | exact mnl_i | exact mnl_r | exact mnl_n | exact mnl_0 | omega) only [↓reduceIte, tolS, E84_8, E84_19, E84_24.1, E84_24.2.1, E84_24.2.2.1, E84_24.2.2.2.1, E84_24.2.2.2.2.1, E84_24.2.2.2.2.2.1, E84_24.2.2.2.2.2.2.1, E84_24.2.2.2.2.2.2.2.1, E84_24.2.2.2.2.2.2.2.2.1, cShG, cShR, kRider, h41, q_ll, q_lt, hk, nI_d, k5, pix_nI]
    refine S75_road hF hc hi hrid (by omega) (seat_S hF hc hi hk) (hF.1.2.1 k hk) _ _ (fun I4 A4 s4 _ _ => ?_)
    rw [hTj]
    have l1 := hle k
    have l2 := hT2 k
    have ih' := ih (I4, A4, some (.int (nI (T k)))) s4
    have e1 : fhN T (k + 1) = stp (T k) (nI k) (fhN T k) := rfl
    rw [e1] at ih'
    unfold stp at ih'
    by_cases c : T k < (fhN T k).1
    · rw [if_pos c] at ih'
      simp (disch := first | assumption | exact mnl_i | exact mnl_r | exact mnl_n | exact mnl_0 | omega) only [↓reduceIte, tolS, E84_24.2.2.2.2.2.2.2.2.2.1, E84_24.2.2.2.2.2.2.2.2.2.2.1, E84_24.2.2.2.2.2.2.2.2.2.2.2.1, E84_24.2.2.2.2.2.2.2.2.2.2.2.2, E84_49, cShG, q_ll, c]
      simp (disch := first | assumption | exact mnl_i | exact mnl_r | exact mnl_n | exact mnl_0 | omega) only [E84_54, q_add]
      exact ih'
    · rw [if_neg c] at ih'
      simp (disch := first | assumption | exact mnl_i | exact mnl_r | exact mnl_n | exact mnl_0 | omega) only [↓reduceIte, tolS, E84_24.2.2.2.2.2.2.2.2.2.1, E84_24.2.2.2.2.2.2.2.2.2.2.1, E84_24.2.2.2.2.2.2.2.2.2.2.2.1, E84_24.2.2.2.2.2.2.2.2.2.2.2.2, cShG, q_ll, c]
      simp (disch := first | assumption | exact mnl_i | exact mnl_r | exact mnl_n | exact mnl_0 | omega) only [E84_54, q_add]
      exact ih'
  · obtain ⟨I3, A3, l4⟩ := s'
    replace hi : cS I V A I3 V1 A3 := hi
    have e : ¬ many < many := by omega
    have h41 : I3 4 1 = nI many := (CG_S hc.1 hF.1.1 hi).1
    simp (disch := first | assumption | exact mnl_i | exact mnl_r | exact mnl_n | exact mnl_0 | omega) only [↓reduceIte, tolS, E84_8, E84_60, cShG, h41, q_ll, e]
    exact hP _ _ hi
theorem M165 (hF : FB nt many R th day rl e) (hm : MB I A nt W many R th day rl e) (s : mSx I A I1 A1) (d : Nat) (P : MP) (hP : ∀ I2 A2, mSx I A I2 A2 → P (some (.int (fhN (fun j => takesN (W rl) th day (R j)) many).2)) (mkH dSh I2 V L A2)) : mRun (d + 7) 165 [.ref 0] (mkH dSh I1 V L A1) P := by
  have h5 := hF.1.1
  generalize hT : (fun j => takesN (W rl) th day (R j)) = T at hP
  have hTj : ∀ j, takesN (W rl) th day (R j) = T j := fun j => by rw [← hT]
  have hT2 : ∀ j, T j ≤ 240 := fun j => by rw [← hTj]; exact takesN_le
  simp (disch := first | assumption | exact mnl_i | exact mnl_r | exact mnl_n | exact mnl_0 | omega) only [↓reduceIte, tolS, E165_0, B165]
  refine up_loop many (fun k (s' : TI × TI × Option Value) => mFr (d + 6) 165 6 [some (.ref 0), some (.int (fhN T k).2), some (.int (if k = 0 then 0 else nI (fhN T k).1)), some (.int (nI k)), s'.2.2] [] (mkH dSh s'.1 V L s'.2.1) P) (fun k s' => mSx I A s'.1 s'.2.1) (fun k s' hk hi ih => ?_) (fun s' hi => ?_) (I1, A1, none) s
  · obtain ⟨I3, A3, l4⟩ := s'
    replace hi : mSx I A I3 A3 := hi
    have h02 : I3 0 2 = nI many := (MG_S hm.1 hi).1
    simp (disch := first | assumption | exact mnl_i | exact mnl_r | exact mnl_n | exact mnl_0 | omega) only [↓reduceIte, tolS, E165_6, E165_14.1, E165_14.2.1, E165_14.2.2.1, dShG, h02, q_ll, hk]
    refine M157_S hF hm hi hk _ _ (fun I4 A4 s4 _ => ?_)
    rw [hTj]
    have l2 := hT2 k
    have ih' := ih (I4, A4, some (.int (nI (T k)))) s4
    have e1 : fhN T (k + 1) = stp (T k) (nI k) (fhN T k) := rfl
    rw [e1, if_neg (by omega)] at ih'
    unfold stp at ih'
    rcases fhN_ok hT2 k with ⟨h0, h1⟩ | ⟨h0, i, h1, h2⟩
    · rw [h1] at ih' ⊢
      rw [if_pos (show T k < 241 by omega)] at ih'
      rw [if_pos h0]
      simp (disch := first | assumption | exact mnl_i | exact mnl_r | exact mnl_n | exact mnl_0 | omega) only [↓reduceIte, tolS, E165_14.2.2.2.1, E165_14.2.2.2.2.1, E165_14.2.2.2.2.2.1, E165_14.2.2.2.2.2.2, E165_35, dShG]
      simp (disch := first | assumption | exact mnl_i | exact mnl_r | exact mnl_n | exact mnl_0 | omega) only [E165_40, q_add]
      exact ih'
    · have k0 : ¬ k = 0 := by omega
      rw [if_neg k0]
      have n1 := nI_m1 (a := i) (by omega)
      rw [h2]
      by_cases c : T k < (fhN T k).1
      · rw [if_pos c] at ih'
        simp (disch := first | assumption | exact mnl_i | exact mnl_r | exact mnl_n | exact mnl_0 | omega) only [↓reduceIte, tolS, E165_14.2.2.2.1, E165_14.2.2.2.2.1, E165_14.2.2.2.2.2.1, E165_14.2.2.2.2.2.2, E165_26, E165_35, dShG, q_ll, c, n1]
        simp (disch := first | assumption | exact mnl_i | exact mnl_r | exact mnl_n | exact mnl_0 | omega) only [E165_40, q_add]
        exact ih'
      · rw [if_neg c, h2] at ih'
        simp (disch := first | assumption | exact mnl_i | exact mnl_r | exact mnl_n | exact mnl_0 | omega) only [↓reduceIte, tolS, E165_14.2.2.2.1, E165_14.2.2.2.2.1, E165_14.2.2.2.2.2.1, E165_14.2.2.2.2.2.2, E165_26, E165_32, dShG, q_ll, c, n1]
        simp (disch := first | assumption | exact mnl_i | exact mnl_r | exact mnl_n | exact mnl_0 | omega) only [E165_40, q_add]
        exact ih'
  · obtain ⟨I3, A3, l4⟩ := s'
    replace hi : mSx I A I3 A3 := hi
    have e : ¬ many < many := by omega
    have h02 : I3 0 2 = nI many := (MG_S hm.1 hi).1
    simp (disch := first | assumption | exact mnl_i | exact mnl_r | exact mnl_n | exact mnl_0 | omega) only [↓reduceIte, tolS, E165_6, E165_46, dShG, h02, q_ll, e]
    exact hP _ _ hi
end L2
