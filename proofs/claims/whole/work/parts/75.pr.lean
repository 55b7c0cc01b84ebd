/-! the class's grammar: ones, negations; the whole -/
section PR
variable {T B : Nat → Nat} {cn n k : Nat} {V : TV} {L : Nat → Int64}
theorem ROK_o (hk : k < 6) {I A : TI} {i o o' : Nat} {c : List Nat} (h : ROK T k I A i c o) : ROK T k (up2 I 55 4 (nI o')) A i c o' := by
  obtain ⟨g1, g2, g3, g4, g5, g6⟩ := h
  exact ⟨by rw [up2_f (by decide)]; exact g1, by rw [up2_f (by decide)]; exact g2, up2_s, by rw [up2_f (by decide)]; exact g4, by rw [up2_a (by omega)]; exact g5, g6⟩
theorem RFL_o (hk : k < 6) {I : TI} {fl : Nat} {v : Int32} (h : RFL k I fl) : RFL k (up2 I 55 4 v) fl := by
  obtain ⟨g1, g2, g3, m, g4, g5⟩ := h
  exact ⟨by rw [up2_f (by decide)]; exact g1, by rw [up2_f (by decide)]; exact g2, g3, m, g4, by rw [up2_a (by omega)]; exact g5⟩
theorem pS_o {I A : TI} {v : Int32} : pS k I A (up2 I 55 4 v) A := pS_55 (fun b g hb => up2_a hb)
theorem X46 {o K : Nat} (hk : k < 6) (ho : o ≤ 5) (hK : 3 ≤ K) (h1 : o < 5 → SPs T B cn n k V L (o + 1) K) (h2 : o < 5 → SPx T B cn n k V L 42 [.int (nI 0)] (o + 1) 1 1 true K) : SPs T B cn n k V L o (K + 1) := by
  intro D hD I A i c ws cm st P a1 a2 a3 a4 a5 a8 hok hf
  obtain ⟨d, rfl⟩ : ∃ d, D = (d + 3) + 1 := ⟨D - 4, by omega⟩
  have hv := a1.1
  have hcn := a1.2.2.2.2.2
  have ht1 := (c23 hk).1
  have g2 := a2.2.1
  have g3 := a2.2.2.1
  have hT := hcn.2.2.2.1 i
  have hT2 : T i < 2 ^ 31 := by omega
  have hi5 : i ≤ 500 := by have := hcn.1; omega
  have hc1 : c.length ≤ 160 := by have := hcn.1; omega
  have hend := fun {j : Nat} {s1 : SYS} (b3 : SR T i (c, ws, cm, false, st) j s1) => SR_end (fun j hj => (hcn.2.2.1 j hj).1) b3 a5
  by_cases cA : T i ≤ 5 ∨ 100 ≤ T i
  · have hlt : i < cn := by
      rcases Nat.lt_or_ge i cn with z | z
      · exact z
      · have := (hcn.2.2.1 i z).1; omega
    have hc2 : c.length < 160 := by have := hcn.1; omega
    have hst : sstep (c, ws, cm, false, st) (T i) = some (c ++ [T i] ++ layc 7 ws, layr 7 ws, cm, true, st) := by
      simp only [sstep, if_pos cA]
      rw [List.append_assoc]; rfl
    have go : mFr (d + 3) 46 17 [some (.ref 55)] [] (mkH cSh I V L A) P := by
      simp (disch := first | assumption | exact mnl_i | exact mnl_r | exact mnl_n | exact mnl_0 | omega) only [↓reduceIte, tolS, E46_17.1, E46_17.2.1, E46_17.2.2.1, E46_17.2.2.2.1, E46_17.2.2.2.2.1, cShG, hv, kText, g2]
      refine S31_ok hk a2 hc2 _ (T i) _ (fun I1 A1 s1 r1 => ?_)
      simp (disch := first | assumption | exact mnl_i | exact mnl_r | exact mnl_n | exact mnl_0 | omega) only [↓reduceIte, tolN, tolS, E46_17.2.2.2.2.2.1, E46_17.2.2.2.2.2.2.1, cShG]
      refine S39 (RPc_S a1 s1) r1.1 hi5 _ _ (fun I2 q1 q2 q3 q4 q5 => ?_)
      simp (disch := first | assumption | exact mnl_i | exact mnl_r | exact mnl_n | exact mnl_0 | omega) only [↓reduceIte, tolN, tolS, E46_17.2.2.2.2.2.2.2, E46_121, cShG]
      exact hok I2 A1 (i + 1) [T i] st (pS_trans s1 (pS_55 q1)) ⟨q2, q3, by rw [q4]; exact r1.2.2.1, by rw [q5]; exact r1.2.2.2.1, by rw [q1 _ _ (by omega)]; exact r1.2.2.2.2.1, r1.2.2.2.2.2⟩ (SR_one hst) (wfx_one (by omega)) (by omega)
    by_cases cB : T i < 100
    · have cC : ¬ 5 < T i := by omega
      simp (disch := first | assumption | exact mnl_i | exact mnl_r | exact mnl_n | exact mnl_0 | omega) only [↓reduceIte, tolS, E46_0, E46_9, B46, cShG, g2, q_lt, q_gt, cB, cC]
      exact go
    · simp (disch := first | assumption | exact mnl_i | exact mnl_r | exact mnl_n | exact mnl_0 | omega) only [↓reduceIte, tolS, E46_0, B46, cShG, g2, q_lt, cB]
      exact go
  · have cB : T i < 100 := by omega
    have cC : 5 < T i := by omega
    by_cases c16 : T i = 16
    · have n12 : ¬ T i = 12 := by omega
      by_cases ho5 : o < 5
      · simp (disch := first | assumption | exact mnl_i | exact mnl_r | exact mnl_n | exact mnl_0 | omega) only [↓reduceIte, tolS, E46_0, E46_9, E46_35, E46_44.1, E46_44.2.1, B46, cShG, g2, q_lt, q_gt, q_eq, cB, cC, c16]
        refine S47_y a1 a2 hi5 ho5 _ _ (fun I1 A1 s1 r1 => ?_)
        simp (disch := first | assumption | exact mnl_i | exact mnl_r | exact mnl_n | exact mnl_0 | omega) only [↓reduceIte, tolS, E46_44.2.2, E46_51.1, E46_51.2.1, cShG, show ¬ (1 : Int32) = 0 by decide]
        have hst : sstep (c, ws, cm, false, st) (T i) = some (c, 22 :: ws, cm, false, false) := by
          simp only [sstep, if_neg cA]
          rw [if_pos ⟨Or.inr (Or.inl c16), by omega⟩, if_neg n12, if_pos c16]
        have y1 := SR_one hst
        have hle : i + 1 ≤ cn := hend y1
        refine h1 ho5 (d + 3) (by omega) I1 A1 (i + 1) c (22 :: ws) cm false _ (RPc_S a1 s1) r1 (by rw [cnt, a3]; show 1 + o = o + 1; omega) (by rw [List.length_cons]; omega) hle (fun z => by cases z) (fun I2 A2 i2 e st2 b1 b2 b3 b4 b5 => ?_) (fun I2 A2 f s' b1 b2 b3 b4 => ?_)
        · have g4 := b2.2.2.1
          have hle2 : i2 ≤ cn := hend (SR_trans y1 b3)
          have hsz := SR_sz (SR_trans y1 b3)
          have hl : (c ++ e).length < 160 := by
            have hx := lay_len 7 ws
            simp only [szS, List.length_append, layc, layr, show 7 ≤ rk 22 by decide, if_true, List.length_cons] at hsz ⊢
            have := hcn.1
            omega
          simp (disch := first | assumption | exact mnl_i | exact mnl_r | exact mnl_n | exact mnl_0 | omega) only [↓reduceIte, tolN, tolS, E46_51.2.2.1, E46_51.2.2.2.1, E46_51.2.2.2.2.1, E46_51.2.2.2.2.2.1, E46_51.2.2.2.2.2.2.1, E46_51.2.2.2.2.2.2.2.1, E46_51.2.2.2.2.2.2.2.2.1, E46_51.2.2.2.2.2.2.2.2.2.1, E46_51.2.2.2.2.2.2.2.2.2.2.1, E46_51.2.2.2.2.2.2.2.2.2.2.2.1, cShG, cShP, g4, q_sub, Nat.add_sub_cancel, hv, kText]
          refine S31_ok hk (ROK_o hk b2) hl _ 22 _ (fun I3 A3 s3 r3 => ?_)
          simp (disch := first | assumption | exact mnl_i | exact mnl_r | exact mnl_n | exact mnl_0 | omega) only [↓reduceIte, tolN, tolS, E46_51.2.2.2.2.2.2.2.2.2.2.2.2, E46_121, cShG]
          refine hok I3 A3 i2 (e ++ [22]) st2 (pS_trans (pS_trans (pS_trans s1 b1) pS_o) s3) (by rw [← List.append_assoc]; exact r3) ?_ (wfx_un b4 (Or.inr rfl)) (by omega)
          have y3 := SR_trans y1 b3
          simp only [layc, layr, show 7 ≤ rk 22 by decide, if_true] at y3
          rw [show c ++ (e ++ [22]) ++ layc 7 ws = c ++ e ++ 22 :: layc 7 ws by simp only [List.append_assoc, List.cons_append, List.nil_append]]
          exact y3
        · simp (disch := first | assumption | exact mnl_i | exact mnl_r | exact mnl_n | exact mnl_0 | omega) only [↓reduceIte, tolN, tolS, E46_51.2.2.1, E46_51.2.2.2.1, E46_51.2.2.2.2.1, E46_51.2.2.2.2.2.1, E46_51.2.2.2.2.2.2.1, E46_51.2.2.2.2.2.2.2.1, E46_51.2.2.2.2.2.2.2.2.1, E46_51.2.2.2.2.2.2.2.2.2.1, E46_51.2.2.2.2.2.2.2.2.2.2.1, E46_51.2.2.2.2.2.2.2.2.2.2.2.1, cShG, cShP, hv, kText]
          refine S31_F hk (RFL_o hk b2) _ _ _ (fun I3 A3 s3 r3 => ?_)
          simp (disch := first | assumption | exact mnl_i | exact mnl_r | exact mnl_n | exact mnl_0 | omega) only [↓reduceIte, tolN, tolS, E46_51.2.2.2.2.2.2.2.2.2.2.2.2, E46_121, cShG]
          exact hf I3 A3 f s' (pS_trans (pS_trans (pS_trans s1 b1) pS_o) s3) r3 (SR_trans y1 b3) b4
      · simp (disch := first | assumption | exact mnl_i | exact mnl_r | exact mnl_n | exact mnl_0 | omega) only [↓reduceIte, tolS, E46_0, E46_9, E46_35, E46_44.1, E46_44.2.1, B46, cShG, g2, q_lt, q_gt, q_eq, cB, cC, c16]
        refine S47_n a1 a2 hi5 hc1 ho5 (by omega) _ _ (fun I1 A1 s1 r1 => ?_)
        simp (disch := first | assumption | exact mnl_i | exact mnl_r | exact mnl_n | exact mnl_0 | omega) only [↓reduceIte, tolS, E46_44.2.2, E46_121, cShG]
        exact hf I1 A1 i _ s1 r1 SR_refl (bad_nb cA (fun z => by rw [a3] at z; omega))
    · by_cases c12 : T i = 12
      · by_cases ho5 : o < 5
        · simp (disch := first | assumption | exact mnl_i | exact mnl_r | exact mnl_n | exact mnl_0 | omega) only [↓reduceIte, tolS, E46_0, E46_9, E46_35, E46_77, E46_86.1, E46_86.2.1, B46, cShG, g2, q_lt, q_gt, q_eq, cB, cC, c16, c12]
          refine S47_y a1 a2 hi5 ho5 _ _ (fun I1 A1 s1 r1 => ?_)
          simp (disch := first | assumption | exact mnl_i | exact mnl_r | exact mnl_n | exact mnl_0 | omega) only [↓reduceIte, tolS, E46_86.2.2, E46_93.1, E46_93.2.1, E46_93.2.2.1, cShG, show ¬ (1 : Int32) = 0 by decide]
          have hst : sstep (c, ws, cm, false, st) (T i) = some (c, (if cm = true then 112 else 12) :: ws, false, false, true) := by
            simp only [sstep, if_neg cA]
            rw [if_pos ⟨Or.inl c12, by omega⟩, if_pos c12]
          have hbr : rk (if cm = true then 112 else 12) = 0 := by cases cm <;> decide
          have hop : opn (if cm = true then 112 else 12) = 1 := by cases cm <;> decide
          have hde : decide ((if cm = true then 112 else 12) = 112) = cm := by cases cm <;> decide
          generalize (if cm = true then 112 else 12) = br at hst hbr hop hde
          have y1 := SR_one hst
          have hle : i + 1 ≤ cn := hend y1
          refine h2 ho5 (d + 3) (by omega) I1 A1 (i + 1) c (br :: ws) false true _ (RPc_S a1 s1) r1 (by rw [cnt, a3, hop]; omega) (by rw [List.length_cons]; omega) hle (by show rk br < 1; omega) (fun _ => ⟨rfl, rfl⟩) (fun z => by cases z) (fun I2 A2 i2 c2 e p cm2 st2 b1 b2 b3 b4 b5 b6 b7 b8 b9 => ?_) (fun I2 A2 f s' b1 b2 b3 b4 => ?_)
          · have hle2 : i2 ≤ cn := hend (SR_trans y1 b3)
            have s2 := pS_trans s1 b1
            have hp2 := RPc_S a1 s2
            obtain ⟨z1, z2⟩ := lay_app (l := 1) (ws := br :: ws) (by show rk br < 1; omega) p b5
            simp (disch := first | assumption | exact mnl_i | exact mnl_r | exact mnl_n | exact mnl_0 | omega) only [↓reduceIte, tolN, tolS, E46_93.2.2.2.1, E46_93.2.2.2.2.1, E46_93.2.2.2.2.2.1, cShG, cShP]
            by_cases c13 : T i2 = 13
            · have e13 : (13 : Int32) = nI (T i2) := by rw [c13]; rfl
              rw [e13]
              refine S41_y hp2 b2 (by have := hcn.1; omega) _ _ (fun I3 A3 s3 r3 => ?_)
              have g4 := r3.2.2.1
              simp (disch := first | assumption | exact mnl_i | exact mnl_r | exact mnl_n | exact mnl_0 | omega) only [↓reduceIte, tolN, tolS, E46_93.2.2.2.2.2.2.1, E46_93.2.2.2.2.2.2.2.1, E46_93.2.2.2.2.2.2.2.2.1, E46_93.2.2.2.2.2.2.2.2.2.1, E46_93.2.2.2.2.2.2.2.2.2.2.1, E46_93.2.2.2.2.2.2.2.2.2.2.2.1, E46_93.2.2.2.2.2.2.2.2.2.2.2.2, E46_121, cShG, cShP, g4, q_sub, Nat.add_sub_cancel]
              refine hok _ A3 (i2 + 1) e st2 (pS_trans (pS_trans s2 s3) pS_o) (ROK_o hk r3) ?_ b6 (by omega)
              have hst2 : sstep (c2, p ++ br :: ws, cm2, true, st2) (T i2) = some (c ++ e ++ layc 7 ws, layr 7 ws, cm, true, st2) := by
                simp only [sstep, if_pos c13, z1, z2, hde, b4]
              exact SR_trans (SR_trans y1 b3) (SR_one hst2)
            · refine S41_n hp2 b2 (by have := hcn.1; omega) ?_ (due := 13) (by decide) c13 _ _ (fun I3 A3 s3 r3 => ?_)
              · have hsz := SR_sz (SR_trans y1 b3)
                rw [b4]
                simp only [szS, List.length_append, List.length_cons] at hsz ⊢
                have := hcn.1
                omega
              · simp (disch := first | assumption | exact mnl_i | exact mnl_r | exact mnl_n | exact mnl_0 | omega) only [↓reduceIte, tolN, tolS, E46_93.2.2.2.2.2.2.1, E46_93.2.2.2.2.2.2.2.1, E46_93.2.2.2.2.2.2.2.2.1, E46_93.2.2.2.2.2.2.2.2.2.1, E46_93.2.2.2.2.2.2.2.2.2.2.1, E46_93.2.2.2.2.2.2.2.2.2.2.2.1, E46_93.2.2.2.2.2.2.2.2.2.2.2.2, E46_121, cShG, cShP]
                refine hf _ A3 i2 _ (pS_trans (pS_trans s2 s3) pS_o) (RFL_o hk r3) (SR_trans y1 b3) ⟨?_, ?_⟩
                · simp only [sstep, if_neg c13, if_pos (sgn_fol b7)]
                · rintro ⟨_, _, z⟩
                  rw [show layr 1 (p ++ br :: ws) = br :: ws from z2] at z
                  cases z
          · simp (disch := first | assumption | exact mnl_i | exact mnl_r | exact mnl_n | exact mnl_0 | omega) only [↓reduceIte, tolN, tolS, E46_93.2.2.2.1, E46_93.2.2.2.2.1, E46_93.2.2.2.2.2.1, cShG, cShP]
            refine S41_F hk b2 (due := 13) (by decide) (by decide) _ _ (fun I3 A3 s3 r3 => ?_)
            simp (disch := first | assumption | exact mnl_i | exact mnl_r | exact mnl_n | exact mnl_0 | omega) only [↓reduceIte, tolN, tolS, E46_93.2.2.2.2.2.2.1, E46_93.2.2.2.2.2.2.2.1, E46_93.2.2.2.2.2.2.2.2.1, E46_93.2.2.2.2.2.2.2.2.2.1, E46_93.2.2.2.2.2.2.2.2.2.2.1, E46_93.2.2.2.2.2.2.2.2.2.2.2.1, E46_93.2.2.2.2.2.2.2.2.2.2.2.2, E46_121, cShG, cShP]
            exact hf _ A3 f s' (pS_trans (pS_trans (pS_trans s1 b1) s3) pS_o) (RFL_o hk r3) (SR_trans y1 b3) b4
        · simp (disch := first | assumption | exact mnl_i | exact mnl_r | exact mnl_n | exact mnl_0 | omega) only [↓reduceIte, tolS, E46_0, E46_9, E46_35, E46_77, E46_86.1, E46_86.2.1, B46, cShG, g2, q_lt, q_gt, q_eq, cB, cC, c16, c12]
          refine S47_n a1 a2 hi5 hc1 ho5 (by omega) _ _ (fun I1 A1 s1 r1 => ?_)
          simp (disch := first | assumption | exact mnl_i | exact mnl_r | exact mnl_n | exact mnl_0 | omega) only [↓reduceIte, tolS, E46_86.2.2, E46_121, cShG]
          exact hf I1 A1 i _ s1 r1 SR_refl (bad_nb cA (fun z => by rw [a3] at z; omega))
      · simp (disch := first | assumption | exact mnl_i | exact mnl_r | exact mnl_n | exact mnl_0 | omega) only [↓reduceIte, tolS, E46_0, E46_9, E46_35, E46_77, E46_117.1, E46_117.2, B46, cShG, g2, q_lt, q_gt, q_eq, cB, cC, c16, c12]
        refine S40_new a1 a2.1 a2.2.2.2.1 a2.2.2.2.2.1 hc1 hi5 _ _ (fun I1 q1 q2 => ?_)
        simp (disch := first | assumption | exact mnl_i | exact mnl_r | exact mnl_n | exact mnl_0 | omega) only [↓reduceIte, tolN, E46_121]
        refine hf I1 A i _ (pS_55 q1) q2 SR_refl (bad_nb cA ?_)
        rintro ⟨z | z | ⟨z, z2⟩, _⟩
        · exact c12 z
        · exact c16 z
        · exact a8 z2 z
theorem X45 {o K : Nat} (hk : k < 6) (ho : o ≤ 5) (hK : 8 ≤ K) (h1 : o < 5 → SPx T B cn n k V L 45 [] (o + 1) 3 4 true K) (h2 : SPx T B cn n k V L 42 [.int (nI 2)] o 5 5 false K) : SPx T B cn n k V L 45 [] o 3 4 true (K + 1) := by
  intro D hD I A i c ws cm st P a1 a2 a3 a4 a5 a6 a7 a8 hok hf
  obtain ⟨d, rfl⟩ : ∃ d, D = (d + 8) + 1 := ⟨D - 9, by omega⟩
  obtain ⟨rfl, rfl⟩ := a7 rfl
  have hv := a1.1
  have hcn := a1.2.2.2.2.2
  have ht1 := (c23 hk).1
  have g2 := a2.2.1
  have hT := hcn.2.2.2.1 i
  have hT2 : T i < 2 ^ 31 := by omega
  have hi5 : i ≤ 500 := by have := hcn.1; omega
  have hc1 : c.length ≤ 160 := by have := hcn.1; omega
  have hend := fun {j : Nat} {s1 : SYS} (b3 : SR T i (c, ws, false, false, true) j s1) => SR_end (fun j hj => (hcn.2.2.1 j hj).1) b3 a5
  by_cases c11 : T i = 11
  · have cA : ¬ (T i ≤ 5 ∨ 100 ≤ T i) := by omega
    by_cases ho5 : o < 5
    · simp (disch := first | assumption | exact mnl_i | exact mnl_r | exact mnl_n | exact mnl_0 | omega) only [↓reduceIte, tolS, E45_0, E45_9.1, E45_9.2.1, B45, cShG, g2, q_eq, c11]
      refine S47_y a1 a2 hi5 ho5 _ _ (fun I1 A1 s1 r1 => ?_)
      simp (disch := first | assumption | exact mnl_i | exact mnl_r | exact mnl_n | exact mnl_0 | omega) only [↓reduceIte, tolS, E45_9.2.2, E45_16.1, E45_16.2.1, cShG, show ¬ (1 : Int32) = 0 by decide]
      have hst : sstep (c, ws, false, false, true) (T i) = some (c, 11 :: ws, false, false, true) := by
        simp only [sstep, if_neg cA]
        rw [if_pos ⟨Or.inr (Or.inr ⟨c11, trivial⟩), by omega⟩, if_neg (by omega), if_neg (by omega)]
      have y1 := SR_one hst
      have hle : i + 1 ≤ cn := hend y1
      refine h1 ho5 (d + 8) (by omega) I1 A1 (i + 1) c (11 :: ws) false true _ (RPc_S a1 s1) r1 (by rw [cnt, a3]; show 1 + o = o + 1; omega) (by rw [List.length_cons]; omega) hle (by show 3 < 4; omega) (fun _ => ⟨rfl, rfl⟩) (fun z => by cases z) (fun I2 A2 i2 c2 e p cm2 st2 b1 b2 b3 b4 b5 b6 b7 b8 b9 => ?_) (fun I2 A2 f s' b1 b2 b3 b4 => ?_)
      · have g4 := b2.2.2.1
        have hle2 : i2 ≤ cn := hend (SR_trans y1 b3)
        have hsz := SR_sz (SR_trans y1 b3)
        have hl : (c ++ e).length < 160 := by
          rw [b4]
          simp only [szS, List.length_append, List.length_cons] at hsz ⊢
          have := hcn.1
          omega
        simp (disch := first | assumption | exact mnl_i | exact mnl_r | exact mnl_n | exact mnl_0 | omega) only [↓reduceIte, tolN, tolS, E45_16.2.2.1, E45_16.2.2.2.1, E45_16.2.2.2.2.1, E45_16.2.2.2.2.2.1, E45_16.2.2.2.2.2.2.1, E45_16.2.2.2.2.2.2.2.1, E45_16.2.2.2.2.2.2.2.2.1, E45_16.2.2.2.2.2.2.2.2.2.1, E45_16.2.2.2.2.2.2.2.2.2.2.1, E45_16.2.2.2.2.2.2.2.2.2.2.2, cShG, cShP, g4, q_sub, Nat.add_sub_cancel, hv, kText]
        refine S31_ok hk (ROK_o hk b2) hl _ 11 _ (fun I3 A3 s3 r3 => ?_)
        simp (disch := first | assumption | exact mnl_i | exact mnl_r | exact mnl_n | exact mnl_0 | omega) only [↓reduceIte, tolN, tolS, E45_39, cShG]
        refine hok I3 A3 i2 c2 (e ++ [11]) (p ++ [11]) cm2 st2 (pS_trans (pS_trans (pS_trans s1 b1) pS_o) s3) (by rw [← List.append_assoc]; exact r3) ?_ (by rw [← List.append_assoc, b4, List.append_assoc]) (fun x hx => ?_) (wfx_un b6 (Or.inl rfl)) b7 (fun z => by cases z) (by omega)
        · have y3 := SR_trans y1 b3
          rw [List.append_assoc, List.cons_append, List.nil_append]
          exact y3
        · rcases List.mem_append.mp hx with h | h
          · exact b5 x h
          · rw [List.mem_singleton.mp h]; decide
      · simp (disch := first | assumption | exact mnl_i | exact mnl_r | exact mnl_n | exact mnl_0 | omega) only [↓reduceIte, tolN, tolS, E45_16.2.2.1, E45_16.2.2.2.1, E45_16.2.2.2.2.1, E45_16.2.2.2.2.2.1, E45_16.2.2.2.2.2.2.1, E45_16.2.2.2.2.2.2.2.1, E45_16.2.2.2.2.2.2.2.2.1, E45_16.2.2.2.2.2.2.2.2.2.1, E45_16.2.2.2.2.2.2.2.2.2.2.1, E45_16.2.2.2.2.2.2.2.2.2.2.2, cShG, cShP, hv, kText]
        refine S31_F hk (RFL_o hk b2) _ _ _ (fun I3 A3 s3 r3 => ?_)
        simp (disch := first | assumption | exact mnl_i | exact mnl_r | exact mnl_n | exact mnl_0 | omega) only [↓reduceIte, tolN, tolS, E45_39, cShG]
        exact hf I3 A3 f s' (pS_trans (pS_trans (pS_trans s1 b1) pS_o) s3) r3 (SR_trans y1 b3) b4
    · simp (disch := first | assumption | exact mnl_i | exact mnl_r | exact mnl_n | exact mnl_0 | omega) only [↓reduceIte, tolS, E45_0, E45_9.1, E45_9.2.1, B45, cShG, g2, q_eq, c11]
      refine S47_n a1 a2 hi5 hc1 ho5 (by omega) _ _ (fun I1 A1 s1 r1 => ?_)
      simp (disch := first | assumption | exact mnl_i | exact mnl_r | exact mnl_n | exact mnl_0 | omega) only [↓reduceIte, tolS, E45_9.2.2, E45_39, cShG]
      exact hf I1 A1 i _ s1 r1 SR_refl (bad_nb cA (fun z => by rw [a3] at z; omega))
  · simp (disch := first | assumption | exact mnl_i | exact mnl_r | exact mnl_n | exact mnl_0 | omega) only [↓reduceIte, tolS, E45_0, E45_40.1, E45_40.2.1, E45_40.2.2.1, B45, cShG, g2, q_eq, c11]
    refine h2 (d + 8) (by omega) I A i c ws false true _ a1 a2 a3 a4 a5 (by omega) (fun z => by cases z) (fun _ _ => c11) (fun I1 A1 i1 c1 e p cm1 st1 b1 b2 b3 b4 b5 b6 b7 b8 b9 => ?_) (fun I1 A1 f s' b1 b2 b3 b4 => ?_)
    · have hle : i1 ≤ cn := hend b3
      have h1T := hcn.2.2.2.1 i1
      have h1T2 : T i1 < 2 ^ 31 := by omega
      have h12 := b2.2.1
      rw [b8 rfl] at b3
      by_cases cq : T i1 = 18 ∨ T i1 = 19
      · have hrk : rk (T i1) = 4 := by have := rk_cases (T i1); omega
        have hi51 : i1 ≤ 500 := by have := hcn.1; omega
        have hst : sstep (c1, p ++ ws, false, true, st1) (T i1) = some (c ++ e, T i1 :: ws, true, false, false) := by
          obtain ⟨z1, z2⟩ := lay_app (l := 4) a6 p (fun x hx => by have := b5 x hx; omega)
          have h13 : ¬ T i1 = 13 := by omega
          have hsg : ¬ sgn false (T i1) = 0 := by
            unfold sgn
            rw [if_neg (by omega), if_pos ⟨cq, rfl⟩]
            omega
          simp only [sstep, if_neg h13, if_neg hsg, hrk, z1, z2, b4]
          rfl
        have y2 := SR_trans b3 (SR_one hst)
        have hle1 : i1 + 1 ≤ cn := hend y2
        have hop : opn (T i1) = 0 := by unfold opn; rw [if_neg (by omega)]
        have go : mFr (d + 8) 45 63 [some (.ref 55), none] [] (mkH cSh I1 V L A1) P := by
          simp (disch := first | assumption | exact mnl_i | exact mnl_r | exact mnl_n | exact mnl_0 | omega) only [↓reduceIte, tolN, tolS, E45_63.1, E45_63.2.1, E45_63.2.2.1, E45_63.2.2.2.1, E45_63.2.2.2.2.1, cShG, h12]
          refine S39 (RPc_S a1 b1) b2.1 hi51 _ _ (fun I2 q1 q2 q3 q4 q5 => ?_)
          simp (disch := first | assumption | exact mnl_i | exact mnl_r | exact mnl_n | exact mnl_0 | omega) only [↓reduceIte, tolN, tolS, E45_63.2.2.2.2.2.1, E45_63.2.2.2.2.2.2.1, E45_63.2.2.2.2.2.2.2.1, cShG]
          have s2 : pS k I A I2 A1 := pS_trans b1 (pS_55 q1)
          have hsz := SR_sz b3
          refine h2 (d + 8) (by omega) I2 A1 (i1 + 1) (c ++ e) (T i1 :: ws) true false _ (RPc_S a1 s2) ⟨q2, q3, by rw [q4]; exact b2.2.2.1, by rw [q5]; exact b2.2.2.2.1, by rw [q1 _ _ (by omega)]; exact b2.2.2.2.2.1, b2.2.2.2.2.2⟩ (by rw [cnt, hop, a3]; omega) ?_ hle1 (by show rk (T i1) < 5; omega) (fun z => by cases z) (fun _ z => by cases z) (fun I3 A3 i3 c3 e3 p3 cm3 st3 d1 d2 d3 d4 d5 d6 d7 d8 d9 => ?_) (fun I3 A3 f s' d1 d2 d3 d4 => ?_)
          · rw [b4]
            simp only [szS, List.length_append, List.length_cons] at hsz ⊢
            omega
          · have hle3 : i3 ≤ cn := hend (SR_trans y2 d3)
            have hsz3 := SR_sz (SR_trans y2 d3)
            have hl3 : (c ++ e ++ e3).length < 160 := by
              rw [d4]
              simp only [szS, List.length_append, List.length_cons] at hsz3 ⊢
              have := hcn.1
              omega
            simp (disch := first | assumption | exact mnl_i | exact mnl_r | exact mnl_n | exact mnl_0 | omega) only [↓reduceIte, tolN, tolS, E45_63.2.2.2.2.2.2.2.2.1, E45_63.2.2.2.2.2.2.2.2.2.1, E45_63.2.2.2.2.2.2.2.2.2.2.1, E45_63.2.2.2.2.2.2.2.2.2.2.2, cShG, hv, kText]
            refine S31_ok hk d2 hl3 _ (T i1) _ (fun I4 A4 s4 r4 => ?_)
            simp (disch := first | assumption | exact mnl_i | exact mnl_r | exact mnl_n | exact mnl_0 | omega) only [↓reduceIte, tolN, tolS, E45_85, cShG]
            have eq1 : c ++ e ++ e3 ++ [T i1] = c ++ (e ++ e3 ++ [T i1]) := by simp only [List.append_assoc]
            rw [eq1] at r4
            refine hok I4 A4 i3 c3 (e ++ e3 ++ [T i1]) (p3 ++ [T i1]) cm3 st3 (pS_trans (pS_trans s2 d1) s4) r4 ?_ ?_ ?_ (wfx_bin b6 d6 (by omega)) (fun w1 w2 w3 => ?_) (fun z => by cases z) (by omega)
            · have := SR_trans y2 d3
              rw [List.append_assoc, List.cons_append, List.nil_append]
              exact this
            · rw [← eq1, d4, List.append_assoc]
            · intro x hx
              rcases List.mem_append.mp hx with h | h
              · have := d5 x h; omega
              · rw [List.mem_singleton.mp h]; omega
            · by_cases z5 : 5 ≤ rk (T i3)
              · exact d7 z5 w2 w3
              · have := rk_cases (T i3)
                exact ⟨by omega, d8 rfl⟩
          · simp (disch := first | assumption | exact mnl_i | exact mnl_r | exact mnl_n | exact mnl_0 | omega) only [↓reduceIte, tolN, tolS, E45_63.2.2.2.2.2.2.2.2.1, E45_63.2.2.2.2.2.2.2.2.2.1, E45_63.2.2.2.2.2.2.2.2.2.2.1, E45_63.2.2.2.2.2.2.2.2.2.2.2, cShG, hv, kText]
            refine S31_F hk d2 _ _ _ (fun I4 A4 s4 r4 => ?_)
            simp (disch := first | assumption | exact mnl_i | exact mnl_r | exact mnl_n | exact mnl_0 | omega) only [↓reduceIte, tolN, tolS, E45_85, cShG]
            exact hf I4 A4 f s' (pS_trans (pS_trans s2 d1) s4) r4 (SR_trans y2 d3) d4
        by_cases c18 : T i1 = 18
        · simp (disch := first | assumption | exact mnl_i | exact mnl_r | exact mnl_n | exact mnl_0 | omega) only [↓reduceIte, tolN, tolS, E45_40.2.2.2.1, E45_40.2.2.2.2.1, E45_40.2.2.2.2.2.1, E45_40.2.2.2.2.2.2, cShG, h12, q_eq, c18]
          exact go
        · have c19 : T i1 = 19 := by omega
          simp (disch := first | assumption | exact mnl_i | exact mnl_r | exact mnl_n | exact mnl_0 | omega) only [↓reduceIte, tolN, tolS, E45_40.2.2.2.1, E45_40.2.2.2.2.1, E45_40.2.2.2.2.2.1, E45_40.2.2.2.2.2.2, E45_54, cShG, h12, q_eq, c18, c19]
          exact go
      · have c18 : ¬ T i1 = 18 := by omega
        have c19 : ¬ T i1 = 19 := by omega
        simp (disch := first | assumption | exact mnl_i | exact mnl_r | exact mnl_n | exact mnl_0 | omega) only [↓reduceIte, tolN, tolS, E45_40.2.2.2.1, E45_40.2.2.2.2.1, E45_40.2.2.2.2.2.1, E45_40.2.2.2.2.2.2, E45_54, E45_85, cShG, h12, q_eq, c18, c19]
        refine hok I1 A1 i1 c1 e p false st1 b1 b2 b3 b4 (fun x hx => by have := b5 x hx; omega) b6 (fun w1 w2 w3 => ?_) (fun z => by cases z) b9
        have := rk_cases (T i1)
        rw [b8 rfl] at b7
        exact b7 (by omega) w2 w3
    · have h3 : I1 55 3 = 21 := b2.1
      simp (disch := first | assumption | exact mnl_i | exact mnl_r | exact mnl_n | exact mnl_0 | omega) only [↓reduceIte, tolN, E45_40.2.2.2.1, E45_40.2.2.2.2.1, E45_40.2.2.2.2.2.1, E45_40.2.2.2.2.2.2, E45_54, E45_85, cShG, h3, show ¬ (21 : Int32) = 18 by decide, show ¬ (21 : Int32) = 19 by decide]
      exact hf I1 A1 f s' b1 b2 b3 b4
theorem SPx_mono {kk o lo hb K K' : Nat} {as : List Value} {nn : Bool} (h : SPx T B cn n k V L kk as o lo hb nn K) (hK : K ≤ K') : SPx T B cn n k V L kk as o lo hb nn K' := fun D hD => h D (by omega)
theorem SPs_mono {o K K' : Nat} (h : SPs T B cn n k V L o K) (hK : K ≤ K') : SPs T B cn n k V L o K' := fun D hD => h D (by omega)
theorem FPx_mono {kk K K' : Nat} {as : List Value} (h : FPx k V L kk as K) (hK : K ≤ K') : FPx k V L kk as K' := fun D hD => h D (by omega)
theorem X_all (hk : k < 6) : ∀ (m o : Nat), o + m = 5 → SPs T B cn n k V L o (20 + 10 * m) ∧ SPx T B cn n k V L 45 [] o 3 4 true (25 + 10 * m) ∧ SPx T B cn n k V L 42 [.int (nI 0)] o 1 1 true (29 + 10 * m) := by
  intro m
  induction m with
  | zero =>
    intro o ho
    have hS : SPs T B cn n k V L o 20 := X46 hk (by omega) (K := 19) (by omega) (fun z => by omega) (fun z => by omega)
    have hT := X42 (lv := 3) (lo := 6) (hb2 := 7) hk (by omega) (Or.inr (Or.inr (Or.inr ⟨rfl, rfl, rfl⟩))) (by omega) (by omega) (X44_3 hS) (FPx_mono (F44_3 hk (F46 hk)) (by omega))
    have hU := X42 (lv := 2) (lo := 5) (hb2 := 6) hk (by omega) (Or.inr (Or.inr (Or.inl ⟨rfl, rfl, rfl⟩))) (by omega) (by omega) (X44_2 hT) (FPx_mono (F44_2 hk (F42_3 hk)) (by omega))
    have hN := X45 hk (by omega) (by omega) (fun z => by omega) hU
    have hA := X42 (lv := 1) (lo := 2) (hb2 := 4) hk (by omega) (Or.inr (Or.inl ⟨rfl, rfl, rfl⟩)) (by omega) (by omega) (X44_1 hN) (FPx_mono (F44_1 hk (F45 hk (F42_2 hk))) (by omega))
    have hO := X42 (lv := 0) (lo := 1) (hb2 := 2) hk (by omega) (Or.inl ⟨rfl, rfl, rfl⟩) (by omega) (by omega) (X44_0 hA) (FPx_mono (F44_0 hk (F42_1 hk)) (by omega))
    exact ⟨hS, hN, hO⟩
  | succ m ih =>
    intro o ho
    obtain ⟨i1, i2, i3⟩ := ih (o + 1) (by omega)
    have hS : SPs T B cn n k V L o (20 + 10 * (m + 1)) := SPs_mono (X46 hk (by omega) (K := 29 + 10 * m) (by omega) (fun z => SPs_mono i1 (by omega)) (fun z => i3)) (by omega)
    have hT := X42 (lv := 3) (lo := 6) (hb2 := 7) hk (by omega) (Or.inr (Or.inr (Or.inr ⟨rfl, rfl, rfl⟩))) (by omega) (by omega) (X44_3 hS) (FPx_mono (F44_3 hk (F46 hk)) (by omega))
    have hU := X42 (lv := 2) (lo := 5) (hb2 := 6) hk (by omega) (Or.inr (Or.inr (Or.inl ⟨rfl, rfl, rfl⟩))) (by omega) (by omega) (X44_2 hT) (FPx_mono (F44_2 hk (F42_3 hk)) (by omega))
    have hN := X45 hk (by omega) (by omega) (fun z => SPx_mono i2 (by omega)) hU
    have hA := X42 (lv := 1) (lo := 2) (hb2 := 4) hk (by omega) (Or.inr (Or.inl ⟨rfl, rfl, rfl⟩)) (by omega) (by omega) (X44_1 hN) (FPx_mono (F44_1 hk (F45 hk (F42_2 hk))) (by omega))
    have hO := X42 (lv := 0) (lo := 1) (hb2 := 2) hk (by omega) (Or.inl ⟨rfl, rfl, rfl⟩) (by omega) (by omega) (X44_0 hA) (FPx_mono (F44_0 hk (F42_1 hk)) (by omega))
    exact ⟨hS, SPx_mono hN (by omega), SPx_mono hO (by omega)⟩
end PR
