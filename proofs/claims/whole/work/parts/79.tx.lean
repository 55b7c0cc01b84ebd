/-! the class reads a text -/
def TXok (T : Nat → Nat) (c1 c2 c3 : List Nat) : Prop := ∃ i1 i2 i3, PART T 0 0 [] i1 c1 ∧ PART T 1 i1 c1 i2 c2 ∧ PART T 2 i2 c2 i3 c3 ∧ T i3 = 20
def TXno (T : Nat → Nat) (f : Nat) : Prop := PFAIL T 0 0 [] f ∨ ∃ i1 c1, PART T 0 0 [] i1 c1 ∧ (PFAIL T 1 i1 c1 f ∨ ∃ i2 c2, PART T 1 i1 c1 i2 c2 ∧ (PFAIL T 2 i2 c2 f ∨ ∃ i3 c3, PART T 2 i2 c2 i3 c3 ∧ T i3 ≠ 20 ∧ f = i3))
def rdS (k : Nat) (I A I' A' : TI) : Prop := (∀ b g, b ≠ 55 → b ≠ 56 → (b ≠ 23 + 4 * k ∨ g ≠ 4) → I' b g = I b g) ∧ ∀ b, b ≠ 57 → b ≠ 58 → b ≠ 24 + 4 * k → b ≠ 26 + 4 * k → A' b = A b
theorem rdS_q {k : Nat} {I A I1 A1 I2 A2 : TI} (h : rdS k I A I1 A1) (g : qS k I1 A1 I2 A2) : rdS k I A I2 A2 := ⟨fun b f x y z => by rw [g.1 b f x z, h.1 b f x y z], fun b x y z w => by rw [g.2 b z w, h.2 b x y z w]⟩
section TX
variable {n k : Nat} {b : Nat → Nat} {V : TV} {L : Nat → Int64}
theorem S30 {I A : TI} (hk : k < 6) (d : Nat) (P : MP) : mRun (d + 1) 30 [.ref (23 + 4 * k)] (mkH cSh I V L A) P = P none (mkH cSh (up2 I (23 + 4 * k) 4 0) V L A) := by
  obtain ⟨t1, t2, t3, t4⟩ := c23 hk
  simp (disch := first | assumption | exact mnl_i | exact mnl_r | exact mnl_n | exact mnl_0 | omega) only [↓reduceIte, E30_0, B30, kText]
theorem S38 {I A : TI} (hk : k < 6) (hT : TP I A n b) (d : Nat) (P : MP)
    (hok : ∀ I' A' c1 c2 c3, rdS k I A I' A' → TXok (lexT n b) c1 c2 c3 → c3.length ≤ 160 → (∀ j, j < c3.length → A' (24 + 4 * k) j = nI (c3.getD j 0)) → A' (26 + 4 * k) 0 = nI c1.length → A' (26 + 4 * k) 1 = nI c2.length → A' (26 + 4 * k) 2 = nI c3.length → P (some (.int (-1))) (mkH cSh I' (up2 V 55 1 (23 + 4 * k)) L A'))
    (hf : ∀ I' A' f, rdS k I A I' A' → TXno (lexT n b) f → P (some (.int (nI (lexB n b f)))) (mkH cSh I' (up2 V 55 1 (23 + 4 * k)) L A')) : mRun (d + 81) 38 [.ref 55, .ref (23 + 4 * k)] (mkH cSh I V L A) P := by
  have ht1 := (c23 hk).1
  have hml : mnl (some (Value.ref (23 + 4 * k))) = true := rfl
  simp (disch := first | assumption | exact mnl_i | exact mnl_r | exact mnl_n | exact mnl_0 | omega) only [↓reduceIte, tolS, E38_0.1, E38_0.2.1, E38_0.2.2.1, B38, cShG]
  refine S51 hT _ _ (fun I1 A1 cn s1 k1 k2 k3 => ?_)
  simp (disch := first | assumption | exact mnl_i | exact mnl_r | exact mnl_n | exact mnl_0 | omega) only [↓reduceIte, tolN, tolS, E38_0.2.2.2.1, E38_0.2.2.2.2.1, E38_0.2.2.2.2.2.1, E38_0.2.2.2.2.2.2.1, E38_0.2.2.2.2.2.2.2.1, E38_0.2.2.2.2.2.2.2.2.1, E38_0.2.2.2.2.2.2.2.2.2.1, cShG, cShP, up2_s, kText, S30 hk]
  simp (disch := first | assumption | exact mnl_i | exact mnl_r | exact mnl_n | exact mnl_0 | omega) only [↓reduceIte, tolN, tolS, E38_0.2.2.2.2.2.2.2.2.2.2.1, E38_0.2.2.2.2.2.2.2.2.2.2.2.1, E38_0.2.2.2.2.2.2.2.2.2.2.2.2.1, E38_0.2.2.2.2.2.2.2.2.2.2.2.2.2.1, E38_0.2.2.2.2.2.2.2.2.2.2.2.2.2.2.1, E38_0.2.2.2.2.2.2.2.2.2.2.2.2.2.2.2.1, E38_0.2.2.2.2.2.2.2.2.2.2.2.2.2.2.2.2.1, E38_0.2.2.2.2.2.2.2.2.2.2.2.2.2.2.2.2.2.1, cShG, cShP]
  generalize hV : up2 V 55 1 (23 + 4 * k) = V1 at *
  have hv1 : V1 55 1 = 23 + 4 * k := by rw [← hV, up2_s]
  have hs : (∀ I2 : TI, (∀ b' g, b' ≠ 55 → (b' ≠ 23 + 4 * k ∨ g ≠ 4) → I2 b' g = I1 b' g) → RPc (lexT n b) (lexB n b) cn n k V1 I2 A1) := fun I2 h => ⟨hv1, by rw [h 56 2 (by omega) (by omega)]; exact k1, k2, by rw [h 2 1 (by omega) (by omega), s1.1 2 1 (by omega)]; exact hT.1, hk, k3⟩
  refine Eq.mpr (S49 (i := 0) (hs _ (fun b' g h55 hg => ?_)) (by omega) _ _) ?_
  · rw [up2_a h55]
    rcases hg with z | z
    · exact up2_a z
    · exact up2_f z
  simp (disch := first | assumption | exact mnl_i | exact mnl_r | exact mnl_n | exact mnl_0 | omega) only [↓reduceIte, tolN, tolS, E38_0.2.2.2.2.2.2.2.2.2.2.2.2.2.2.2.2.2.2.1, E38_0.2.2.2.2.2.2.2.2.2.2.2.2.2.2.2.2.2.2.2.1, E38_0.2.2.2.2.2.2.2.2.2.2.2.2.2.2.2.2.2.2.2.2.1, E38_0.2.2.2.2.2.2.2.2.2.2.2.2.2.2.2.2.2.2.2.2.2.1, E38_0.2.2.2.2.2.2.2.2.2.2.2.2.2.2.2.2.2.2.2.2.2.2.1, E38_0.2.2.2.2.2.2.2.2.2.2.2.2.2.2.2.2.2.2.2.2.2.2.2.1, E38_0.2.2.2.2.2.2.2.2.2.2.2.2.2.2.2.2.2.2.2.2.2.2.2.2.1, E38_0.2.2.2.2.2.2.2.2.2.2.2.2.2.2.2.2.2.2.2.2.2.2.2.2.2.1, E38_0.2.2.2.2.2.2.2.2.2.2.2.2.2.2.2.2.2.2.2.2.2.2.2.2.2.2, cShG, cShP]
  have hrd : ∀ (I2 A2 : TI), qS k I1 A1 I2 A2 → rdS k I A I2 A2 := fun I2 A2 h => ⟨fun b' g x y z => by rw [h.1 b' g x z, s1.1 b' g (Or.inl y)], fun b' x y z w => by rw [h.2 b' z w, s1.2 b' x y]⟩
  have hq0 : ∃ I2 : TI, I2 = up2 (up2 (up2 (up2 (up2 I1 (23 + 4 * k) 4 0) 55 2 0) 55 3 (nI (lexT n b 0))) 55 4 0) 55 5 (-1) ∧ qS k I1 A1 I2 A1 ∧ ROK (lexT n b) k I2 A1 0 [] 0 := by
    refine ⟨_, rfl, ⟨fun b' g h55 hg => ?_, fun _ _ _ => rfl⟩, ?_, ?_, ?_, up2_s, ?_, fun j hj => absurd hj (Nat.not_lt_zero _)⟩
    · rw [up2_a h55, up2_a h55, up2_a h55, up2_a h55]
      rcases hg with z | z
      · exact up2_a z
      · exact up2_f z
    · rw [up2_f (by decide), up2_f (by decide), up2_f (by decide), up2_s]; rfl
    · rw [up2_f (by decide), up2_f (by decide), up2_s]
    · rw [up2_f (by decide), up2_s]; rfl
    · rw [up2_a (by omega), up2_a (by omega), up2_a (by omega), up2_a (by omega), up2_s]; rfl
  obtain ⟨I2, e2, q2, r2⟩ := hq0
  rw [← e2]
  have hp2 : RPc (lexT n b) (lexB n b) cn n k V1 I2 A1 := hs I2 (fun b' g h55 hg => q2.1 b' g h55 hg)
  have head : ∀ (p : Nat) (h : MH), p < 3 → mFr (d + 80) 38 48 [some (.ref 55), some (.ref (23 + 4 * k)), some (.int (nI p))] [] h P = mFr (d + 80) 38 53 [some (.ref 55), some (.ref (23 + 4 * k)), some (.int (nI p))] [] h P := by
    intro p h hp
    simp (disch := first | assumption | exact mnl_i | exact mnl_r | exact mnl_n | exact mnl_0 | omega) only [↓reduceIte, E38_48, q_lt, hp]
  have Fend : ∀ (m p : Nat) (I3 A3 : TI) (f : Nat), p + m = 3 → qS k I1 A1 I3 A3 → RFL k I3 (lexB n b f) → TXno (lexT n b) f → mFr (d + 80) 38 48 [some (.ref 55), some (.ref (23 + 4 * k)), some (.int (nI p))] [] (mkH cSh I3 V1 L A3) P := by
    intro m
    induction m with
    | zero =>
      intro p I3 A3 f hp q3 r3 hx
      have hp : p = 3 := by omega
      subst hp
      simp (disch := first | assumption | exact mnl_i | exact mnl_r | exact mnl_n | exact mnl_0 | omega) only [↓reduceIte, tolN, E38_48, E38_86.1, E38_86.2.1, E38_86.2.2.1, cShG, show ¬ nI 3 < 3 by decide]
      refine S41_F hk r3 (due := 20) (by decide) (by decide) _ _ (fun I4 A4 s4 r4 => ?_)
      have g5 := r4.2.1
      simp (disch := first | assumption | exact mnl_i | exact mnl_r | exact mnl_n | exact mnl_0 | omega) only [↓reduceIte, tolN, E38_86.2.2.2.1, E38_86.2.2.2.2.1, E38_86.2.2.2.2.2, cShG, g5]
      exact hf I4 A4 f (hrd _ _ (qS_trans q3 (qS_p s4))) hx
    | succ m ih =>
      intro p I3 A3 f hp q3 r3 hx
      rw [head p _ (by omega)]
      exact R_F hk hv1 (by omega) r3 d _ hml P (fun I4 A4 q4 r4 => ih (p + 1) I4 A4 f (by omega) (qS_trans q3 q4) r4 hx)
  refine Eq.mpr (head 0 _ (by omega)) ?_
  refine R_part (p := 0) (by omega) hp2 r2 (by simp) (by omega) d _ hml P (fun I3 A3 i3 c3 q3 r3 p3 l3 m3 x3 y3 => ?_) (fun I3 A3 f q3 r3 p3 => Fend 2 1 I3 A3 f (by omega) (qS_trans q2 q3) r3 (Or.inl p3))
  have q3' := qS_trans q2 q3
  rw [head 1 _ (by omega)]
  refine R_part (p := 1) (by omega) (RPc_Q hp2 q3) r3 l3 m3 d _ hml P (fun I4 A4 i4 c4 q4 r4 p4 l4 m4 x4 y4 => ?_) (fun I4 A4 f q4 r4 p4 => Fend 1 2 I4 A4 f (by omega) (qS_trans q3' q4) r4 (Or.inr ⟨i3, c3, p3, Or.inl p4⟩))
  have q4' := qS_trans q3' q4
  have hp4 := RPc_Q (RPc_Q hp2 q3) q4
  rw [head 2 _ (by omega)]
  refine R_part (p := 2) (by omega) hp4 r4 l4 m4 d _ hml P (fun I5 A5 i5 c5 q5 r5 p5 l5 m5 x5 y5 => ?_) (fun I5 A5 f q5 r5 p5 => Fend 0 3 I5 A5 f (by omega) (qS_trans q4' q5) r5 (Or.inr ⟨i3, c3, p3, Or.inr ⟨i4, c4, p4, Or.inl p5⟩⟩))
  have q5' := qS_trans q4' q5
  have hp5 := RPc_Q hp4 q5
  have hcn : cn ≤ 160 := k3.1
  simp (disch := first | assumption | exact mnl_i | exact mnl_r | exact mnl_n | exact mnl_0 | omega) only [↓reduceIte, tolN, E38_48, E38_86.1, E38_86.2.1, E38_86.2.2.1, cShG, show ¬ nI (2 + 1) < 3 by decide]
  by_cases c20 : lexT n b i5 = 20
  · have e20 : (20 : Int32) = nI (lexT n b i5) := by rw [c20]; rfl
    rw [e20]
    refine S41_y hp5 r5 (by omega) _ _ (fun I6 A6 s6 r6 => ?_)
    have g5 := r6.2.2.2.1
    simp (disch := first | assumption | exact mnl_i | exact mnl_r | exact mnl_n | exact mnl_0 | omega) only [↓reduceIte, tolN, E38_86.2.2.2.1, E38_86.2.2.2.2.1, E38_86.2.2.2.2.2, cShG, g5]
    have ek : ∀ p, A6 (26 + 4 * k) p = A5 (26 + 4 * k) p := fun p => by rw [s6.2 _ (by omega)]
    exact hok I6 A6 c3 c4 c5 (hrd _ _ (qS_trans q5' (qS_p s6))) ⟨i3, i4, i5, p3, p4, p5, c20⟩ (by omega) r6.2.2.2.2.2 (by rw [ek, y5 0 (by omega), y4 0 (by omega), x3]) (by rw [ek, y5 1 (by omega), x4]) (by rw [ek, x5])
  · refine S41_n hp5 r5 (by omega) (by omega) (due := 20) (by decide) c20 _ _ (fun I6 A6 s6 r6 => ?_)
    have g5 := r6.2.1
    simp (disch := first | assumption | exact mnl_i | exact mnl_r | exact mnl_n | exact mnl_0 | omega) only [↓reduceIte, tolN, E38_86.2.2.2.1, E38_86.2.2.2.2.1, E38_86.2.2.2.2.2, cShG, g5]
    exact hf I6 A6 i5 (hrd _ _ (qS_trans q5' (qS_p s6))) (Or.inr ⟨i3, c3, p3, Or.inr ⟨i4, c4, p4, Or.inr ⟨i5, c5, p5, c20, rfl⟩⟩⟩)
end TX
