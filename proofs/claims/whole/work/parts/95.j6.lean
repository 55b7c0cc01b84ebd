/-! image and back -/
section J6
variable {I I' A A' : TI} {V V' : TV} {L L' : Nat → Int64} {nt many day rl : Nat} {R : Nat → Nat → Nat} {th : Nat → Nat} {W : Nat → Nat → List Int32} {e : TE}
theorem c13j {j : Nat} (h : j < 5) : cSh[13 + 1 * j]? = some sRider := by
  match j, h with
  | 0, _ => rfl
  | 1, _ => rfl
  | 2, _ => rfl
  | 3, _ => rfl
  | 4, _ => rfl
theorem S3_i (d : Nat) (P : MP) (hP : ∀ I', (∀ b g, b ≠ 11 → ¬ (13 ≤ b ∧ b < 13 + 5) → I' b g = I b g) → (∀ j f, j < 5 → f < 6 → I' (13 + 1 * j) f = I (6 + 1 * j) f) → I' 11 1 = I 4 1 → P none (mkH cSh I' V L A)) : mRun (d + 2) 3 [.ref 11, .ref 4] (mkH cSh I V L A) P := by
  simp (disch := first | assumption | exact mnl_i | exact mnl_r | exact mnl_n | exact mnl_0 | omega) only [↓reduceIte, tolS, E3_0, B3]
  refine up_loop 5 (fun k (I1 : TI) => mFr (d + 1) 3 2 [some (.ref 11), some (.ref 4), some (.int (nI k))] [] (mkH cSh I1 V L A) P) (fun k I1 => (∀ b g, ¬ (13 ≤ b ∧ b < 13 + 5) → I1 b g = I b g) ∧ ∀ j f, j < k → f < 6 → I1 (13 + 1 * j) f = I (6 + 1 * j) f) (fun k I1 hk hi ih => ?_) (fun I1 hi => ?_) I ⟨fun _ _ _ => rfl, fun j f hj => absurd hj (Nat.not_lt_zero _)⟩
  · have ha := c13j hk
    have hb := c6j hk
    simp (disch := first | assumption | exact mnl_i | exact mnl_r | exact mnl_n | exact mnl_0 | omega) only [↓reduceIte, tolS, E3_2, E3_11.1, E3_11.2.1, E3_11.2.2.1, E3_11.2.2.2.1, E3_11.2.2.2.2.1, E3_11.2.2.2.2.2.1, E3_11.2.2.2.2.2.2.1, E3_11.2.2.2.2.2.2.2.1, E3_11.2.2.2.2.2.2.2.2.1, E3_11.2.2.2.2.2.2.2.2.2.1, cShG, cShR, nI_d, q_ll, hk, pix_nI, kRider]
    refine S9 ha hb (by omega) _ _ (fun I2 q1 q2 => ?_)
    simp (disch := first | assumption | exact mnl_i | exact mnl_r | exact mnl_n | exact mnl_0 | omega) only [↓reduceIte, tolN, tolS, E3_11.2.2.2.2.2.2.2.2.2.2.1, E3_11.2.2.2.2.2.2.2.2.2.2.2, q_add]
    refine ih I2 ⟨fun b g hb' => by rw [q1 b g (by omega)]; exact hi.1 b g hb', fun j f hj hf => ?_⟩
    by_cases c : j = k
    · rw [c, q2 f hf, hi.1 _ f (by omega)]
    · rw [q1 _ f (by omega)]; exact hi.2 j f (by omega) hf
  · have c : ¬ 5 < 5 := by omega
    simp (disch := first | assumption | exact mnl_i | exact mnl_r | exact mnl_n | exact mnl_0 | omega) only [↓reduceIte, tolS, E3_2, E3_32, cShG, cShR, cShP, nI_d, q_ll, c]
    exact hP _ (fun b g hb hs => by rw [up2_a hb]; exact hi.1 b g hs) (fun j f hj hf => by rw [up2_a (by omega)]; exact hi.2 j f hj hf) (by rw [up2_s]; exact hi.1 4 1 (by omega))
theorem S3_b (d : Nat) (P : MP) (hP : ∀ I', (∀ b g, b ≠ 4 → ¬ (6 ≤ b ∧ b < 6 + 5) → I' b g = I b g) → (∀ j f, j < 5 → f < 6 → I' (6 + 1 * j) f = I (13 + 1 * j) f) → I' 4 1 = I 11 1 → P none (mkH cSh I' V L A)) : mRun (d + 2) 3 [.ref 4, .ref 11] (mkH cSh I V L A) P := by
  simp (disch := first | assumption | exact mnl_i | exact mnl_r | exact mnl_n | exact mnl_0 | omega) only [↓reduceIte, tolS, E3_0, B3]
  refine up_loop 5 (fun k (I1 : TI) => mFr (d + 1) 3 2 [some (.ref 4), some (.ref 11), some (.int (nI k))] [] (mkH cSh I1 V L A) P) (fun k I1 => (∀ b g, ¬ (6 ≤ b ∧ b < 6 + 5) → I1 b g = I b g) ∧ ∀ j f, j < k → f < 6 → I1 (6 + 1 * j) f = I (13 + 1 * j) f) (fun k I1 hk hi ih => ?_) (fun I1 hi => ?_) I ⟨fun _ _ _ => rfl, fun j f hj => absurd hj (Nat.not_lt_zero _)⟩
  · have ha := c6j hk
    have hb := c13j hk
    simp (disch := first | assumption | exact mnl_i | exact mnl_r | exact mnl_n | exact mnl_0 | omega) only [↓reduceIte, tolS, E3_2, E3_11.1, E3_11.2.1, E3_11.2.2.1, E3_11.2.2.2.1, E3_11.2.2.2.2.1, E3_11.2.2.2.2.2.1, E3_11.2.2.2.2.2.2.1, E3_11.2.2.2.2.2.2.2.1, E3_11.2.2.2.2.2.2.2.2.1, E3_11.2.2.2.2.2.2.2.2.2.1, cShG, cShR, nI_d, q_ll, hk, pix_nI, kRider]
    refine S9 ha hb (by omega) _ _ (fun I2 q1 q2 => ?_)
    simp (disch := first | assumption | exact mnl_i | exact mnl_r | exact mnl_n | exact mnl_0 | omega) only [↓reduceIte, tolN, tolS, E3_11.2.2.2.2.2.2.2.2.2.2.1, E3_11.2.2.2.2.2.2.2.2.2.2.2, q_add]
    refine ih I2 ⟨fun b g hb' => by rw [q1 b g (by omega)]; exact hi.1 b g hb', fun j f hj hf => ?_⟩
    by_cases c : j = k
    · rw [c, q2 f hf, hi.1 _ f (by omega)]
    · rw [q1 _ f (by omega)]; exact hi.2 j f (by omega) hf
  · have c : ¬ 5 < 5 := by omega
    simp (disch := first | assumption | exact mnl_i | exact mnl_r | exact mnl_n | exact mnl_0 | omega) only [↓reduceIte, tolS, E3_2, E3_32, cShG, cShR, cShP, nI_d, q_ll, c]
    exact hP _ (fun b g hb hs => by rw [up2_a hb]; exact hi.1 b g hs) (fun j f hj hf => by rw [up2_a (by omega)]; exact hi.2 j f hj hf) (by rw [up2_s]; exact hi.1 11 1 (by omega))
theorem M184 (hF : FB nt many R th day rl e) (h : MB I A nt W many R th day rl e) (d : Nat) (P : MP) (hP : ∀ I' A', MB I' A' nt W many R th day rl (e.1, (1, many, R, th, day, rl), e.2.2) → P (some (.int (nI many))) (mkH dSh I' V L A')) : mRun (d + 1) 184 [.ref 0] (mkH dSh I V L A) P := by
  obtain ⟨k1, k2, k3, k4, k5⟩ := h.1
  have hm5 := hF.1.1
  simp (disch := first | assumption | exact mnl_i | exact mnl_r | exact mnl_n | exact mnl_0 | omega) only [↓reduceIte, tolS, E184_0, B184, dShG, dShP, up2_f, k1, k3, k5]
  generalize hI1 : up2 (up2 (up2 (up2 I 0 40 1) 0 41 (nI many)) 0 42 (nI day)) 0 43 (nI rl) = I1
  have fI : ∀ f, f ≠ 40 → f ≠ 41 → f ≠ 42 → f ≠ 43 → I1 0 f = I 0 f := fun f a1 a2 a3 a4 => by rw [← hI1, up2_f a4, up2_f a3, up2_f a2, up2_f a1]
  have g40 : I1 0 40 = 1 := by rw [← hI1, up2_f (by decide), up2_f (by decide), up2_f (by decide), up2_s]
  have g41 : I1 0 41 = nI many := by rw [← hI1, up2_f (by decide), up2_f (by decide), up2_s]
  have g42 : I1 0 42 = nI day := by rw [← hI1, up2_f (by decide), up2_s]
  have g43 : I1 0 43 = nI rl := by rw [← hI1, up2_s]
  refine up_loop 24 (fun k (A1 : TI) => mFr d 184 31 [some (.ref 0), some (.int (nI k))] [] (mkH dSh I1 V L A1) P) (fun k A1 => (∀ b, b ≠ 18 → A1 b = A b) ∧ ∀ i, i < k → A1 18 i = nI (th i)) (fun k A1 hk hi ih => ?_) (fun A1 hi => ?_) A ⟨fun _ _ => rfl, fun i hi => absurd hi (Nat.not_lt_zero _)⟩
  · have hk2 : ¬ 23 < k := by omega
    have hth : A1 1 k = nI (th k) := by rw [hi.1 1 (by omega)]; exact k4 k hk
    simp (disch := first | assumption | exact mnl_i | exact mnl_r | exact mnl_n | exact mnl_0 | omega) only [↓reduceIte, tolS, E184_31, q_gt, hk2]
    simp (disch := first | assumption | exact mnl_i | exact mnl_r | exact mnl_n | exact mnl_0 | omega) only [E184_37, dShG, dShR, pix_nI, hth, q_add]
    refine ih _ ⟨fun b hb => by rw [upA_n hb]; exact hi.1 b hb, fun i hik => ?_⟩
    rw [upA_s]
    by_cases c : i = k
    · rw [c, upd_s]
    · rw [upd_n c]; exact hi.2 i (by omega)
  · have hk2 : 23 < 24 := by omega
    simp (disch := first | assumption | exact mnl_i | exact mnl_r | exact mnl_n | exact mnl_0 | omega) only [↓reduceIte, tolS, E184_31, E184_55, q_gt, hk2]
    refine up_loop 5 (fun k (A2 : TI) => mFr d 184 57 [some (.ref 0), some (.int (nI k))] [] (mkH dSh I1 V L A2) P) (fun k A2 => (∀ b, b ≠ 19 → A2 b = A1 b) ∧ ∀ j f, j < k → f < 5 → A2 19 (5 * f + j) = A (3 + f) j) (fun k A2 hk hj ih => ?_) (fun A2 hj => ?_) A1 ⟨fun _ _ => rfl, fun j f hj => absurd hj (Nat.not_lt_zero _)⟩
    · have r3 : A2 3 = A 3 := by rw [hj.1 3 (by omega), hi.1 3 (by omega)]
      have r4 : A2 4 = A 4 := by rw [hj.1 4 (by omega), hi.1 4 (by omega)]
      have r5 : A2 5 = A 5 := by rw [hj.1 5 (by omega), hi.1 5 (by omega)]
      have r6 : A2 6 = A 6 := by rw [hj.1 6 (by omega), hi.1 6 (by omega)]
      have r7 : A2 7 = A 7 := by rw [hj.1 7 (by omega), hi.1 7 (by omega)]
      have a5 : (5 : Int32) + nI k = nI (5 + k) := nI_add 5 k
      have a10 : (10 : Int32) + nI k = nI (10 + k) := nI_add 10 k
      have a15 : (15 : Int32) + nI k = nI (15 + k) := nI_add 15 k
      have a20 : (20 : Int32) + nI k = nI (20 + k) := nI_add 20 k
      simp (disch := first | assumption | exact mnl_i | exact mnl_r | exact mnl_n | exact mnl_0 | omega) only [↓reduceIte, tolS, E184_57, q_lt, hk]
      simp (disch := first | assumption | exact mnl_i | exact mnl_r | exact mnl_n | exact mnl_0 | omega) only [E184_62, dShG, dShR, pix_nI, upA_n, upA_s, upA_u, a5, a10, a15, a20, r3, r4, r5, r6, r7, q_add]
      refine ih _ ⟨fun b hb => by rw [upA_n hb]; exact hj.1 b hb, fun j f hjk hf => ?_⟩
      have old : j ≠ k → A2 19 (5 * f + j) = A (3 + f) j := fun z => hj.2 j f (by omega) hf
      rw [upA_s]
      by_cases c : j = k
      · subst c
        match f, hf with
        | 0, _ => rw [upd_n (by omega), upd_n (by omega), upd_n (by omega), upd_n (by omega), show 5 * 0 + j = j by omega, upd_s]
        | 1, _ => rw [upd_n (by omega), upd_n (by omega), upd_n (by omega), show 5 * 1 + j = 5 + j by omega, upd_s]
        | 2, _ => rw [upd_n (by omega), upd_n (by omega), show 5 * 2 + j = 10 + j by omega, upd_s]
        | 3, _ => rw [upd_n (by omega), show 5 * 3 + j = 15 + j by omega, upd_s]
        | 4, _ => rw [show 5 * 4 + j = 20 + j by omega, upd_s]
      · rw [upd_n (by omega), upd_n (by omega), upd_n (by omega), upd_n (by omega), upd_n (by omega)]
        exact old c
    · have c : ¬ 5 < 5 := by omega
      have g2 : I1 0 2 = nI many := by rw [fI 2 (by omega) (by omega) (by omega) (by omega)]; exact k1
      simp (disch := first | assumption | exact mnl_i | exact mnl_r | exact mnl_n | exact mnl_0 | omega) only [↓reduceIte, tolS, E184_57, E184_139, dShG, q_lt, c, g2]
      have hA : ∀ b, b ≠ 18 → b ≠ 19 → A2 b = A b := fun b h18 h19 => by rw [hj.1 b h19, hi.1 b h18]
      refine hP I1 A2 ⟨MG_fr h.1 (fun f hf => fI f (by omega) (by omega) (by omega) (by omega)) (fun b hb => hA b (by omega) (by omega)), MT_fr h.2.1 (fI 12 (by omega) (by omega) (by omega) (by omega)) (fI 16 (by omega) (by omega) (by omega) (by omega)) (fun b hb => hA b (by omega) (by omega)), ⟨by rw [fI 10 (by omega) (by omega) (by omega) (by omega)]; exact h.2.2.1.1, by rw [hA 8 (by omega) (by omega)]; exact h.2.2.1.2⟩, ⟨g40, fun _ => ⟨g41, g42, g43, fun p hp => ?_, fun j hjm f hf => ?_⟩⟩, MH_fr h.2.2.2.2 (hA 20 (by omega) (by omega)) (hA 21 (by omega) (by omega)) (hA 22 (by omega) (by omega))⟩
      · rw [hj.1 18 (by omega)]; exact hi.2 p hp
      · dsimp only at hjm ⊢
        rw [hj.2 j f (by omega) hf, show 3 + f = 2 + (f + 1) by omega]
        exact k2 j hjm (f + 1) (by omega)
theorem J103 {hC hM : MH} (h : REL hC hM) (d : Nat) : JR (d + 90) 103 184 [] hC hM := by
  obtain ⟨I, V, L, A, I', V', L', A', nt, W, many, R, th, day, rl, e, ec, em, hF, hc, hm⟩ := REL_B h
  rw [ec, em]
  unfold JR
  have h41 := hc.1.1
  have hm5 := hF.1.1
  simp (disch := first | assumption | exact mnl_i | exact mnl_r | exact mnl_n | exact mnl_0 | omega) only [↓reduceIte, tolS, E103_0.1, E103_0.2.1, E103_0.2.2.1, E103_0.2.2.2.1, E103_0.2.2.2.2.1, B103, cShG]
  refine S20 (b := 61) (b' := 59) rfl rfl rfl rfl (by decide) _ _ (fun A1 q1 q2 => ?_)
  simp (disch := first | assumption | exact mnl_i | exact mnl_r | exact mnl_n | exact mnl_0 | omega) only [↓reduceIte, tolN, tolS, E103_0.2.2.2.2.2.1, E103_0.2.2.2.2.2.2.1, E103_0.2.2.2.2.2.2.2.1, E103_0.2.2.2.2.2.2.2.2.1, E103_0.2.2.2.2.2.2.2.2.2.1, cShG]
  refine S3_i _ _ (fun I1 p1 p2 p3 => ?_)
  have e41 : up2 I1 0 8 1 4 1 = nI many := by rw [up2_a (by omega), p1 4 1 (by omega) (by omega), up2_a (by omega)]; exact h41
  simp (disch := first | assumption | exact mnl_i | exact mnl_r | exact mnl_n | exact mnl_0 | omega) only [↓reduceIte, tolN, tolS, E103_0.2.2.2.2.2.2.2.2.2.2.1, E103_0.2.2.2.2.2.2.2.2.2.2.2.1, E103_0.2.2.2.2.2.2.2.2.2.2.2.2.1, E103_0.2.2.2.2.2.2.2.2.2.2.2.2.2.1, E103_0.2.2.2.2.2.2.2.2.2.2.2.2.2.2.1, E103_0.2.2.2.2.2.2.2.2.2.2.2.2.2.2.2.1, E103_0.2.2.2.2.2.2.2.2.2.2.2.2.2.2.2.2, cShG, cShP, e41]
  refine M184 hF hm _ _ (fun I2 A2 q3 => ?_)
  have fI : ∀ b g, b ≠ 11 → b ≠ 61 → b ≠ 0 → ¬ (13 ≤ b ∧ b < 18) → up2 I1 0 8 1 b g = I b g := fun b g a1 a2 a3 a4 => by rw [up2_a a3, p1 b g a1 (by omega), up2_a a2]
  have fI0 : ∀ g, g ≠ 8 → up2 I1 0 8 1 0 g = I 0 g := fun g a1 => by rw [up2_f a1, p1 0 g (by omega) (by omega), up2_a (by omega)]
  refine JR_B (e := (e.1, (1, many, R, th, day, rl), e.2.2)) ⟨hF.1, hF.2.1, ⟨Nat.le_refl _, fun _ => ⟨Nat.le_refl _, fun j hj => rfl, hF.1⟩⟩, hF.2.2.2⟩ ⟨CG_fr hc.1 hm5 (fun b g hb => fI b g (by omega) (by omega) (by omega) (by omega)) (up2_a (by omega)) (q1 60 (by omega)), CT_fr hc.2.1 hF.1.2.2.2.2.2 (fI0 3 (by omega)) (fun i hi => fI _ 0 (by omega) (by omega) (by omega) (by omega)) (fun b hb _ => q1 b (by omega)), ⟨by rw [fI 2 1 (by omega) (by omega) (by omega) (by omega)]; exact hc.2.2.1.1, by rw [q1 3 (by omega)]; exact hc.2.2.1.2⟩, ⟨up2_s, fun _ => ⟨?_, fun j hj f hf => ?_, ?_, fun p hp => ?_, ?_⟩⟩, CH_fr hc.2.2.2.2 (fun b g hb => fI b g (by omega) (by omega) (by omega) (by omega)) (fun b hb => q1 b (by omega))⟩ q3
  · rw [up2_a (by omega), p3, up2_a (by omega)]; exact h41
  · dsimp only at hj ⊢
    rw [up2_a (by omega), p2 j f (by omega) hf, up2_a (by omega)]
    exact hc.1.2.1 j hj f hf
  · rw [up2_a (by omega), p1 61 1 (by omega) (by omega), up2_s]; exact hc.1.2.2.1
  · rw [q2 p hp]; exact hc.1.2.2.2.1 p hp
  · rw [up2_s]; exact hc.1.2.2.2.2
theorem M185 (hF : FB nt many R th day rl e) (h : MB I A nt W many R th day rl e) (hk : e.2.1.1 = 1) (hk0 : ∀ j, j < e.2.1.2.1 → e.2.1.2.2.1 j 0 = R j 0) (d : Nat) (P : MP) (hP : ∀ I' A', MB I' A' nt W e.2.1.2.1 e.2.1.2.2.1 e.2.1.2.2.2.1 e.2.1.2.2.2.2.1 e.2.1.2.2.2.2.2 e → P (some (.int (nI e.2.1.2.1))) (mkH dSh I' V L A')) : mRun (d + 1) 185 [.ref 0] (mkH dSh I V L A) P := by
  obtain ⟨k40, kk⟩ := h.2.2.2.1
  obtain ⟨k41, k42, k43, k18, k19⟩ := kk hk
  obtain ⟨f1, f2, f3⟩ := hF.2.2.1.2 hk
  have hm5 := f3.1
  rw [hk] at k40
  have k40 : I 0 40 = 1 := k40
  simp (disch := first | assumption | exact mnl_i | exact mnl_r | exact mnl_n | exact mnl_0 | omega) only [↓reduceIte, tolS, E185_0, E185_10, B185, dShG, dShP, up2_f, k40, k41, k42, k43, n10]
  generalize hI1 : up2 (up2 (up2 I 0 2 (nI e.2.1.2.1)) 0 0 (nI e.2.1.2.2.2.2.1)) 0 9 (nI e.2.1.2.2.2.2.2) = I1
  have fI : ∀ f, f ≠ 2 → f ≠ 0 → f ≠ 9 → I1 0 f = I 0 f := fun f a1 a2 a3 => by rw [← hI1, up2_f a3, up2_f a2, up2_f a1]
  have g2 : I1 0 2 = nI e.2.1.2.1 := by rw [← hI1, up2_f (by decide), up2_f (by decide), up2_s]
  have g0 : I1 0 0 = nI e.2.1.2.2.2.2.1 := by rw [← hI1, up2_f (by decide), up2_s]
  have g9 : I1 0 9 = nI e.2.1.2.2.2.2.2 := by rw [← hI1, up2_s]
  refine up_loop 24 (fun k (A1 : TI) => mFr d 185 36 [some (.ref 0), some (.int (nI k))] [] (mkH dSh I1 V L A1) P) (fun k A1 => (∀ b, b ≠ 1 → A1 b = A b) ∧ ∀ i, i < k → A1 1 i = nI (e.2.1.2.2.2.1 i)) (fun k A1 hkk hi ih => ?_) (fun A1 hi => ?_) A ⟨fun _ _ => rfl, fun i hi => absurd hi (Nat.not_lt_zero _)⟩
  · have hk2 : ¬ 23 < k := by omega
    have hth : A1 18 k = nI (e.2.1.2.2.2.1 k) := by rw [hi.1 18 (by omega)]; exact k18 k hkk
    simp (disch := first | assumption | exact mnl_i | exact mnl_r | exact mnl_n | exact mnl_0 | omega) only [↓reduceIte, tolS, E185_36, q_gt, hk2]
    simp (disch := first | assumption | exact mnl_i | exact mnl_r | exact mnl_n | exact mnl_0 | omega) only [E185_42, dShG, dShR, pix_nI, hth, q_add]
    refine ih _ ⟨fun b hb => by rw [upA_n hb]; exact hi.1 b hb, fun i hik => ?_⟩
    rw [upA_s]
    by_cases c : i = k
    · rw [c, upd_s]
    · rw [upd_n c]; exact hi.2 i (by omega)
  · have hk2 : 23 < 24 := by omega
    simp (disch := first | assumption | exact mnl_i | exact mnl_r | exact mnl_n | exact mnl_0 | omega) only [↓reduceIte, tolS, E185_36, E185_60, q_gt, hk2]
    refine up_loop 5 (fun k (A2 : TI) => mFr d 185 62 [some (.ref 0), some (.int (nI k))] [] (mkH dSh I1 V L A2) P) (fun k A2 => (∀ b, ¬ (3 ≤ b ∧ b ≤ 7) → A2 b = A1 b) ∧ ∀ j f, j < k → f < 5 → A2 (3 + f) j = A 19 (5 * f + j)) (fun k A2 hkk hj ih => ?_) (fun A2 hj => ?_) A1 ⟨fun _ _ => rfl, fun j f hj => absurd hj (Nat.not_lt_zero _)⟩
    · have r19 : A2 19 = A 19 := by rw [hj.1 19 (by omega), hi.1 19 (by omega)]
      have a5 : (5 : Int32) + nI k = nI (5 + k) := nI_add 5 k
      have a10 : (10 : Int32) + nI k = nI (10 + k) := nI_add 10 k
      have a15 : (15 : Int32) + nI k = nI (15 + k) := nI_add 15 k
      have a20 : (20 : Int32) + nI k = nI (20 + k) := nI_add 20 k
      simp (disch := first | assumption | exact mnl_i | exact mnl_r | exact mnl_n | exact mnl_0 | omega) only [↓reduceIte, tolS, E185_62, q_lt, hkk]
      simp (disch := first | assumption | exact mnl_i | exact mnl_r | exact mnl_n | exact mnl_0 | omega) only [E185_67, dShG, dShR, pix_nI, upA_n, upA_s, upA_u, a5, a10, a15, a20, r19, q_add]
      refine ih _ ⟨fun b hb => by rw [upA_n (by omega), upA_n (by omega), upA_n (by omega), upA_n (by omega), upA_n (by omega)]; exact hj.1 b hb, fun j f hjk hf => ?_⟩
      have old : j ≠ k → A2 (3 + f) j = A 19 (5 * f + j) := fun z => hj.2 j f (by omega) hf
      by_cases c : j = k
      · subst c
        match f, hf with
        | 0, _ => simp [upA, upd]
        | 1, _ => simp [upA, upd]
        | 2, _ => simp [upA, upd]
        | 3, _ => simp [upA, upd]
        | 4, _ => simp [upA, upd]
      · rw [← old c]
        match f, hf with
        | 0, _ => simp [upA, upd, c]
        | 1, _ => simp [upA, upd, c]
        | 2, _ => simp [upA, upd, c]
        | 3, _ => simp [upA, upd, c]
        | 4, _ => simp [upA, upd, c]
    · have c : ¬ 5 < 5 := by omega
      simp (disch := first | assumption | exact mnl_i | exact mnl_r | exact mnl_n | exact mnl_0 | omega) only [↓reduceIte, tolS, E185_62, E185_144, dShG, q_lt, c, g2]
      have hA : ∀ b, b ≠ 1 → ¬ (3 ≤ b ∧ b ≤ 7) → A2 b = A b := fun b h18 h19 => by rw [hj.1 b h19, hi.1 b h18]
      refine hP I1 A2 ⟨⟨g2, fun j hjm f hf => ?_, g0, fun p hp => ?_, g9⟩, MT_fr h.2.1 (fI 12 (by omega) (by omega) (by omega)) (fI 16 (by omega) (by omega) (by omega)) (fun b hb => hA b (by omega) (by omega)), ⟨by rw [fI 10 (by omega) (by omega) (by omega)]; exact h.2.2.1.1, by rw [hA 8 (by omega) (by omega)]; exact h.2.2.1.2⟩, MK_fr h.2.2.2.1 (fun f hf => fI f (by omega) (by omega) (by omega)) (hA 18 (by omega) (by omega)) (hA 19 (by omega) (by omega)), MH_fr h.2.2.2.2 (hA 20 (by omega) (by omega)) (hA 21 (by omega) (by omega)) (hA 22 (by omega) (by omega))⟩
      · match f, hf with
        | 0, _ =>
          rw [hA 2 (by omega) (by omega), hk0 j hjm]
          exact h.1.2.1 j (by omega) 0 (by omega)
        | f + 1, hf =>
          rw [show 2 + (f + 1) = 3 + f by omega, hj.2 j f (by omega) (by omega)]
          exact k19 j hjm f (by omega)
      · rw [hj.1 1 (by omega)]; exact hi.2 p hp
theorem J104 {hC hM : MH} (h : REL hC hM) (d : Nat) : JR (d + 90) 104 185 [] hC hM := by
  obtain ⟨I, V, L, A, I', V', L', A', nt, W, many, R, th, day, rl, e, ec, em, hF, hc, hm⟩ := REL_B h
  rw [ec, em]
  unfold JR
  obtain ⟨k1, kk⟩ := hc.2.2.2.1
  have kp := hF.2.2.1.1
  by_cases c1 : e.2.1.1 = 1
  · obtain ⟨x1, x2, x3, x4, x5⟩ := kk c1
    obtain ⟨f1, f2, f3⟩ := hF.2.2.1.2 c1
    have hm5 := f3.1
    rw [c1] at k1
    have k1 : I 0 8 = 1 := k1
    simp (disch := first | assumption | exact mnl_i | exact mnl_r | exact mnl_n | exact mnl_0 | omega) only [↓reduceIte, tolS, E104_0, E104_10.1, E104_10.2.1, E104_10.2.2.1, E104_10.2.2.2.1, E104_10.2.2.2.2.1, B104, cShG, k1, n10]
    refine S20 (b := 59) (b' := 61) rfl rfl rfl rfl (by decide) _ _ (fun A1 q1 q2 => ?_)
    simp (disch := first | assumption | exact mnl_i | exact mnl_r | exact mnl_n | exact mnl_0 | omega) only [↓reduceIte, tolN, tolS, E104_10.2.2.2.2.2.1, E104_10.2.2.2.2.2.2.1, E104_10.2.2.2.2.2.2.2.1, E104_10.2.2.2.2.2.2.2.2.1, E104_10.2.2.2.2.2.2.2.2.2.1, cShG]
    refine S3_b _ _ (fun I1 p1 p2 p3 => ?_)
    have e41 : I1 4 1 = nI e.2.1.2.1 := by rw [p3, up2_a (by omega)]; exact x1
    simp (disch := first | assumption | exact mnl_i | exact mnl_r | exact mnl_n | exact mnl_0 | omega) only [↓reduceIte, tolN, tolS, E104_10.2.2.2.2.2.2.2.2.2.2.1, E104_10.2.2.2.2.2.2.2.2.2.2.2.1, E104_10.2.2.2.2.2.2.2.2.2.2.2.2.1, E104_10.2.2.2.2.2.2.2.2.2.2.2.2.2, cShG, e41]
    refine M185 hF hm c1 f2 _ _ (fun I2 A2 q3 => ?_)
    have fI : ∀ b g, b ≠ 4 → b ≠ 59 → ¬ (6 ≤ b ∧ b < 11) → I1 b g = I b g := fun b g a1 a2 a4 => by rw [p1 b g a1 (by omega), up2_a a2]
    refine JR_B (e := e) ⟨f3, hF.2.1, ⟨kp, fun z => ⟨Nat.le_refl _, fun j hj => rfl, (hF.2.2.1.2 z).2.2⟩⟩, hF.2.2.2⟩ ⟨⟨e41, fun j hj f hf => ?_, ?_, fun p hp => ?_, ?_⟩, CT_fr hc.2.1 hF.1.2.2.2.2.2 (fI 0 3 (by omega) (by omega) (by omega)) (fun i hi => fI _ 0 (by omega) (by omega) (by omega)) (fun b hb _ => q1 b (by omega)), ⟨by rw [fI 2 1 (by omega) (by omega) (by omega)]; exact hc.2.2.1.1, by rw [q1 3 (by omega)]; exact hc.2.2.1.2⟩, CK_fr hc.2.2.2.1 (FK_im hF.2.2.1) (fI 0 8 (by omega) (by omega) (by omega)) (fun b g hb => fI b g (by omega) (by omega) (by omega)) (up2_a (by omega)) (q1 62 (by omega)), CH_fr hc.2.2.2.2 (fun b g hb => fI b g (by omega) (by omega) (by omega)) (fun b hb => q1 b (by omega))⟩ q3
    · rw [p2 j f (by omega) hf, up2_a (by omega)]; exact x2 j hj f hf
    · rw [p1 59 1 (by omega) (by omega), up2_s]; exact x3
    · rw [q2 p hp]; exact x4 p hp
    · rw [up2_s]; exact x5
  · have c0 : e.2.1.1 = 0 := by omega
    have k1 : I 0 8 = 0 := by rw [k1, c0]; rfl
    have k2 : I' 0 40 = 0 := by rw [hm.2.2.2.1.1, c0]; rfl
    simp (disch := first | assumption | exact mnl_i | exact mnl_r | exact mnl_n | exact mnl_0 | omega) only [↓reduceIte, tolS, E104_0, E104_7, B104, cShG, k1]
    simp (disch := first | assumption | exact mnl_i | exact mnl_r | exact mnl_n | exact mnl_0 | omega) only [↓reduceIte, tolS, E185_0, E185_7, B185, dShG, k2]
    exact JR_B hF hc hm
end J6
