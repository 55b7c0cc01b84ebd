/-! spread on both sides -/
section M5
variable {I I' A A' I1 A1 I2 A2 : TI} {V V' V1 : TV} {L L' : Nat → Int64} {nt many day rl : Nat} {R : Nat → Nat → Nat} {th th' : Nat → Nat} {W : Nat → Nat → List Int32} {e : TE}
theorem has_deal {m : Nat} {R : Nat → Nat → Nat} (hm : m ≤ 3) (hR : ∀ j, j < m → R j 2 ≤ 9) : ∃ c, c < 10 ^ m ∧ okC m R c = true := by
  have h0 := hR 0
  have h1 := hR 1
  have h2 := hR 2
  rcases (show m = 0 ∨ m = 1 ∨ m = 2 ∨ m = 3 by omega) with h | h | h | h <;> rw [h] at h0 h1 h2 ⊢
  · exact ⟨0, by decide, by simp [okC, sumN]⟩
  · refine ⟨R 0 2, by omega, decide_eq_true ?_⟩
    simp [sumN, dg]; omega
  · refine ⟨10 * R 0 2 + R 1 2, by omega, decide_eq_true ?_⟩
    simp [sumN, dg]; omega
  · refine ⟨100 * R 0 2 + 10 * R 1 2 + R 2 2, by omega, decide_eq_true ?_⟩
    simp [sumN, dg]; omega
theorem tk_rev {W : Nat → List Int32} {m c : Nat} {R : Nat → Nat → Nat} (hm : m ≤ 3) : sumN (fun k => takesN W th day (uN (R (m - 1 - k)) 2 (dg c k))) m = tkC W th day m R c := by
  unfold tkC
  rcases (show m = 0 ∨ m = 1 ∨ m = 2 ∨ m = 3 by omega) with h | h | h | h <;> rw [h] <;> simp [sumN] <;> omega
theorem J88 {hC hM : MH} (h : REL hC hM) (d : Nat) (w : Int32) : JR (d + 90) 88 170 [.int w] hC hM := by
  obtain ⟨I, V, L, A, I', V', L', A', nt, W, many, R, th, day, rl, e, ec, em, hF, hc, hm⟩ := REL_B h
  rw [ec, em]
  unfold JR
  have h5 := hF.1.1
  have h41 : I 4 1 = nI many := hc.1.1
  have h02 : I' 0 2 = nI many := hm.1.1
  rcases i32_ix w 2 with ⟨q, hq, hq2, rfl⟩ | hw
  · have hq1 : ¬ 1 < q := by omega
    have wq := fun d h P => M114_in (y := 1) (n := 1) (j := q) rfl (by omega) (by omega) d h P
    by_cases h3 : many ≤ 3
    · have m3 : ¬ 3 < many := by omega
      generalize hok : okC many R = ok
      generalize hT : tkC (W rl) th day many R = T
      have half : ∀ (v : Int32) (I1 : TI) (V1 : TV) (A1 : TI), cS I V A I1 V1 A1 → v = (if q = 0 then sIx (spN ok T (10 ^ many)) else sBm (spN ok T (10 ^ many)) (-1)) → mRun (d + 90) 170 [.ref 0, .int (nI q)] (mkH dSh I' V' L' A') (fun v' h' => JQ (some (.int v)) (mkH cSh I1 V1 L A1) v' h') := by
        intro v I1 V1 A1 s1 hv
        refine M170 hF hm h3 hq (d + 81) _ (fun I2 A2 s2 => ?_)
        rw [hok, hT, ← hv]
        exact JR_T hF hc hm s1 s2
      have hok1 : ∀ c, okC many R c = ok c := fun c => by rw [hok]
      have hT1 : ∀ c, tkC (W rl) th day many R c = T c := fun c => by rw [hT]
      have hT2 : ∀ c, T c ≤ 720 := fun c => by
        rw [← hT1]
        have := sumN_le (f := fun j => takesN (W rl) th day (uN (R j) 2 (dg c (many - 1 - j)))) (B := 240) (fun j => takesN_le) many
        unfold tkC
        omega
      have hr2 : ∀ j, j < many → R j 2 ≤ 9 := fun j hj => (hF.1.2.1 j hj).2.2.1
      have hten : 10 ^ many ≤ 1000 := by
        rcases (show many = 0 ∨ many = 1 ∨ many = 2 ∨ many = 3 by omega) with h | h | h | h <;> rw [h] <;> decide
      obtain ⟨c0, hc0, hc1⟩ := has_deal h3 hr2
      rw [hok1] at hc1
      have hsum : ∀ c, c < 10 ^ many → sumN (dg c) 3 ≤ 27 := fun c _ => by
        have := sumN_le (f := dg c) (B := 9) (fun j => dg_9 _ _) 3
        omega
      have hok2 : ∀ c, c < 10 ^ many → ok c = decide (sumN (dg c) 3 = sumN (fun j => R j 2) many) := fun c hcc => by
        rw [← hok1, sum_dg h3 hcc]; rfl
      have htot : sumN (fun j => R j 2) many ≤ 27 := by
        have h0 := hr2 0
        have h1 := hr2 1
        have h2 := hr2 2
        rcases (show many = 0 ∨ many = 1 ∨ many = 2 ∨ many = 3 by omega) with h | h | h | h <;> rw [h] at h0 h1 h2 ⊢ <;> simp [sumN] <;> omega
      generalize ht : sumN (fun j => R j 2) many = tot at htot hok2
      simp (disch := first | assumption | exact mnl_i | exact mnl_r | exact mnl_n | exact mnl_0 | omega) only [↓reduceIte, tolS, E88_0, E88_4, E88_12, E88_26, B88, cShG, q_neg, q_gt, hq1, h41, m3]
      have z1 : ∀ x : Int32, x = 1 → mFr (d + 89) 88 30 [some (.ref 0), some (.int (nI q)), some (.int x), some (.int 0), none, none, none] [] (mkH cSh I V L A) (fun v h => mRun (d + 90) 170 [.ref 0, .int (nI q)] (mkH dSh I' V' L' A') (fun v' h' => JQ v h v' h')) → mFr (d + 89) 88 30 [some (.ref 0), some (.int (nI q)), some (.int 1), some (.int 0), none, none, none] [] (mkH cSh I V L A) (fun v h => mRun (d + 90) 170 [.ref 0, .int (nI q)] (mkH dSh I' V' L' A') (fun v' h' => JQ v h v' h')) := fun x hx hh => by rw [hx] at hh; exact hh
      refine z1 (nI (10 ^ 0)) (by decide) ?_
      refine up_loop many (fun k (s' : TI × TI) => mFr (d + 89) 88 30 [some (.ref 0), some (.int (nI q)), some (.int (nI (10 ^ k))), some (.int (nI k)), none, none, none] [] (mkH cSh s'.1 V L s'.2) (fun v h => mRun (d + 90) 170 [.ref 0, .int (nI q)] (mkH dSh I' V' L' A') (fun v' h' => JQ v h v' h'))) (fun k s' => cS I V A s'.1 V s'.2 ∧ ∀ x, x < k → ∀ p, p < 10 → s'.2 22 (10 * x + p) = nI (takesN (W rl) th day (uN (R x) 2 p))) (fun k s' hk hi ih => ?_) (fun s' hi => ?_) (I, A) ⟨cS_refl, fun x hx => absurd hx (by omega)⟩
      · obtain ⟨I3, A3⟩ := s'
        obtain ⟨i1, i2⟩ := hi
        replace i1 : cS I V A I3 V A3 := i1
        replace i2 : ∀ x, x < k → ∀ p, p < 10 → A3 22 (10 * x + p) = nI (takesN (W rl) th day (uN (R x) 2 p)) := i2
        have k3 : k < 3 := by omega
        have g41 : I3 4 1 = nI many := (CG_S hc.1 hF.1.1 i1).1
        simp (disch := first | assumption | exact mnl_i | exact mnl_r | exact mnl_n | exact mnl_0 | omega) only [↓reduceIte, tolS, E88_30, E88_41, E88_46.1, E88_46.2.1, E88_46.2.2.1, cShG, g41, q_ll, q_lt, hk, k3]
        refine S89 hF hc i1 hk h3 _ _ (fun I4 A4 s4 t1 t2 => ?_)
        have ih' := ih (I4, A4) ⟨s4, fun x hx p hp => by
          show A4 22 (10 * x + p) = _
          by_cases c : x = k
          · rw [c]; exact t2 p hp
          · rw [t1 (10 * x + p) (by omega)]; exact i2 x (by omega) p hp⟩
        rw [Nat.pow_succ, Nat.mul_comm] at ih'
        simp (disch := first | assumption | exact mnl_i | exact mnl_r | exact mnl_n | exact mnl_0 | omega) only [↓reduceIte, tolN, tolS, E88_46.2.2.2.1, E88_46.2.2.2.2.1, E88_46.2.2.2.2.2.1, E88_46.2.2.2.2.2.2.1, E88_46.2.2.2.2.2.2.2.1, E88_46.2.2.2.2.2.2.2.2, ml10, q_add]
        exact ih'
      · obtain ⟨I3, A3⟩ := s'
        obtain ⟨i1, i2⟩ := hi
        replace i1 : cS I V A I3 V A3 := i1
        replace i2 : ∀ x, x < many → ∀ p, p < 10 → A3 22 (10 * x + p) = nI (takesN (W rl) th day (uN (R x) 2 p)) := i2
        have cg := CG_S hc.1 hF.1.1 i1
        have g41 : I3 4 1 = nI many := cg.1
        have e1 : ¬ many < many := by omega
        simp (disch := first | assumption | exact mnl_i | exact mnl_r | exact mnl_n | exact mnl_0 | omega) only [↓reduceIte, tolS, E88_30, E88_62.1, E88_62.2.1, E88_62.2.2.1, cShG, g41, q_ll, e1]
        refine S6 cg h5 _ _ ?_
        rw [ht]
        simp (disch := first | assumption | exact mnl_i | exact mnl_r | exact mnl_n | exact mnl_0 | omega) only [↓reduceIte, tolS, E88_62.2.2.2.1, E88_62.2.2.2.2.1, E88_62.2.2.2.2.2.1, E88_62.2.2.2.2.2.2.1, E88_62.2.2.2.2.2.2.2.1, E88_62.2.2.2.2.2.2.2.2.1, E88_62.2.2.2.2.2.2.2.2.2, cShG]
        generalize hN : 10 ^ many = N at half hten hc0 hok2 hsum
        have hS91 := fun {c : Nat} (hcc : c ≤ 1000) (d : Nat) (P : MP) hP => S91 (V1 := V) (L := L) (I1 := I3) (A1 := A3) (TP := fun x p => takesN (W rl) th day (uN (R x) 2 p)) (many := many) (fun x p => takesN_le) hcc h3 g41 i2 d P hP
        have e21 : (721 : Int32) = nI 721 := by decide
        refine up_loop N (fun c (_ : Unit) => mFr (d + 89) 88 81 [some (.ref 0), some (.int (nI q)), some (.int (nI N)), some (.int (nI tot)), some (.int (sIx (spN ok T c))), some (.int (sBm (spN ok T c) 721)), some (.int (nI c))] [] (mkH cSh I3 V L A3) (fun v h => mRun (d + 90) 170 [.ref 0, .int (nI q)] (mkH dSh I' V' L' A') (fun v' h' => JQ v h v' h'))) (fun _ _ => True) (fun c _ hk _ ih => ?_) (fun _ _ => ?_) () trivial
        · have ih' := ih () trivial
          have hcc : c ≤ 1000 := by omega
          have okd := hok2 c hk
          have hs27 := hsum c hk
          have hTc := hT2 c
          have eT : sumN (fun k => takesN (W rl) th day (uN (R (many - 1 - k)) 2 (dg c k))) many = T c := by rw [tk_rev h3, hT1]
          simp (disch := first | assumption | exact mnl_i | exact mnl_r | exact mnl_n | exact mnl_0 | omega) only [↓reduceIte, tolS, E88_81, q_ll, hk]
          simp (disch := first | assumption | exact mnl_i | exact mnl_r | exact mnl_n | exact mnl_0 | omega) only [↓reduceIte, tolS, E88_87.1, E88_87.2.1]
          refine S90 hcc _ _ _ ?_
          by_cases c0 : sumN (dg c) 3 = tot
          · have okt : ok c = true := by rw [okd]; exact decide_eq_true c0
            simp (disch := first | assumption | exact mnl_i | exact mnl_r | exact mnl_n | exact mnl_0 | omega) only [↓reduceIte, tolS, E88_87.2.2.1, E88_87.2.2.2, E88_96.1, E88_96.2.1, E88_96.2.2.1, cShG, q_ee, c0]
            refine hS91 hcc _ _ ?_
            rw [eT]
            simp only [spN, if_pos okt] at ih'
            rcases spN_ok (ok := ok) hT2 c with ⟨z1, z2⟩ | ⟨b, i, z1, z2, z3⟩
            · rw [z1] at ih' ⊢
              simp only [sIx, sBm] at ih' ⊢
              rw [e21]
              have c3 : T c < 721 := by omega
              simp (disch := first | assumption | exact mnl_i | exact mnl_r | exact mnl_n | exact mnl_0 | omega) only [↓reduceIte, tolS, E88_96.2.2.2.1, E88_96.2.2.2.2, E88_107.1, E88_107.2.1, E88_107.2.2.1, cShG, q_ll, c3]
              refine hS91 hcc _ _ ?_
              rw [eT]
              simp (disch := first | assumption | exact mnl_i | exact mnl_r | exact mnl_n | exact mnl_0 | omega) only [↓reduceIte, tolS, E88_107.2.2.2.1, E88_107.2.2.2.2.1, E88_107.2.2.2.2.2, cShG]
              simp (disch := first | assumption | exact mnl_i | exact mnl_r | exact mnl_n | exact mnl_0 | omega) only [↓reduceIte, tolS, E88_119, q_add]
              exact ih'
            · rw [z1] at ih' ⊢
              by_cases c2 : T c < b
              · simp only [if_pos c2, sIx, sBm] at ih' ⊢
                simp (disch := first | assumption | exact mnl_i | exact mnl_r | exact mnl_n | exact mnl_0 | omega) only [↓reduceIte, tolS, E88_96.2.2.2.1, E88_96.2.2.2.2, E88_107.1, E88_107.2.1, E88_107.2.2.1, cShG, q_ll, c2]
                refine hS91 hcc _ _ ?_
                rw [eT]
                simp (disch := first | assumption | exact mnl_i | exact mnl_r | exact mnl_n | exact mnl_0 | omega) only [↓reduceIte, tolS, E88_107.2.2.2.1, E88_107.2.2.2.2.1, E88_107.2.2.2.2.2, cShG]
                simp (disch := first | assumption | exact mnl_i | exact mnl_r | exact mnl_n | exact mnl_0 | omega) only [↓reduceIte, tolS, E88_119, q_add]
                exact ih'
              · simp only [if_neg c2, sIx, sBm] at ih' ⊢
                simp (disch := first | assumption | exact mnl_i | exact mnl_r | exact mnl_n | exact mnl_0 | omega) only [↓reduceIte, tolS, E88_96.2.2.2.1, E88_96.2.2.2.2, cShG, q_ll, c2]
                simp (disch := first | assumption | exact mnl_i | exact mnl_r | exact mnl_n | exact mnl_0 | omega) only [↓reduceIte, tolS, E88_119, q_add]
                exact ih'
          · have okt : ¬ ok c = true := by rw [okd]; simp [c0]
            simp only [spN, if_neg okt] at ih'
            simp (disch := first | assumption | exact mnl_i | exact mnl_r | exact mnl_n | exact mnl_0 | omega) only [↓reduceIte, tolS, E88_87.2.2.1, E88_87.2.2.2, cShG, q_ee, c0]
            simp (disch := first | assumption | exact mnl_i | exact mnl_r | exact mnl_n | exact mnl_0 | omega) only [↓reduceIte, tolS, E88_119, q_add]
            exact ih'
        · have e2 : ¬ N < N := by omega
          rcases spN_ok (ok := ok) hT2 N with ⟨z1, z2⟩ | ⟨b, i, z1, z2, z3⟩
          · have := z2 c0 hc0
            rw [hc1] at this
            cases this
          · rw [z1] at half ⊢
            simp only [sIx, sBm] at half ⊢
            by_cases cq : q = 0
            · have := half _ I3 V A3 i1 rfl
              rw [if_pos cq] at this
              rw [cq] at this
              simp (disch := first | assumption | exact mnl_i | exact mnl_r | exact mnl_n | exact mnl_0 | omega) only [↓reduceIte, tolS, E88_81, E88_125, E88_129, E88_136, q_ll, e2, q_eq, cq]
              exact this
            · have := half _ I3 V A3 i1 rfl
              rw [if_neg cq] at this
              simp (disch := first | assumption | exact mnl_i | exact mnl_r | exact mnl_n | exact mnl_0 | omega) only [↓reduceIte, tolS, E88_81, E88_125, E88_134, E88_136, q_ll, e2, q_eq, cq]
              exact this
    · have m3 : 3 < many := by omega
      simp (disch := first | assumption | exact mnl_i | exact mnl_r | exact mnl_n | exact mnl_0 | omega) only [↓reduceIte, tolS, E88_0, E88_4, E88_12, E88_23, B88, cShG, q_neg, q_gt, hq1, h41, m3]
      simp (disch := first | assumption | exact mnl_i | exact mnl_r | exact mnl_n | exact mnl_0 | omega) only [↓reduceIte, tolS, E170_0, E170_12, E170_20, B170, dShG, n10, wq, h02, q_gt, m3]
      exact JR_B hF hc hm
  · have wq := fun d h P => M114_out (y := 1) (n := 1) (x := w) rfl hw d h P
    have hb : mRun (d + 90) 170 [.ref 0, .int w] (mkH dSh I' V' L' A') (fun v' h' => JQ (some (.int (-2))) (mkH cSh I V L A) v' h') := by
      simp (disch := first | assumption | exact mnl_i | exact mnl_r | exact mnl_n | exact mnl_0 | omega) only [↓reduceIte, tolS, E170_0, E170_9, B170, dShG, n10, wq]
      exact JR_B hF hc hm
    rcases hw with hw | ⟨q, hq, hq2, rfl⟩
    · simp (disch := first | assumption | exact mnl_i | exact mnl_r | exact mnl_n | exact mnl_0 | omega) only [↓reduceIte, tolS, E88_0, E88_9, B88, cShG, hw]
      exact hb
    · have hq1 : 1 < q := by omega
      simp (disch := first | assumption | exact mnl_i | exact mnl_r | exact mnl_n | exact mnl_0 | omega) only [↓reduceIte, tolS, E88_0, E88_4, E88_9, B88, cShG, q_neg, q_gt, hq1]
      exact hb
end M5
