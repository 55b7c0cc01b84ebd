/-! spread: the reference's whole -/
section M4
variable {I I' A A' I1 A1 I2 A2 : TI} {V V' V1 : TV} {L L' : Nat → Int64} {nt many day rl : Nat} {R : Nat → Nat → Nat} {th th' : Nat → Nat} {W : Nat → Nat → List Int32} {e : TE}
def okC (many : Nat) (R : Nat → Nat → Nat) (c : Nat) : Bool := decide (sumN (fun j => dg c (many - 1 - j)) many = sumN (fun j => R j 2) many)
def tkC (W : Nat → List Int32) (th : Nat → Nat) (day many : Nat) (R : Nat → Nat → Nat) (c : Nat) : Nat := sumN (fun j => takesN W th day (uN (R j) 2 (dg c (many - 1 - j)))) many
theorem sumN_le {f : Nat → Nat} {B : Nat} (h : ∀ j, f j ≤ B) : ∀ n, sumN f n ≤ n * B := by
  intro n
  induction n with
  | zero => exact Nat.zero_le _
  | succ n ih =>
    have := h n
    simp only [sumN]
    rw [Nat.succ_mul]
    omega
theorem M170 (hF : FB nt many R th day rl e) (hm : MB I A nt W many R th day rl e) (h3 : many ≤ 3) {q : Nat} (hq : q < 2) (d : Nat) (P : MP) (hP : ∀ I2 A2, mSx I A I2 A2 → P (some (.int (if q = 0 then sIx (spN (okC many R) (tkC (W rl) th day many R) (10 ^ many)) else sBm (spN (okC many R) (tkC (W rl) th day many R) (10 ^ many)) (-1)))) (mkH dSh I2 V L A2)) : mRun (d + 9) 170 [.ref 0, .int (nI q)] (mkH dSh I V L A) P := by
  have h5 := hF.1.1
  have wq := fun d h P => M114_in (y := 1) (n := 1) (j := q) rfl (by omega) (by omega) d h P
  have h02 : I 0 2 = nI many := hm.1.1
  have m3 : ¬ 3 < many := by omega
  generalize hok : okC many R = ok at hP
  generalize hT : tkC (W rl) th day many R = T at hP
  have hok1 : ∀ c, okC many R c = ok c := fun c => by rw [hok]
  have hT1 : ∀ c, tkC (W rl) th day many R c = T c := fun c => by rw [hT]
  have hT2 : ∀ c, T c ≤ 720 := fun c => by
    rw [← hT1]
    have := sumN_le (f := fun j => takesN (W rl) th day (uN (R j) 2 (dg c (many - 1 - j)))) (B := 240) (fun j => takesN_le) many
    unfold tkC
    omega
  have hr2 : ∀ j, j < many → R j 2 ≤ 9 := fun j hj => (hF.1.2.1 j hj).2.2.1
  have htot : sumN (fun j => R j 2) many ≤ 27 := by
    have h0 := hr2 0
    have h1 := hr2 1
    have h2 := hr2 2
    rcases (show many = 0 ∨ many = 1 ∨ many = 2 ∨ many = 3 by omega) with h | h | h | h <;> rw [h] at h0 h1 h2 ⊢ <;> simp [sumN] <;> omega
  generalize ht : sumN (fun j => R j 2) many = tot at htot
  have hten : 10 ^ many ≤ 1000 := by
    rcases (show many = 0 ∨ many = 1 ∨ many = 2 ∨ many = 3 by omega) with h | h | h | h <;> rw [h] <;> decide
  simp (disch := first | assumption | exact mnl_i | exact mnl_r | exact mnl_n | exact mnl_0 | omega) only [↓reduceIte, tolS, E170_0, E170_12, E170_23.1, E170_23.2.1, B170, dShG, n10, wq, h02, q_gt, m3]
  refine M169 hm.1 h5 _ _ ?_
  rw [ht]
  simp (disch := first | assumption | exact mnl_i | exact mnl_r | exact mnl_n | exact mnl_0 | omega) only [↓reduceIte, tolS, E170_23.2.2.1, E170_23.2.2.2.1, E170_23.2.2.2.2.1, E170_23.2.2.2.2.2, dShG, h02]
  have go : mFr (d + 8) 170 68 [some (.ref 0), some (.int (nI q)), some (.int (nI tot)), none, none, none, none, none, none] [.int (nI (10 ^ many))] (mkH dSh I V L A) P := by
    generalize hN : 10 ^ many = N at hP hten
    simp (disch := first | assumption | exact mnl_i | exact mnl_r | exact mnl_n | exact mnl_0 | omega) only [↓reduceIte, tolS, E170_68]
    refine up_loop many (fun k (s' : TI) => mFr (d + 8) 170 72 [some (.ref 0), some (.int (nI q)), some (.int (nI tot)), some (.int (nI N)), some (.int (nI k)), none, none, none, none] [] (mkH dSh I V L s') P) (fun k s' => mSx I A I s' ∧ ∀ x, x < k → s' 17 x = nI (R x 2)) (fun k A3 hk hi ih => ?_) (fun A3 hi => ?_) A ⟨mSx_refl, fun x hx => absurd hx (by omega)⟩
    · have k5 : k < 5 := by omega
      have k3 : k < 3 := by omega
      have hv : A3 4 k = nI (R k 2) := by rw [hi.1.2 4 (by omega)]; exact hm.1.2.1 k hk 2 (by omega)
      have ih' := ih (upA A3 17 (upd (A3 17) k (nI (R k 2)))) ⟨mSx_trans hi.1 ⟨fun _ _ => rfl, fun b hb => upA_n (by omega)⟩, fun x hx => by
        rw [upA_s]
        by_cases c : x = k
        · rw [c, upd_s]
        · rw [upd_n c]; exact hi.2 x (by omega)⟩
      simp (disch := first | assumption | exact mnl_i | exact mnl_r | exact mnl_n | exact mnl_0 | omega) only [↓reduceIte, tolS, E170_72, dShG, h02, q_ll, hk]
      simp (disch := first | assumption | exact mnl_i | exact mnl_r | exact mnl_n | exact mnl_0 | omega) only [↓reduceIte, tolS, E170_81, dShG, dShR, pix_nI, k5, k3, hv, q_add]
      exact ih'
    · have e1 : ¬ many < many := by omega
      simp (disch := first | assumption | exact mnl_i | exact mnl_r | exact mnl_n | exact mnl_0 | omega) only [↓reduceIte, tolS, E170_72, E170_101, dShG, h02, q_ll, e1]
      refine up_loop N (fun c (s' : TI × TI × Option Value × Option Value) => mFr (d + 8) 170 110 [some (.ref 0), some (.int (nI q)), some (.int (nI tot)), some (.int (nI N)), some (.int (sIx (spN ok T c))), some (.int (sBm (spN ok T c) (-1))), some (.int (nI c)), s'.2.2.1, s'.2.2.2] [] (mkH dSh s'.1 V L s'.2.1) P) (fun c s' => mSz I A s'.1 s'.2.1 ∧ (∀ x, x < many → s'.2.1 17 x = nI (R x 2)) ∧ ∀ x, many ≤ x → s'.2.1 4 x = A 4 x) (fun c s' hk hi ih => ?_) (fun s' hi => ?_) (I, A3, none, none) ⟨?_, hi.2, fun x _ => by show A3 4 x = A 4 x; rw [hi.1.2 4 (by omega)]⟩
      · obtain ⟨I4, A4, l7, l8⟩ := s'
        obtain ⟨i1, i2, i3⟩ := hi
        replace i1 : mSz I A I4 A4 := i1
        replace i2 : ∀ x, x < many → A4 17 x = nI (R x 2) := i2
        replace i3 : ∀ x, many ≤ x → A4 4 x = A 4 x := i3
        simp (disch := first | assumption | exact mnl_i | exact mnl_r | exact mnl_n | exact mnl_0 | omega) only [↓reduceIte, tolS, E170_110, q_ll, hk]
        refine M170_deal hF hm i1 h3 (by omega) d P (fun A5 l7 l8 j1 j2 j3 j4 n7 n8 => ?_)
        have j2' : ∀ x, x < many → A5 17 x = nI (R x 2) := fun x hx => by rw [j2 17 (by omega)]; exact i2 x hx
        have j3' : ∀ x, many ≤ x → A5 4 x = A 4 x := fun x hx => by rw [j3 x hx]; exact i3 x hx
        have hF' := FB_z hF (p := fun j => dg c (many - 1 - j)) (fun j => dg_9 _ _)
        have hm' := MB_z hm j1 (p := fun j => dg c (many - 1 - j)) j4
        simp (disch := first | assumption | exact mnl_i | exact mnl_r | exact mnl_n | exact mnl_0 | omega) only [↓reduceIte, tolS, E170_158.1, E170_158.2.1, dShG]
        refine M169 hm'.1 h5 _ _ ?_
        have es : sumN (fun j => RP R (fun j => dg c (many - 1 - j)) j 2) many = sumN (fun j => dg c (many - 1 - j)) many := by
          congr 1
        rw [es]
        have hs27 : sumN (fun j => dg c (many - 1 - j)) many ≤ 27 := by
          have := sumN_le (f := fun j => dg c (many - 1 - j)) (B := 9) (fun j => dg_9 _ _) many
          omega
        have okd : ok c = decide (sumN (fun j => dg c (many - 1 - j)) many = tot) := by rw [← hok1, ← ht]; rfl
        have n1 := nI_m1 (a := T c) (by have := hT2 c; omega)
        by_cases c0 : sumN (fun j => dg c (many - 1 - j)) many = tot
        · have okt : ok c = true := by rw [okd]; exact decide_eq_true c0
          simp (disch := first | assumption | exact mnl_i | exact mnl_r | exact mnl_n | exact mnl_0 | omega) only [↓reduceIte, tolS, E170_158.2.2.1, E170_158.2.2.2, E170_169.1, E170_169.2.1, dShG, q_ee, c0]
          refine M167_F hF' hm' _ _ (fun I6 A6 p1 p2 => ?_)
          have eT : sumN (fun j => takesN (W rl) th day (RP R (fun j => dg c (many - 1 - j)) j)) many = T c := by rw [← hT1]; rfl
          rw [eT]
          have p3 := mSz_t j1 p1
          have hTc := hT2 c
          have ih' := ih (I6, A6, l7, some (.int (nI (T c)))) ⟨p3, fun x hx => by show A6 17 x = _; rw [p2 17 (by omega) (by omega)]; exact j2' x hx, fun x hx => by show A6 4 x = _; rw [p2 4 (by omega) (by omega)]; exact j3' x hx⟩
          simp only [spN, if_pos okt] at ih'
          rcases spN_ok hT2 c with ⟨z1, z2⟩ | ⟨b, i, z1, z2, z3⟩
          · rw [z1] at ih' ⊢
            simp only [sIx, sBm] at ih' ⊢
            simp (disch := first | assumption | exact mnl_i | exact mnl_r | exact mnl_n | exact mnl_0 | omega) only [↓reduceIte, tolS, E170_169.2.2.1, E170_169.2.2.2.1, E170_169.2.2.2.2, E170_190, dShG, show (-1 : Int32) < 0 by decide]
            simp (disch := first | assumption | exact mnl_i | exact mnl_r | exact mnl_n | exact mnl_0 | omega) only [↓reduceIte, tolS, E170_198, q_add]
            exact ih'
          · rw [z1] at ih' ⊢
            by_cases c2 : T c < b
            · simp only [if_pos c2, sIx, sBm] at ih' ⊢
              simp (disch := first | assumption | exact mnl_i | exact mnl_r | exact mnl_n | exact mnl_0 | omega) only [↓reduceIte, tolS, E170_169.2.2.1, E170_169.2.2.2.1, E170_169.2.2.2.2, E170_180, E170_190, dShG, q_neg, q_ll, c2]
              simp (disch := first | assumption | exact mnl_i | exact mnl_r | exact mnl_n | exact mnl_0 | omega) only [↓reduceIte, tolS, E170_198, q_add]
              exact ih'
            · simp only [if_neg c2, sIx, sBm] at ih' ⊢
              simp (disch := first | assumption | exact mnl_i | exact mnl_r | exact mnl_n | exact mnl_0 | omega) only [↓reduceIte, tolS, E170_169.2.2.1, E170_169.2.2.2.1, E170_169.2.2.2.2, E170_180, E170_187, dShG, q_neg, q_ll, c2]
              simp (disch := first | assumption | exact mnl_i | exact mnl_r | exact mnl_n | exact mnl_0 | omega) only [↓reduceIte, tolS, E170_198, q_add]
              exact ih'
        · have okt : ¬ ok c = true := by rw [okd]; simp [c0]
          have ih' := ih (I4, A5, l7, l8) ⟨j1, j2', j3'⟩
          simp only [spN, if_neg okt] at ih'
          simp (disch := first | assumption | exact mnl_i | exact mnl_r | exact mnl_n | exact mnl_0 | omega) only [↓reduceIte, tolS, E170_158.2.2.1, E170_158.2.2.2, E170_166, dShG, q_ee, c0]
          simp (disch := first | assumption | exact mnl_i | exact mnl_r | exact mnl_n | exact mnl_0 | omega) only [↓reduceIte, tolS, E170_198, q_add]
          exact ih'
      · obtain ⟨I4, A4, l7, l8⟩ := s'
        obtain ⟨i1, i2, i3⟩ := hi
        replace i1 : mSz I A I4 A4 := i1
        replace i2 : ∀ x, x < many → A4 17 x = nI (R x 2) := i2
        replace i3 : ∀ x, many ≤ x → A4 4 x = A 4 x := i3
        have e2 : ¬ N < N := by omega
        have h02' : I4 0 2 = nI many := (MG_S hm.1 i1).1
        simp (disch := first | assumption | exact mnl_i | exact mnl_r | exact mnl_n | exact mnl_0 | omega) only [↓reduceIte, tolS, E170_110, E170_204, q_ll, e2]
        refine up_loop many (fun k (s' : TI) => mFr (d + 8) 170 207 [some (.ref 0), some (.int (nI q)), some (.int (nI tot)), some (.int (nI N)), some (.int (sIx (spN ok T N))), some (.int (sBm (spN ok T N) (-1))), some (.int (nI k)), l7, l8] [] (mkH dSh I4 V L s') P) (fun k s' => mSz I A I4 s' ∧ (∀ x, x < many → s' 17 x = nI (R x 2)) ∧ (∀ x, many ≤ x → s' 4 x = A 4 x) ∧ ∀ x, x < k → s' 4 x = nI (R x 2)) (fun k A5 hk hi ih => ?_) (fun A5 hi => ?_) A4 ⟨i1, i2, i3, fun x hx => absurd hx (by omega)⟩
        · obtain ⟨j1, j2, j3, j4⟩ := hi
          have k5 : k < 5 := by omega
          have k3 : k < 3 := by omega
          have hv := j2 k hk
          have ih' := ih (upA A5 4 (upd (A5 4) k (nI (R k 2)))) ⟨mSz_w j1, fun x hx => by rw [upA_n (by omega)]; exact j2 x hx, fun x hx => by rw [upA_s, upd_n (by omega)]; exact j3 x hx, fun x hx => by
            rw [upA_s]
            by_cases c : x = k
            · rw [c, upd_s]
            · rw [upd_n c]; exact j4 x (by omega)⟩
          simp (disch := first | assumption | exact mnl_i | exact mnl_r | exact mnl_n | exact mnl_0 | omega) only [↓reduceIte, tolS, E170_207, dShG, h02', q_ll, hk]
          simp (disch := first | assumption | exact mnl_i | exact mnl_r | exact mnl_n | exact mnl_0 | omega) only [↓reduceIte, tolS, E170_216, dShG, dShR, pix_nI, k5, k3, hv, q_add]
          exact ih'
        · obtain ⟨j1, j2, j3, j4⟩ := hi
          have e4 : A5 4 = A 4 := by
            funext x
            by_cases c : x < many
            · rw [j4 x c]; exact (hm.1.2.1 x c 2 (by omega)).symm
            · exact j3 x (by omega)
          have fin : mSx I A I4 A5 := by
            have : mSx I A I4 (upA A5 4 (A 4)) := j1
            rw [← e4, upA_self] at this
            exact this
          have fin := hP I4 A5 fin
          by_cases c0 : q = 0
          · rw [if_pos c0] at fin
            simp (disch := first | assumption | exact mnl_i | exact mnl_r | exact mnl_n | exact mnl_0 | omega) only [↓reduceIte, tolS, E170_207, E170_236, E170_240, E170_247, dShG, h02', q_ll, e1, q_eq, c0]
            exact fin
          · rw [if_neg c0] at fin
            simp (disch := first | assumption | exact mnl_i | exact mnl_r | exact mnl_n | exact mnl_0 | omega) only [↓reduceIte, tolS, E170_207, E170_236, E170_245, E170_247, dShG, h02', q_ll, e1, q_eq, c0]
            exact fin
      · show mSx I A I (upA A3 4 (A 4))
        refine mSx_trans hi.1 ⟨fun _ _ => rfl, fun b hb => ?_⟩
        by_cases c : b = 4
        · rw [c, upA_s, hi.1.2 4 (by omega)]
        · rw [upA_n c]
  rcases (show many = 0 ∨ many = 1 ∨ many = 2 ∨ many = 3 by omega) with h | h | h | h
  · have e10 : nI (10 ^ many) = 1 := by rw [h]; decide
    rw [e10] at go
    simp (disch := first | assumption | exact mnl_i | exact mnl_r | exact mnl_n | exact mnl_0 | omega) only [↓reduceIte, tolS, E170_35, dShG, h02, q_eq, h]
    exact go
  · have e10 : nI (10 ^ many) = 10 := by rw [h]; decide
    rw [e10] at go
    have n0 : ¬ many = 0 := by omega
    simp (disch := first | assumption | exact mnl_i | exact mnl_r | exact mnl_n | exact mnl_0 | omega) only [↓reduceIte, tolS, E170_39, E170_47, dShG, h02, q_eq, h, n10]
    exact go
  · have e10 : nI (10 ^ many) = 100 := by rw [h]; decide
    rw [e10] at go
    have n0 : ¬ many = 0 := by omega
    have n1 : ¬ many = 1 := by omega
    simp (disch := first | assumption | exact mnl_i | exact mnl_r | exact mnl_n | exact mnl_0 | omega) only [↓reduceIte, tolS, E170_39, E170_52, E170_60, dShG, h02, q_eq, n0, n1, show (many = 2) = True from eq_true h]
    exact go
  · have e10 : nI (10 ^ many) = 1000 := by rw [h]; decide
    rw [e10] at go
    have n0 : ¬ many = 0 := by omega
    have n1 : ¬ many = 1 := by omega
    have n2 : ¬ many = 2 := by omega
    simp (disch := first | assumption | exact mnl_i | exact mnl_r | exact mnl_n | exact mnl_0 | omega) only [↓reduceIte, tolS, E170_39, E170_52, E170_65, dShG, h02, q_eq, n0, n1, n2]
    exact go
end M4
