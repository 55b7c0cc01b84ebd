/-! bears on both sides -/
def laW (w : Nat → Bool) : Nat → Int32
  | 0 => -1
  | n + 1 => if w n = true then laW w n else nI n
def mSy (I A I1 A1 : TI) : Prop := mSx I A I1 (upA A1 1 (A 1))
section L1
variable {I I' A A' I1 A1 : TI} {V V' V1 : TV} {L L' : Nat → Int64} {nt many day rl : Nat} {R : Nat → Nat → Nat} {th th' : Nat → Nat} {W : Nat → Nat → List Int32} {e : TE}
theorem upA_upA {A : TI} {b : Nat} {f g : Nat → Int32} : upA (upA A b f) b g = upA A b g := by
  funext c
  by_cases h : c = b
  · rw [h, upA_s, upA_s]
  · rw [upA_n h, upA_n h, upA_n h]
theorem mSy_refl : mSy I A I A := by unfold mSy; rw [upA_self]; exact mSx_refl
theorem S82_dream (hF : FB nt many R th day rl e) (hc : CB I V A nt W many R th day rl e) (s : cS I V A I1 V1 A1) (D : DR I1 V1 A1 day rl th') (h9 : ∀ p, p < 24 → th' p ≤ 9) {a : Nat} (ha : cSh[a]? = some sRider) (ha2 : a ≠ 20) {r : Nat → Nat} (hr : ∀ f, f < 6 → I1 a f = nI (r f)) (hk : rOk r) (d : Nat) {p : Nat} (hp : p < 24) (hrp : r 3 < p) (P : MP) (hP : ∀ I2 A2, cS I V A I2 V1 A2 → DR I2 V1 A2 day rl th' → (∀ b g, b ≠ 20 → I2 b g = I1 b g) → P (some (.int (if fla (W rl) th' day r p = true then 1 else 0))) (mkH cSh I2 V1 L A2)) : mRun (d + 5) 82 [.ref 0, .ref a, .int (nI p), .ref 63] (mkH cSh I1 V1 L A1) P := by
  have hrl := hrl_of hF
  refine S82 (WR_dream hF hc s D h9 ha hr hk) ha2 d (to := p) (by omega) P (fun I2 A2 q1 q2 => ?_)
  simp only [fla_cf hp hk hrp]
  exact hP I2 A2 (cS_t hrl s q1 q2) ⟨by rw [q1 63 1 (by omega)]; exact D.1, D.2.1, fun p hp => by rw [q2 64 (by omega)]; exact D.2.2 p hp⟩ q1
theorem M163_T (hF : FB nt many R th day rl e) (hm : MB I A nt W many R th day rl e) (s : mSy I A I1 A1) {g : Nat → Int32} (hg : ∀ p, p < 24 → g p = nI (th' p)) (h9 : ∀ p, p < 24 → th' p ≤ 9) {j : Nat} (hj : j < many) (d : Nat) {p : Nat} (hp : p < 24) (P : MP) (hP : ∀ I2 A2, mSy I A I2 A2 → A2 1 = g → P (some (.int (if fla (W rl) th' day (R j) p = true then 1 else 0))) (mkH dSh I2 V L A2)) : mRun (d + 7) 163 [.ref 0, .int (nI j), .int (nI p)] (mkH dSh I1 V L (upA A1 1 g)) P := by
  have hA : upA A1 1 g = upA (upA A1 1 (A 1)) 1 g := upA_upA.symm
  rw [hA]
  simp (disch := first | assumption | exact mnl_i | exact mnl_r | exact mnl_n | exact mnl_0 | omega) only [↓reduceIte, tolS, E163_0.1, E163_0.2.1, E163_0.2.2.1, B163, dShG]
  refine M157_T hF hm s hg h9 hj _ _ (fun I2 A2 p1 p2 p3 => ?_)
  have e1 : A2 1 = g := by rw [p2 1 (by omega) (by omega), upA_s]
  have hy : mSy I A I2 A2 := mSx_trans s ⟨p1, fun b hb => by
    by_cases c : b = 1
    · rw [c, upA_s, upA_s]
    · rw [upA_n c, p2 b (by omega) (by omega), upA_n c]⟩
  have e2 : (I2 0 36 >>> (nI p &&& 31)) &&& 1 = if fla (W rl) th' day (R j) p = true then 1 else 0 := by
    rw [p3]; exact fla_bz
  have fin := hP I2 A2 hy e1
  simp (disch := first | assumption | exact mnl_i | exact mnl_r | exact mnl_n | exact mnl_0 | omega) only [↓reduceIte, tolS, E163_0.2.2.2.1, E163_0.2.2.2.2.1, E163_0.2.2.2.2.2.1, E163_0.2.2.2.2.2.2.1, E163_0.2.2.2.2.2.2.2.1, E163_0.2.2.2.2.2.2.2.2.1, E163_0.2.2.2.2.2.2.2.2.2.1, E163_0.2.2.2.2.2.2.2.2.2.2.1, E163_0.2.2.2.2.2.2.2.2.2.2.2, dShG, e2]
  by_cases c : fla (W rl) th' day (R j) p = true
  · simp only [if_pos c] at fin ⊢
    simp (disch := first | assumption | exact mnl_i | exact mnl_r | exact mnl_n | exact mnl_0 | omega) only [↓reduceIte, tolS, E163_18, E163_23]
    exact fin
  · simp only [if_neg c] at fin ⊢
    simp (disch := first | assumption | exact mnl_i | exact mnl_r | exact mnl_n | exact mnl_0 | omega) only [↓reduceIte, tolS, show ¬ (0 : Int32) = 1 by decide, E163_22, E163_23]
    exact fin
theorem J81 {hC hM : MH} (h : REL hC hM) (d : Nat) (x w : Int32) : JR (d + 90) 81 164 [.int x, .int w] hC hM := by
  obtain ⟨I, V, L, A, I', V', L', A', nt, W, many, R, th, day, rl, e, ec, em, hF, hc, hm⟩ := REL_B h
  rw [ec, em]
  unfold JR
  have h5 := hF.1.1
  rcases i32_ix x many with ⟨j, hj, hj2, rfl⟩ | hx
  · have hj5 : j < 5 := by omega
    have hlt : 6 + 1 * j < 900 := by omega
    have hrid := c6j hj5
    have hok := hF.1.2.1 j hj
    rcases i32_ix w 24 with ⟨q, hq, hq2, rfl⟩ | hw
    · have wq := fun d h P => M117_in (j := q) (by omega) d h P
      have hp5 : A' 5 j = nI (R j 3) := hm.1.2.1 j hj 3 (by omega)
      have hc3 : I (6 + 1 * j) 3 = nI (R j 3) := hc.1.2.1 j hj 3 (by omega)
      have hr3 : R j 3 ≤ 23 := hok.2.2.2.1
      by_cases hat : R j 3 < q
      · generalize hw0 : (fun v => fla (W rl) (upT th q v) day (R j) q) = w0
        have hw1 : ∀ v, fla (W rl) (upT th q v) day (R j) q = w0 v := fun v => by rw [← hw0]
        have h99 : ∀ v, v ≤ 9 → ∀ p, p < 24 → upT th q v p ≤ 9 := fun v hv => upT_9 hF hv
        have half : ∀ (v : Int32) (I1 : TI) (V1 : TV) (A1 : TI), cS I V A I1 V1 A1 → v = laW w0 10 → mRun (d + 90) 164 [.ref 0, .int (nI j), .int (nI q)] (mkH dSh I' V' L' A') (fun v' h' => JQ (some (.int v)) (mkH cSh I1 V1 L A1) v' h') := by
          intro v I1 V1 A1 s1 hv
          have hth : A' 1 q = nI (th q) := hm.1.2.2.2.1 q hq
          simp (disch := first | assumption | exact mnl_i | exact mnl_r | exact mnl_n | exact mnl_0 | omega) only [↓reduceIte, tolS, E164_0, E164_8, E164_18, E164_30, B164, dShG, dShR, M116_in hm.1.1 h5 hj, n10, wq, pix_nI, hp5, q_ll, hat]
          refine up_loop 10 (fun k (s' : TI × TI) => mFr (d + 89) 164 43 [some (.ref 0), some (.int (nI j)), some (.int (nI q)), some (.int (A' 1 q)), some (.int (laW w0 k)), some (.int (nI k))] [] (mkH dSh s'.1 V' L' s'.2) (fun v' h' => JQ (some (.int v)) (mkH cSh I1 V1 L A1) v' h')) (fun k s' => mSy I' A' s'.1 s'.2 ∧ ∀ p, p ≠ q → s'.2 1 p = A' 1 p) (fun k s' hk hi ih => ?_) (fun s' hi => ?_) (I', A') ⟨mSy_refl, fun p _ => rfl⟩
          · obtain ⟨I3, A3⟩ := s'
            obtain ⟨i1, i2⟩ := hi
            replace i1 : mSy I' A' I3 A3 := i1
            replace i2 : ∀ p, p ≠ q → A3 1 p = A' 1 p := i2
            have hg : ∀ p, p < 24 → upd (A3 1) q (nI k) p = nI (upT th q k p) := fun p hp => by
              unfold upT
              by_cases c : p = q
              · rw [c, upd_s, if_pos rfl]
              · rw [upd_n c, if_neg c, i2 p c]; exact hm.1.2.2.2.1 p hp
            simp (disch := first | assumption | exact mnl_i | exact mnl_r | exact mnl_n | exact mnl_0 | omega) only [↓reduceIte, tolS, E164_43, E164_50.1, E164_50.2.1, E164_50.2.2.1, E164_50.2.2.2.1, E164_50.2.2.2.2.1, E164_50.2.2.2.2.2.1, E164_50.2.2.2.2.2.2.1, E164_50.2.2.2.2.2.2.2.1, E164_50.2.2.2.2.2.2.2.2.1, dShG, dShR, q_lt, hk, pix_nI]
            refine M163_T hF hm i1 hg (h99 k (by omega)) hj _ hq _ (fun I4 A4 p1 p2 => ?_)
            have ih' := ih (I4, A4) ⟨p1, fun p hp => by show A4 1 p = A' 1 p; rw [p2, upd_n hp]; exact i2 p hp⟩
            simp only [laW] at ih'
            rw [hw1]
            by_cases c : w0 k = true
            · rw [if_pos c] at ih'
              simp (disch := first | assumption | exact mnl_i | exact mnl_r | exact mnl_n | exact mnl_0 | omega) only [↓reduceIte, tolS, E164_50.2.2.2.2.2.2.2.2.2, c]
              simp (disch := first | assumption | exact mnl_i | exact mnl_r | exact mnl_n | exact mnl_0 | omega) only [E164_71, q_add]
              exact ih'
            · rw [if_neg c] at ih'
              simp (disch := first | assumption | exact mnl_i | exact mnl_r | exact mnl_n | exact mnl_0 | omega) only [↓reduceIte, tolS, E164_50.2.2.2.2.2.2.2.2.2, E164_67, c]
              simp (disch := first | assumption | exact mnl_i | exact mnl_r | exact mnl_n | exact mnl_0 | omega) only [E164_71, q_add]
              exact ih'
          · obtain ⟨I3, A3⟩ := s'
            obtain ⟨i1, i2⟩ := hi
            replace i1 : mSy I' A' I3 A3 := i1
            replace i2 : ∀ p, p ≠ q → A3 1 p = A' 1 p := i2
            have hk2 : ¬ 10 < 10 := by omega
            have e1 : upA A3 1 (upd (A3 1) q (A' 1 q)) = upA A3 1 (A' 1) := by
              congr 1
              funext p
              by_cases c : p = q
              · rw [c, upd_s]
              · rw [upd_n c, i2 p c]
            have fin := JR_T (v := some (.int v)) (L := L) (L' := L') (V' := V') hF hc hm s1 i1
            rw [← e1, hv] at fin
            simp (disch := first | assumption | exact mnl_i | exact mnl_r | exact mnl_n | exact mnl_0 | omega) only [↓reduceIte, tolS, E164_43, E164_77, dShG, dShR, q_lt, hk2, pix_nI]
            rw [hv]
            exact fin
        have hall : ∀ k, k < 10 → laW w0 10 = laW w0 (10 - k) → laW w0 10 = if w0 (9 - k) = true then laW w0 (9 - k) else nI (9 - k) := fun k hk hh => by
          rw [hh, show 10 - k = 9 - k + 1 by omega]; rfl
        simp (disch := first | assumption | exact mnl_i | exact mnl_r | exact mnl_n | exact mnl_0 | omega) only [↓reduceIte, tolS, E81_0, E81_13, E81_17, E81_26, E81_36.1, E81_36.2.1, E81_36.2.2.1, E81_36.2.2.2.1, E81_36.2.2.2.2.1, B81, cShG, kRider, S1_in hc.1.1 h5 hj, hlt, q_neg, q_lt, hq, q_ll, hc3, hat]
        refine S20_dream hF hc cS_refl _ _ (fun I2 V2 A2 s2 D2 _ => ?_)
        simp (disch := first | assumption | exact mnl_i | exact mnl_r | exact mnl_n | exact mnl_0 | omega) only [↓reduceIte, tolN, tolS, E81_36.2.2.2.2.2.1, E81_36.2.2.2.2.2.2]
        have e9 : (9 : Int32) = nI (10 - 0) + (-1) := by decide
        rw [e9]
        refine up_loop 10 (fun k (s' : TI × TI × Nat) => mFr (d + 89) 81 51 [some (.ref 0), some (.int (nI j)), some (.int (nI q)), some (.ref (6 + 1 * j)), some (.int (nI (10 - k) + (-1)))] [] (mkH cSh s'.1 V2 L s'.2.1) (fun v h => mRun (d + 90) 164 [.ref 0, .int (nI j), .int (nI q)] (mkH dSh I' V' L' A') (fun v' h' => JQ v h v' h'))) (fun k s' => cS I V A s'.1 V2 s'.2.1 ∧ DR s'.1 V2 s'.2.1 day rl (upT th q s'.2.2) ∧ laW w0 10 = laW w0 (10 - k)) (fun k s' hk hi ih => ?_) (fun s' hi => ?_) (I2, A2, th q) ⟨s2, DR_ext D2 (fun p hp => by unfold upT; split <;> simp [*]), rfl⟩
        · obtain ⟨I3, A3, t3⟩ := s'
          obtain ⟨i1, i2, i3⟩ := hi
          replace i1 : cS I V A I3 V2 A3 := i1
          replace i2 : DR I3 V2 A3 day rl (upT th q t3) := i2
          replace i3 : laW w0 10 = laW w0 (10 - k) := i3
          have hm1 : nI (10 - k) + (-1) = nI (9 - k) := by rw [show 10 - k = 9 - k + 1 by omega]; exact pk_m1 _
          show mFr (d + 89) 81 51 [some (.ref 0), some (.int (nI j)), some (.int (nI q)), some (.ref (6 + 1 * j)), some (.int (nI (10 - k) + (-1)))] [] (mkH cSh I3 V2 L A3) _
          rw [hm1]
          simp (disch := first | assumption | exact mnl_i | exact mnl_r | exact mnl_n | exact mnl_0 | omega) only [↓reduceIte, tolS, E81_51, E81_56.1, E81_56.2.1, E81_56.2.2.1, E81_56.2.2.2.1, E81_56.2.2.2.2.1, cShG, q_neg]
          refine S18_dream (v := 9 - k) i1 i2 hq _ _ (fun A4 s4 D4 => ?_)
          have D5 : DR I3 V2 A4 day rl (upT th q (9 - k)) := DR_ext D4 (fun p hp => by
            unfold upT
            by_cases c : p = q
            · rw [if_pos c, if_pos c]
            · rw [if_neg c, if_neg c, if_neg c])
          simp (disch := first | assumption | exact mnl_i | exact mnl_r | exact mnl_n | exact mnl_0 | omega) only [↓reduceIte, tolN, tolS, E81_56.2.2.2.2.2.1, E81_56.2.2.2.2.2.2.1, E81_56.2.2.2.2.2.2.2.1, E81_56.2.2.2.2.2.2.2.2.1, E81_56.2.2.2.2.2.2.2.2.2.1, E81_56.2.2.2.2.2.2.2.2.2.2.1, E81_56.2.2.2.2.2.2.2.2.2.2.2.1, cShG]
          refine S82_dream hF hc s4 D5 (h99 _ (by omega)) hrid (by omega) (seat_S hF hc s4 hj) hok _ hq hat _ (fun I5 A5 s5 D6 _ => ?_)
          rw [hw1]
          have hh := hall k hk i3
          by_cases c : w0 (9 - k) = true
          · rw [if_pos c] at hh
            have ih' := ih (I5, A5, 9 - k) ⟨s5, D6, by rw [hh, show 10 - (k + 1) = 9 - k by omega]⟩
            rw [show 10 - (k + 1) = 9 - k by omega] at ih'
            simp (disch := first | assumption | exact mnl_i | exact mnl_r | exact mnl_n | exact mnl_0 | omega) only [↓reduceIte, tolN, tolS, E81_56.2.2.2.2.2.2.2.2.2.2.2.2, c]
            simp (disch := first | assumption | exact mnl_i | exact mnl_r | exact mnl_n | exact mnl_0 | omega) only [E81_82]
            exact ih'
          · rw [if_neg c] at hh
            simp (disch := first | assumption | exact mnl_i | exact mnl_r | exact mnl_n | exact mnl_0 | omega) only [↓reduceIte, tolN, tolS, E81_56.2.2.2.2.2.2.2.2.2.2.2.2, E81_79, c]
            exact half _ I5 V2 A5 s5 hh.symm
        · obtain ⟨I3, A3, t3⟩ := s'
          obtain ⟨i1, i2, i3⟩ := hi
          have hneg : nI (10 - 10) + (-1) < 0 := by decide
          simp (disch := first | assumption | exact mnl_i | exact mnl_r | exact mnl_n | exact mnl_0 | omega) only [↓reduceIte, tolS, E81_51, E81_88, hneg]
          exact half _ I3 V2 A3 i1 i3.symm
      · have hb : mRun (d + 90) 164 [.ref 0, .int (nI j), .int (nI q)] (mkH dSh I' V' L' A') (fun v' h' => JQ (some (.int (-1))) (mkH cSh I V L A) v' h') := by
          simp (disch := first | assumption | exact mnl_i | exact mnl_r | exact mnl_n | exact mnl_0 | omega) only [↓reduceIte, tolS, E164_0, E164_8, E164_18, E164_28, B164, dShG, dShR, M116_in hm.1.1 h5 hj, n10, wq, pix_nI, hp5, q_ll, hat]
          exact JR_B hF hc hm
        simp (disch := first | assumption | exact mnl_i | exact mnl_r | exact mnl_n | exact mnl_0 | omega) only [↓reduceIte, tolS, E81_0, E81_13, E81_17, E81_26, E81_34, B81, cShG, kRider, S1_in hc.1.1 h5 hj, hlt, q_neg, q_lt, hq, q_ll, hc3, hat]
        exact hb
    · have wq := fun d h P => M117_out (i := w) hw d h P
      have hb : mRun (d + 90) 164 [.ref 0, .int (nI j), .int w] (mkH dSh I' V' L' A') (fun v' h' => JQ (some (.int (-2))) (mkH cSh I V L A) v' h') := by
        simp (disch := first | assumption | exact mnl_i | exact mnl_r | exact mnl_n | exact mnl_0 | omega) only [↓reduceIte, tolS, E164_0, E164_8, E164_15, B164, dShG, M116_in hm.1.1 h5 hj, n10, wq]
        exact JR_B hF hc hm
      rcases hw with hw | ⟨q, hq, hq2, rfl⟩
      · simp (disch := first | assumption | exact mnl_i | exact mnl_r | exact mnl_n | exact mnl_0 | omega) only [↓reduceIte, tolS, E81_0, E81_13, E81_23, B81, cShG, S1_in hc.1.1 h5 hj, hlt, hw]
        exact hb
      · have hq1 : ¬ q < 24 := by omega
        simp (disch := first | assumption | exact mnl_i | exact mnl_r | exact mnl_n | exact mnl_0 | omega) only [↓reduceIte, tolS, E81_0, E81_13, E81_17, E81_23, B81, cShG, S1_in hc.1.1 h5 hj, hlt, q_neg, q_lt, hq1]
        exact hb
  · simp (disch := first | assumption | exact mnl_i | exact mnl_r | exact mnl_n | exact mnl_0 | omega) only [↓reduceIte, tolS, E81_0, E81_23, B81, cShG, S1_out hc.1.1 h5 hx]
    simp (disch := first | assumption | exact mnl_i | exact mnl_r | exact mnl_n | exact mnl_0 | omega) only [↓reduceIte, tolS, E164_0, E164_15, B164, dShG, M116_out hm.1.1 h5 hx]
    exact JR_B hF hc hm
end L1
