/-! drawn, chance on both sides -/
def zS (seed : Int32) : Nat → Int32
  | 0 => seed
  | k + 1 => zS seed k * 1103515245 + 12345
def dv (z : Int32) : Int32 := (z.toUInt32 >>> (Int32.toUInt32 9 &&& Int32.toUInt32 31)).toInt32 - (z.toUInt32 >>> (Int32.toUInt32 9 &&& Int32.toUInt32 31)).toInt32 / 10 * 10
def dT (seed : Int32) (p : Nat) : Nat := (dv (zS seed (p + 1))).toNatClampNeg
theorem u32_i (w : UInt32) : w.toInt32 = nI w.toNat := by
  apply Int32.toBitVec_inj.mp
  simp [nI]
theorem dv_9 (z : Int32) : ∃ t, t ≤ 9 ∧ dv z = nI t := by
  have e9 : (Int32.toUInt32 9 &&& Int32.toUInt32 31) = (9 : UInt32) := by decide
  have hb : (z.toUInt32 >>> (9 : UInt32)).toNat < 2 ^ 31 := by
    rw [UInt32.toNat_shiftRight, Nat.shiftRight_eq_div_pow]
    have h1 := UInt32.toNat_lt z.toUInt32
    have h2 : (9 : UInt32).toNat % 32 = 9 := by decide
    rw [h2]
    omega
  refine ⟨(z.toUInt32 >>> (9 : UInt32)).toNat % 10, by omega, ?_⟩
  unfold dv
  rw [e9, u32_i]
  exact q_rem.2.2.2.2.2.2.2.2.2.1 _ hb
theorem dT_eq (seed : Int32) (p : Nat) : dv (zS seed (p + 1)) = nI (dT seed p) ∧ dT seed p ≤ 9 := by
  obtain ⟨t, h1, h2⟩ := dv_9 (zS seed (p + 1))
  unfold dT
  rw [h2, clN (by omega)]
  exact ⟨rfl, h1⟩
section K8
variable {I I' A A' I1 A1 : TI} {V V' V1 : TV} {L L' : Nat → Int64} {nt many day rl : Nat} {R : Nat → Nat → Nat} {th th' : Nat → Nat} {W : Nat → Nat → List Int32} {e : TE}
theorem S19_dream (s : cS I V A I1 V1 A1) (D : DR I1 V1 A1 day rl th') (seed : Int32) (d : Nat) (P : MP) (hP : ∀ A2, cS I V A I1 V1 A2 → DR I1 V1 A2 day rl (dT seed) → P none (mkH cSh I1 V1 L A2)) : mRun (d + 1) 19 [.ref 63, .int seed] (mkH cSh I1 V1 L A1) P := by
  have n10' : ¬ (10 : Int32) = 0 := by decide
  simp (disch := first | assumption | exact mnl_i | exact mnl_r | exact mnl_n | exact mnl_0 | omega) only [↓reduceIte, tolS, E19_0, B19]
  refine up_loop 24 (fun k (A2 : TI) => mFr d 19 4 [some (.ref 63), some (.int seed), some (.int (zS seed k)), some (.int (nI k))] [] (mkH cSh I1 V1 L A2) P) (fun k A2 => cS I V A I1 V1 A2 ∧ ∀ p, p < k → A2 64 p = nI (dT seed p)) (fun k A2 hk hi ih => ?_) (fun A2 hi => ?_) A1 ⟨s, fun p hp => absurd hp (Nat.not_lt_zero _)⟩
  · have hz : zS seed k * 1103515245 + 12345 = zS seed (k + 1) := rfl
    have hd : (Int32.toUInt32 (zS seed (k + 1)) >>> (Int32.toUInt32 9 &&& Int32.toUInt32 31)).toInt32 - (Int32.toUInt32 (zS seed (k + 1)) >>> (Int32.toUInt32 9 &&& Int32.toUInt32 31)).toInt32 / 10 * 10 = nI (dT seed k) := (dT_eq seed k).1
    simp (disch := first | assumption | exact mnl_i | exact mnl_r | exact mnl_n | exact mnl_0 | omega) only [↓reduceIte, tolS, E19_4, cShG, cShR, nI_d, q_ll, hk]
    simp (disch := first | assumption | exact mnl_i | exact mnl_r | exact mnl_n | exact mnl_0 | omega) only [↓reduceIte, E19_13, cShG, cShR, hz, n10', hd, pix_nI, q_add]
    refine ih _ ⟨⟨hi.1.1, hi.1.2.1, fun b hb => ?_⟩, fun p hp => ?_⟩
    · rw [upA_n (by unfold scA at hb; omega)]; exact hi.1.2.2 b hb
    · rw [upA_s]
      by_cases c : p = k
      · rw [c, upd_s]
      · rw [upd_n c]; exact hi.2 p (by omega)
  · have hk : ¬ 24 < 24 := by omega
    simp (disch := first | assumption | exact mnl_i | exact mnl_r | exact mnl_n | exact mnl_0 | omega) only [↓reduceIte, tolS, E19_4, E19_41, cShG, cShR, nI_d, q_ll, hk]
    exact hP A2 hi.1 ⟨D.1, D.2.1, hi.2⟩
theorem S100 (hF : FB nt many R th day rl e) (hc : CB I V A nt W many R th day rl e) (s : cS I V A I1 V1 A1) {j : Nat} (hj : j < many) (seed : Int32) (d : Nat) (P : MP) (hP : ∀ I2 V2 A2, cS I V A I2 V2 A2 → P (some (.int (nI (takesN (W rl) (dT seed) day (R j))))) (mkH cSh I2 V2 L A2)) : mRun (d + 6) 100 [.ref 0, .int seed, .ref (6 + 1 * j)] (mkH cSh I1 V1 L A1) P := by
  have h5 := hF.1.1
  have hrid := c6j (j := j) (by omega)
  simp (disch := first | assumption | exact mnl_i | exact mnl_r | exact mnl_n | exact mnl_0 | omega) only [↓reduceIte, tolS, E100_0.1, E100_0.2.1, E100_0.2.2.1, E100_0.2.2.2.1, E100_0.2.2.2.2.1, B100, cShG]
  refine S20_dream hF hc s _ _ (fun I2 V2 A2 s2 D2 _ => ?_)
  simp (disch := first | assumption | exact mnl_i | exact mnl_r | exact mnl_n | exact mnl_0 | omega) only [↓reduceIte, tolN, tolS, E100_0.2.2.2.2.2.1, E100_0.2.2.2.2.2.2.1, E100_0.2.2.2.2.2.2.2.1, E100_0.2.2.2.2.2.2.2.2.1, cShG]
  refine S19_dream s2 D2 seed _ _ (fun A3 s3 D3 => ?_)
  simp (disch := first | assumption | exact mnl_i | exact mnl_r | exact mnl_n | exact mnl_0 | omega) only [↓reduceIte, tolN, tolS, E100_0.2.2.2.2.2.2.2.2.2.1, E100_0.2.2.2.2.2.2.2.2.2.2.1, E100_0.2.2.2.2.2.2.2.2.2.2.2.1, E100_0.2.2.2.2.2.2.2.2.2.2.2.2.1, E100_0.2.2.2.2.2.2.2.2.2.2.2.2.2.1, E100_0.2.2.2.2.2.2.2.2.2.2.2.2.2.2.1, cShG]
  refine S75_dream hF hc s3 D3 (fun p _ => (dT_eq seed p).2) hrid (by omega) (seat_S hF hc s3 hj) (hF.1.2.1 j hj) _ _ (fun I4 A4 s4 D4 _ => ?_)
  simp (disch := first | assumption | exact mnl_i | exact mnl_r | exact mnl_n | exact mnl_0 | omega) only [↓reduceIte, tolS, E100_0.2.2.2.2.2.2.2.2.2.2.2.2.2.2.2]
  exact hP I4 V2 A4 s4
theorem M181 (hF : FB nt many R th day rl e) (hm : MB I A nt W many R th day rl e) (s : mSx I A I1 A1) {j : Nat} (hj : j < many) (seed : Int32) (d : Nat) (P : MP) (hP : ∀ I2 A2, mSx I A I2 A2 → P (some (.int (nI (takesN (W rl) (dT seed) day (R j))))) (mkH dSh I2 V L A2)) : mRun (d + 7) 181 [.ref 0, .int seed, .int (nI j)] (mkH dSh I1 V L A1) P := by
  have n10' : ¬ (10 : Int32) = 0 := by decide
  simp (disch := first | assumption | exact mnl_i | exact mnl_r | exact mnl_n | exact mnl_0 | omega) only [↓reduceIte, tolS, E181_0, B181]
  refine up_loop 24 (fun k (A2 : TI) => mFr (d + 6) 181 5 [some (.ref 0), some (.int seed), some (.int (nI j)), some (.int (zS seed k)), some (.int (nI k)), none] [] (mkH dSh I1 V L A2) P) (fun k A2 => (∀ b, b ≠ 1 → b ≠ 15 → A2 b = A1 b) ∧ (∀ p, A2 1 p = if p < k then nI (dT seed p) else A1 1 p) ∧ ∀ p, p < k → A2 15 p = A1 1 p) (fun k A2 hk hi ih => ?_) (fun A2 hi => ?_) A1 ⟨fun _ _ _ => rfl, fun p => by rw [if_neg (by omega)], fun p hp => absurd hp (Nat.not_lt_zero _)⟩
  · have hk2 : ¬ 23 < k := by omega
    have hz : zS seed k * 1103515245 + 12345 = zS seed (k + 1) := rfl
    have hd : (Int32.toUInt32 (zS seed (k + 1)) >>> (Int32.toUInt32 9 &&& Int32.toUInt32 31)).toInt32 - (Int32.toUInt32 (zS seed (k + 1)) >>> (Int32.toUInt32 9 &&& Int32.toUInt32 31)).toInt32 / 10 * 10 = nI (dT seed k) := (dT_eq seed k).1
    simp (disch := first | assumption | exact mnl_i | exact mnl_r | exact mnl_n | exact mnl_0 | omega) only [↓reduceIte, tolS, E181_5, q_gt, hk2]
    simp (disch := first | assumption | exact mnl_i | exact mnl_r | exact mnl_n | exact mnl_0 | omega) only [↓reduceIte, E181_12, dShG, dShR, hz, n10', hd, pix_nI, upA_n, q_add]
    refine ih _ ⟨fun b h1 h15 => by rw [upA_n h1, upA_n h15]; exact hi.1 b h1 h15, fun p => ?_, fun p hp => ?_⟩
    · rw [upA_s]
      by_cases c : p = k
      · rw [c, upd_s, if_pos (by omega)]
      · rw [upd_n c, hi.2.1 p]
        by_cases c2 : p < k
        · rw [if_pos c2, if_pos (by omega)]
        · rw [if_neg c2, if_neg (by omega)]
    · rw [upA_n (by omega), upA_s]
      by_cases c : p = k
      · rw [c, upd_s, hi.2.1 k, if_neg (by omega)]
      · rw [upd_n c]; exact hi.2.2 p (by omega)
  · have hk2 : 23 < 24 := by omega
    obtain ⟨i1, i2, i3⟩ := hi
    have e1 : A2 = upA (upA A2 1 (A1 1)) 1 (A2 1) := by rw [upA_u, upA_self]
    have sX : mSx I A I1 (upA A2 1 (A1 1)) := mSx_trans s ⟨fun _ _ => rfl, fun b hb => by
      by_cases c : b = 1
      · rw [c, upA_s]
      · rw [upA_n c]; exact i1 b c (by omega)⟩
    have hg : ∀ p, p < 24 → A2 1 p = nI (dT seed p) := fun p hp => by rw [i2 p, if_pos hp]
    simp (disch := first | assumption | exact mnl_i | exact mnl_r | exact mnl_n | exact mnl_0 | omega) only [↓reduceIte, tolS, E181_5, E181_56.1, E181_56.2.1, E181_56.2.2.1, q_gt, hk2, dShG]
    have hgo := M157_T (V := V) (L := L) hF hm sX hg (fun p _ => (dT_eq seed p).2) hj d (fun v h' => mFr (d + 6) 181 61 [some (.ref 0), some (.int seed), some (.int (nI j)), some (.int (zS seed 24)), some (.int (nI 24)), none] (v.toList ++ []) h' P) (fun I3 A3 p1 p2 _ => ?_)
    · rw [← e1] at hgo
      exact hgo
    · rw [← e1] at p2
      simp (disch := first | assumption | exact mnl_i | exact mnl_r | exact mnl_n | exact mnl_0 | omega) only [↓reduceIte, tolS, E181_56.2.2.2.1, E181_56.2.2.2.2.1, E181_56.2.2.2.2.2]
      refine up_loop 24 (fun k (A4 : TI) => mFr (d + 6) 181 66 [some (.ref 0), some (.int seed), some (.int (nI j)), some (.int (zS seed 24)), some (.int (nI (takesN (W rl) (dT seed) day (R j)))), some (.int (nI k))] [] (mkH dSh I3 V L A4) P) (fun k A4 => (∀ b, b ≠ 1 → A4 b = A3 b) ∧ ∀ p, A4 1 p = if p < k then A1 1 p else A3 1 p) (fun k A4 hk hi ih => ?_) (fun A4 hi => ?_) A3 ⟨fun _ _ => rfl, fun p => by rw [if_neg (by omega)]⟩
      · have hk3 : ¬ 23 < k := by omega
        have h15 : A4 15 k = A1 1 k := by rw [hi.1 15 (by omega), p2 15 (by omega) (by omega)]; exact i3 k hk
        simp (disch := first | assumption | exact mnl_i | exact mnl_r | exact mnl_n | exact mnl_0 | omega) only [↓reduceIte, tolS, E181_66, q_gt, hk3]
        simp (disch := first | assumption | exact mnl_i | exact mnl_r | exact mnl_n | exact mnl_0 | omega) only [↓reduceIte, E181_73, dShG, dShR, pix_nI, h15, q_add]
        refine ih _ ⟨fun b hb => by rw [upA_n hb]; exact hi.1 b hb, fun p => ?_⟩
        rw [upA_s]
        by_cases c : p = k
        · rw [c, upd_s, if_pos (by omega)]
        · rw [upd_n c, hi.2 p]
          by_cases c2 : p < k
          · rw [if_pos c2, if_pos (by omega)]
          · rw [if_neg c2, if_neg (by omega)]
      · simp (disch := first | assumption | exact mnl_i | exact mnl_r | exact mnl_n | exact mnl_0 | omega) only [↓reduceIte, tolS, E181_66, E181_93, q_gt, hk2]
        refine hP I3 A4 (mSx_trans s ⟨p1, fun b hb => ?_⟩)
        by_cases c : b = 1
        · rw [c]
          funext p
          rw [hi.2 p]
          by_cases c2 : p < 24
          · rw [if_pos c2]
          · rw [if_neg c2, p2 1 (by omega) (by omega), i2 p, if_neg c2]
        · rw [hi.1 b c, p2 b (by omega) (by omega)]
          exact i1 b c (by omega)
theorem J99 {hC hM : MH} (h : REL hC hM) (d : Nat) (seed x : Int32) : JR (d + 90) 99 182 [.int seed, .int x] hC hM := by
  obtain ⟨I, V, L, A, I', V', L', A', nt, W, many, R, th, day, rl, e, ec, em, hF, hc, hm⟩ := REL_B h
  rw [ec, em]
  unfold JR
  have h5 := hF.1.1
  rcases i32_ix x many with ⟨j, hj, hj2, rfl⟩ | hx
  · have hlt : 6 + 1 * j < 900 := by omega
    simp (disch := first | assumption | exact mnl_i | exact mnl_r | exact mnl_n | exact mnl_0 | omega) only [↓reduceIte, tolS, E99_0, E99_18.1, E99_18.2.1, E99_18.2.2.1, E99_18.2.2.2.1, E99_18.2.2.2.2, B99, cShG, S1_in hc.1.1 h5 hj, hlt]
    refine S100 hF hc cS_refl hj seed _ _ (fun I2 V2 A2 s2 => ?_)
    simp (disch := first | assumption | exact mnl_i | exact mnl_r | exact mnl_n | exact mnl_0 | omega) only [↓reduceIte, tolS, E99_24]
    simp (disch := first | assumption | exact mnl_i | exact mnl_r | exact mnl_n | exact mnl_0 | omega) only [↓reduceIte, tolS, E182_0, E182_8.1, E182_8.2.1, E182_8.2.2.1, E182_8.2.2.2.1, B182, dShG, M116_in hm.1.1 h5 hj, n10]
    refine M181 hF hm mSx_refl hj seed _ _ (fun I3 A3 s3 => ?_)
    simp (disch := first | assumption | exact mnl_i | exact mnl_r | exact mnl_n | exact mnl_0 | omega) only [↓reduceIte, tolS, E182_8.2.2.2.2, E182_19]
    exact JR_T hF hc hm s2 s3
  · simp (disch := first | assumption | exact mnl_i | exact mnl_r | exact mnl_n | exact mnl_0 | omega) only [↓reduceIte, tolS, E99_0, E99_13, E99_24, B99, cShG, S1_out hc.1.1 h5 hx]
    simp (disch := first | assumption | exact mnl_i | exact mnl_r | exact mnl_n | exact mnl_0 | omega) only [↓reduceIte, tolS, E182_0, E182_17, E182_19, B182, dShG, M116_out hm.1.1 h5 hx]
    exact JR_B hF hc hm
def lowC (g m a : Nat) : Nat → Nat
  | 0 => a
  | d + 1 => if 1 < d + 1 then (if g % (d + 1) = 0 ∧ m % (d + 1) = 0 then a / (d + 1) else lowC g m a d) else a
theorem low_gcd : ∀ m, m < 21 → 0 < m → ∀ g, g ≤ m → lowC g m g m = g / Nat.gcd g m ∧ lowC g m m m = m / Nat.gcd g m := by decide +kernel
theorem rem21 : ∀ x, x < 21 → ∀ y, y < 21 → 0 < y → nI x - nI x / nI y * nI y = nI (x % y) ∧ nI x / nI y = nI (x / y) := by decide +kernel
theorem S102 {g m a q : Nat} (hm : m < 21) (hg : g ≤ m) (ha : (q = 0 ∧ a = g) ∨ (q = 1 ∧ a = m)) (d : Nat) (h : MH) (P : MP) (hP : P (some (.int (nI (lowC g m a m)))) h) : mRun (d + 1) 102 [.int (nI g), .int (nI m), .int (nI q)] h P := by
  have ham : a < 21 := by omega
  have loop : ∀ k, k ≤ m → P (some (.int (nI (lowC g m a k)))) h → mFr d 102 13 [some (.int (nI g)), some (.int (nI m)), some (.int (nI q)), some (.int (nI a)), some (.int (nI k))] [] h P := by
    intro k
    induction k with
    | zero =>
      intro _ hP
      simp (disch := first | assumption | exact mnl_i | exact mnl_r | exact mnl_n | exact mnl_0 | omega) only [↓reduceIte, tolS, E102_13, E102_44, show ¬ (1 : Int32) < nI 0 by decide]
      exact hP
    | succ k ih =>
      intro hk hP
      simp only [lowC] at hP
      by_cases c1 : 1 < k + 1
      · rw [if_pos c1] at hP
        have hn0 : ¬ nI (k + 1) = 0 := fun z => by have := (nI_eq (a := k + 1) (b := 0) (by omega) (by omega)).mp z; omega
        have r1 := (rem21 g (by omega) (k + 1) (by omega) (by omega)).1
        have r2 := (rem21 m (by omega) (k + 1) (by omega) (by omega)).1
        have r3 := (rem21 a (by omega) (k + 1) (by omega) (by omega)).2
        have b1 : g % (k + 1) < 2 ^ 31 := by have := Nat.mod_lt g (show 0 < k + 1 by omega); omega
        have b2 : m % (k + 1) < 2 ^ 31 := by have := Nat.mod_lt m (show 0 < k + 1 by omega); omega
        have hv : nI (k + 1) + (-1) = nI k := pk_m1 k
        by_cases c2 : g % (k + 1) = 0
        · by_cases c3 : m % (k + 1) = 0
          · rw [if_pos ⟨c2, c3⟩] at hP
            simp (disch := first | assumption | exact mnl_i | exact mnl_r | exact mnl_n | exact mnl_0 | omega) only [↓reduceIte, tolS, E102_13, E102_19, E102_26, E102_33, q_gt, c1, hn0, r1, r2, r3, q_eq, c2, c3]
            exact hP
          · rw [if_neg (fun z => c3 z.2)] at hP
            simp (disch := first | assumption | exact mnl_i | exact mnl_r | exact mnl_n | exact mnl_0 | omega) only [↓reduceIte, tolS, E102_13, E102_19, E102_26, q_gt, c1, hn0, r1, r2, q_eq, c2, c3]
            simp (disch := first | assumption | exact mnl_i | exact mnl_r | exact mnl_n | exact mnl_0 | omega) only [E102_38, hv]
            exact ih (by omega) hP
        · rw [if_neg (fun z => c2 z.1)] at hP
          simp (disch := first | assumption | exact mnl_i | exact mnl_r | exact mnl_n | exact mnl_0 | omega) only [↓reduceIte, tolS, E102_13, E102_19, q_gt, c1, hn0, r1, q_eq, c2]
          simp (disch := first | assumption | exact mnl_i | exact mnl_r | exact mnl_n | exact mnl_0 | omega) only [E102_38, hv]
          exact ih (by omega) hP
      · rw [if_neg c1] at hP
        simp (disch := first | assumption | exact mnl_i | exact mnl_r | exact mnl_n | exact mnl_0 | omega) only [↓reduceIte, tolS, E102_13, E102_44, q_gt, c1]
        exact hP
  rcases ha with ⟨rfl, rfl⟩ | ⟨rfl, rfl⟩
  · simp (disch := first | assumption | exact mnl_i | exact mnl_r | exact mnl_n | exact mnl_0 | omega) only [↓reduceIte, tolS, E102_0, E102_4, E102_9, B102, show nI 0 = 0 from rfl]
    exact loop m (Nat.le_refl _) hP
  · simp (disch := first | assumption | exact mnl_i | exact mnl_r | exact mnl_n | exact mnl_0 | omega) only [↓reduceIte, tolS, E102_0, E102_8, E102_9, B102, show nI 1 = 1 from rfl, n10]
    exact loop _ (Nat.le_refl _) hP
theorem M183_gcd {l0 l1 l2 l3 l4 l5 l6 : Option Value} (h6 : mnl l6 = true) (h : MH) (d : Nat) (P : MP) (G : Nat) : ∀ (y x : Nat) (l9 : Option Value), x < 21 → y < 21 → Nat.gcd x y = G → (∀ l9', mFr d 183 109 [l0, l1, l2, l3, l4, l5, l6, some (.int (nI G)), some (.int (nI 0)), l9'] [] h P) → mFr d 183 86 [l0, l1, l2, l3, l4, l5, l6, some (.int (nI x)), some (.int (nI y)), l9] [] h P := by
  intro y
  induction y using Nat.strongRecOn with
  | ind y ih =>
    intro x l9 hx hy hG hP
    by_cases c : y = 0
    · subst c
      rw [Nat.gcd_zero_right] at hG
      subst hG
      simp (disch := first | assumption | exact mnl_i | exact mnl_r | exact mnl_n | exact mnl_0 | omega) only [↓reduceIte, tolS, E183_86, show nI 0 = 0 from rfl]
      exact hP l9
    · have hn0 : ¬ nI y = 0 := fun z => by have := (nI_eq (a := y) (b := 0) (by omega) (by omega)).mp z; omega
      have r1 := (rem21 x hx y hy (by omega)).1
      have hlt := Nat.mod_lt x (show 0 < y by omega)
      simp (disch := first | assumption | exact mnl_i | exact mnl_r | exact mnl_n | exact mnl_0 | omega) only [↓reduceIte, tolS, E183_86, hn0]
      simp (disch := first | assumption | exact mnl_i | exact mnl_r | exact mnl_n | exact mnl_0 | omega) only [↓reduceIte, E183_91, hn0, r1]
      refine ih (x % y) hlt y _ hy (by omega) ?_ hP
      rw [Nat.gcd_comm, ← Nat.gcd_rec, Nat.gcd_comm]
      exact hG
theorem J101 {hC hM : MH} (h : REL hC hM) (d : Nat) (seed m x k w : Int32) : JR (d + 90) 101 183 [.int seed, .int m, .int x, .int k, .int w] hC hM := by
  obtain ⟨I, V, L, A, I', V', L', A', nt, W, many, R, th, day, rl, e, ec, em, hF, hc, hm⟩ := REL_B h
  rw [ec, em]
  unfold JR
  have h5 := hF.1.1
  have fin := fun v => JR_B (v := v) (L := L) (L' := L') (V' := V') hF hc hm
  rcases i32_ix x many with ⟨j, hj, hj2, rfl⟩ | hx
  · have hlt : 6 + 1 * j < 900 := by omega
    have hm1 : (∃ a, 1 ≤ a ∧ a ≤ 20 ∧ m = nI a) ∨ (m < 1 ∨ (20 : Int32) < m) := by
      rcases i32_ix m 21 with ⟨a, ha, ha2, rfl⟩ | h | ⟨a, ha, ha2, rfl⟩
      · by_cases c : 1 ≤ a
        · exact Or.inl ⟨a, c, by omega, rfl⟩
        · have : a = 0 := by omega
          subst this
          exact Or.inr (Or.inl (by decide))
      · right; left
        rw [i32_lt] at h ⊢
        have e0 : (0 : Int32).toInt = 0 := by decide
        have e1 : (1 : Int32).toInt = 1 := by decide
        omega
      · exact Or.inr (Or.inr ((nI_ltI (a := 20) (by omega) ha2).mpr (by omega)))
    rcases hm1 with ⟨a, ha, ha2, rfl⟩ | hmo
    · have na : ¬ nI a < 1 := fun z => by have := (nI_ltI (b := 1) (by omega) (by omega)).mp z; omega
      have na2 : ¬ 20 < a := by omega
      rcases i32_ix k 241 with ⟨b, hb, hb2, rfl⟩ | hk
      · have nb : ¬ 240 < b := by omega
        have wk := fun d h P => M114_in (y := 240) (n := 240) (j := b) rfl (by omega) (by omega) d h P
        rcases i32_ix w 2 with ⟨q, hq, hq2, rfl⟩ | hw
        · have nq : ¬ 1 < q := by omega
          have wq := fun d h P => M114_in (y := 1) (n := 1) (j := q) rfl (by omega) (by omega) d h P
          generalize hG : (fun i => if takesN (W rl) (dT (seed + nI i)) day (R j) ≤ b then 1 else 0) = G
          have hGi : ∀ i, G i = if takesN (W rl) (dT (seed + nI i)) day (R j) ≤ b then 1 else 0 := fun i => by rw [← hG]
          have hGs : ∀ i, sumN G i ≤ i := by
            intro i
            induction i with
            | zero => exact Nat.le_refl _
            | succ i ih =>
              show sumN G i + G i ≤ i + 1
              rw [hGi]
              split <;> omega
          have half : ∀ (v : Int64) (I1 : TI) (V1 : TV) (A1 : TI), cS I V A I1 V1 A1 → v = (nI (lowC (sumN G a) a (if q = 0 then sumN G a else a) a)).toInt64 → mRun (d + 90) 183 [.ref 0, .int seed, .int (nI a), .int (nI j), .int (nI b), .int (nI q)] (mkH dSh I' V' L' A') (fun v' h' => JQ (some (.long v)) (mkH cSh I1 V1 L A1) v' h') := by
            intro v I1 V1 A1 s1 hv
            simp (disch := first | assumption | exact mnl_i | exact mnl_r | exact mnl_n | exact mnl_0 | omega) only [↓reduceIte, tolS, E183_0, E183_8, E183_18, E183_30, E183_44, B183, dShG, M116_in hm.1.1 h5 hj, n10, M114p, na, q_gt, na2, nb, q_neg, nq]
            refine up_loop a (fun i (s' : TI × TI) => mFr (d + 89) 183 50 [some (.ref 0), some (.int seed), some (.int (nI a)), some (.int (nI j)), some (.int (nI b)), some (.int (nI q)), some (.int (nI (sumN G i))), some (.int (nI i)), none, none] [] (mkH dSh s'.1 V' L' s'.2) (fun v' h' => JQ (some (.long v)) (mkH cSh I1 V1 L A1) v' h')) (fun i s' => mSx I' A' s'.1 s'.2) (fun i s' hi hs ih => ?_) (fun s' hs => ?_) (I', A') mSx_refl
            · obtain ⟨I2, A2⟩ := s'
              replace hs : mSx I' A' I2 A2 := hs
              have hle := takesN_le (W := W rl) (th := dT (seed + nI i)) (day := day) (r := R j)
              simp (disch := first | assumption | exact mnl_i | exact mnl_r | exact mnl_n | exact mnl_0 | omega) only [↓reduceIte, tolS, E183_50, E183_56.1, E183_56.2.1, E183_56.2.2.1, E183_56.2.2.2.1, E183_56.2.2.2.2.1, E183_56.2.2.2.2.2.1, dShG, q_ll, hi]
              refine M181 hF hm hs hj _ _ _ (fun I3 A3 s3 => ?_)
              have ih' := ih (I3, A3) s3
              simp only [sumN] at ih'
              rw [hGi] at ih'
              by_cases c : takesN (W rl) (dT (seed + nI i)) day (R j) ≤ b
              · have c' : ¬ b < takesN (W rl) (dT (seed + nI i)) day (R j) := by omega
                rw [if_pos c] at ih'
                simp (disch := first | assumption | exact mnl_i | exact mnl_r | exact mnl_n | exact mnl_0 | omega) only [↓reduceIte, tolS, E183_56.2.2.2.2.2.2.1, E183_56.2.2.2.2.2.2.2, E183_70, q_ll, c', q_add]
                simp (disch := first | assumption | exact mnl_i | exact mnl_r | exact mnl_n | exact mnl_0 | omega) only [E183_73, q_add]
                exact ih'
              · have c' : b < takesN (W rl) (dT (seed + nI i)) day (R j) := by omega
                rw [if_neg c, Nat.add_zero] at ih'
                simp (disch := first | assumption | exact mnl_i | exact mnl_r | exact mnl_n | exact mnl_0 | omega) only [↓reduceIte, tolS, E183_56.2.2.2.2.2.2.1, E183_56.2.2.2.2.2.2.2, q_ll, c']
                simp (disch := first | assumption | exact mnl_i | exact mnl_r | exact mnl_n | exact mnl_0 | omega) only [E183_73, q_add]
                exact ih'
            · obtain ⟨I2, A2⟩ := s'
              replace hs : mSx I' A' I2 A2 := hs
              have hna : ¬ a < a := by omega
              have hg := hGs a
              generalize sumN G a = g at hg hv ⊢
              simp (disch := first | assumption | exact mnl_i | exact mnl_r | exact mnl_n | exact mnl_0 | omega) only [↓reduceIte, tolS, E183_50, E183_79, q_ll, hna]
              obtain ⟨w1, w2⟩ := low_gcd a (by omega) (by omega) g hg
              have hpos : 0 < Nat.gcd g a := Nat.gcd_pos_of_pos_right _ (by omega)
              have hgl : Nat.gcd g a ≤ a := Nat.gcd_le_right _ (by omega)
              refine M183_gcd rfl _ _ _ (Nat.gcd g a) a g none (by omega) (by omega) rfl (fun l9 => ?_)
              have hn0 : ¬ nI (Nat.gcd g a) = 0 := fun z => by have := (nI_eq (a := Nat.gcd g a) (b := 0) (by omega) (by omega)).mp z; omega
              have d1 := (rem21 g (by omega) (Nat.gcd g a) (by omega) hpos).2
              have d2 := (rem21 a (by omega) (Nat.gcd g a) (by omega) hpos).2
              have fin2 := JR_T (v := some (.long v)) (L := L) (L' := L') (V' := V') hF hc hm s1 hs
              by_cases c0 : q = 0
              · rw [if_pos c0, w1] at hv
                simp (disch := first | assumption | exact mnl_i | exact mnl_r | exact mnl_n | exact mnl_0 | omega) only [↓reduceIte, tolS, E183_109, E183_114, E183_128, q_eq, c0, hn0, d1]
                rw [← hv]
                exact fin2
              · rw [if_neg c0, w2] at hv
                simp (disch := first | assumption | exact mnl_i | exact mnl_r | exact mnl_n | exact mnl_0 | omega) only [↓reduceIte, tolS, E183_109, E183_123, E183_128, q_eq, c0, hn0, d2]
                rw [← hv]
                exact fin2
          simp (disch := first | assumption | exact mnl_i | exact mnl_r | exact mnl_n | exact mnl_0 | omega) only [↓reduceIte, tolS, E101_0, E101_15, E101_20, E101_26, E101_31, E101_39, E101_44, E101_54, B101, cShG, S1_in hc.1.1 h5 hj, hlt, na, q_gt, na2, q_neg, nb, nq]
          refine up_loop a (fun i (s' : TI × TV × TI) => mFr (d + 89) 101 60 [some (.ref 0), some (.int seed), some (.int (nI a)), some (.int (nI j)), some (.int (nI b)), some (.int (nI q)), some (.ref (6 + 1 * j)), some (.int (nI (sumN G i))), some (.int (nI i))] [] (mkH cSh s'.1 s'.2.1 L s'.2.2) (fun v h => mRun (d + 90) 183 [.ref 0, .int seed, .int (nI a), .int (nI j), .int (nI b), .int (nI q)] (mkH dSh I' V' L' A') (fun v' h' => JQ v h v' h'))) (fun i s' => cS I V A s'.1 s'.2.1 s'.2.2) (fun i s' hi hs ih => ?_) (fun s' hs => ?_) (I, V, A) cS_refl
          · obtain ⟨I2, V2, A2⟩ := s'
            replace hs : cS I V A I2 V2 A2 := hs
            have hle := takesN_le (W := W rl) (th := dT (seed + nI i)) (day := day) (r := R j)
            simp (disch := first | assumption | exact mnl_i | exact mnl_r | exact mnl_n | exact mnl_0 | omega) only [↓reduceIte, tolS, E101_60, E101_66.1, E101_66.2.1, E101_66.2.2.1, E101_66.2.2.2.1, E101_66.2.2.2.2.1, E101_66.2.2.2.2.2.1, E101_66.2.2.2.2.2.2.1, cShG, q_ll, hi]
            refine S100 hF hc hs hj _ _ _ (fun I3 V3 A3 s3 => ?_)
            have ih' := ih (I3, V3, A3) s3
            simp only [sumN] at ih'
            rw [hGi] at ih'
            by_cases c : takesN (W rl) (dT (seed + nI i)) day (R j) ≤ b
            · have c' : ¬ b < takesN (W rl) (dT (seed + nI i)) day (R j) := by omega
              rw [if_pos c] at ih'
              simp (disch := first | assumption | exact mnl_i | exact mnl_r | exact mnl_n | exact mnl_0 | omega) only [↓reduceIte, tolS, E101_66.2.2.2.2.2.2.2.1, E101_66.2.2.2.2.2.2.2.2, E101_81, q_ll, c', q_add]
              simp (disch := first | assumption | exact mnl_i | exact mnl_r | exact mnl_n | exact mnl_0 | omega) only [E101_84, q_add]
              exact ih'
            · have c' : b < takesN (W rl) (dT (seed + nI i)) day (R j) := by omega
              rw [if_neg c, Nat.add_zero] at ih'
              simp (disch := first | assumption | exact mnl_i | exact mnl_r | exact mnl_n | exact mnl_0 | omega) only [↓reduceIte, tolS, E101_66.2.2.2.2.2.2.2.1, E101_66.2.2.2.2.2.2.2.2, q_ll, c']
              simp (disch := first | assumption | exact mnl_i | exact mnl_r | exact mnl_n | exact mnl_0 | omega) only [E101_84, q_add]
              exact ih'
          · obtain ⟨I2, V2, A2⟩ := s'
            replace hs : cS I V A I2 V2 A2 := hs
            have hna : ¬ a < a := by omega
            simp (disch := first | assumption | exact mnl_i | exact mnl_r | exact mnl_n | exact mnl_0 | omega) only [↓reduceIte, tolS, E101_60, E101_90.1, E101_90.2.1, E101_90.2.2.1, E101_90.2.2.2.1, q_ll, hna]
            refine S102 (a := if q = 0 then sumN G a else a) (by omega) (hGs a) ?_ _ _ _ ?_
            · by_cases c0 : q = 0
              · left; rw [if_pos c0]; exact ⟨c0, rfl⟩
              · right; rw [if_neg c0]; exact ⟨by omega, rfl⟩
            · simp (disch := first | assumption | exact mnl_i | exact mnl_r | exact mnl_n | exact mnl_0 | omega) only [↓reduceIte, tolS, E101_90.2.2.2.2.1, E101_90.2.2.2.2.2]
              exact half _ I2 V2 A2 hs rfl
        · have hb' : mRun (d + 90) 183 [.ref 0, .int seed, .int (nI a), .int (nI j), .int (nI b), .int w] (mkH dSh I' V' L' A') (fun v' h' => JQ (some (.long (-4611686018427387904))) (mkH cSh I V L A) v' h') := by
            have wq := fun d h P => M114_out (y := 1) (n := 1) (x := w) rfl hw d h P
            simp (disch := first | assumption | exact mnl_i | exact mnl_r | exact mnl_n | exact mnl_0 | omega) only [↓reduceIte, tolS, E183_0, E183_8, B183, dShG, M116_in hm.1.1 h5 hj, n10, M114p, na, q_gt, na2]
            simp (disch := first | assumption | exact mnl_i | exact mnl_r | exact mnl_n | exact mnl_0 | omega) only [↓reduceIte, tolS, E183_18, E183_30, E183_40, dShG, n10, wk, wq]
            exact fin _
          rcases hw with hw | ⟨q, hq, hq2, rfl⟩
          · simp (disch := first | assumption | exact mnl_i | exact mnl_r | exact mnl_n | exact mnl_0 | omega) only [↓reduceIte, tolS, E101_0, E101_15, E101_20, E101_26, E101_31, E101_39, E101_50, B101, cShG, S1_in hc.1.1 h5 hj, hlt, na, q_gt, na2, q_neg, nb, hw]
            exact hb'
          · have nq : 1 < q := by omega
            simp (disch := first | assumption | exact mnl_i | exact mnl_r | exact mnl_n | exact mnl_0 | omega) only [↓reduceIte, tolS, E101_0, E101_15, E101_20, E101_26, E101_31, E101_39, E101_44, E101_50, B101, cShG, S1_in hc.1.1 h5 hj, hlt, na, q_gt, na2, q_neg, nb, nq]
            exact hb'
      · have hb' : mRun (d + 90) 183 [.ref 0, .int seed, .int (nI a), .int (nI j), .int k, .int w] (mkH dSh I' V' L' A') (fun v' h' => JQ (some (.long (-4611686018427387904))) (mkH cSh I V L A) v' h') := by
          have wk := fun d h P => M114_out (y := 240) (n := 240) (x := k) rfl hk d h P
          simp (disch := first | assumption | exact mnl_i | exact mnl_r | exact mnl_n | exact mnl_0 | omega) only [↓reduceIte, tolS, E183_0, E183_8, B183, dShG, M116_in hm.1.1 h5 hj, n10, M114p, na, q_gt, na2]
          simp (disch := first | assumption | exact mnl_i | exact mnl_r | exact mnl_n | exact mnl_0 | omega) only [↓reduceIte, tolS, E183_18, E183_40, dShG, n10, wk]
          exact fin _
        rcases hk with hk | ⟨q, hq, hq2, rfl⟩
        · simp (disch := first | assumption | exact mnl_i | exact mnl_r | exact mnl_n | exact mnl_0 | omega) only [↓reduceIte, tolS, E101_0, E101_15, E101_20, E101_26, E101_50, B101, cShG, S1_in hc.1.1 h5 hj, hlt, na, q_gt, na2, hk]
          exact hb'
        · have nq : 240 < q := by omega
          simp (disch := first | assumption | exact mnl_i | exact mnl_r | exact mnl_n | exact mnl_0 | omega) only [↓reduceIte, tolS, E101_0, E101_15, E101_20, E101_26, E101_31, E101_50, B101, cShG, S1_in hc.1.1 h5 hj, hlt, na, q_gt, na2, q_neg, nq]
          exact hb'
    · have hb' : mRun (d + 90) 183 [.ref 0, .int seed, .int m, .int (nI j), .int k, .int w] (mkH dSh I' V' L' A') (fun v' h' => JQ (some (.long (-4611686018427387904))) (mkH cSh I V L A) v' h') := by
        have wm : ∀ d h P, mRun (d + 1) 114 [.int m, .int 1, .int 20] h P = P (some (.int 0)) h := by
          intro d h P
          rw [M114p]
          by_cases c : m < 1
          · rw [if_pos c]
          · rcases hmo with z | z
            · exact absurd z c
            · rw [if_neg c, if_pos z]
        simp (disch := first | assumption | exact mnl_i | exact mnl_r | exact mnl_n | exact mnl_0 | omega) only [↓reduceIte, tolS, E183_0, E183_8, E183_40, B183, dShG, M116_in hm.1.1 h5 hj, n10, wm]
        exact fin _
      by_cases c : m < 1
      · simp (disch := first | assumption | exact mnl_i | exact mnl_r | exact mnl_n | exact mnl_0 | omega) only [↓reduceIte, tolS, E101_0, E101_15, E101_50, B101, cShG, S1_in hc.1.1 h5 hj, hlt, c]
        exact hb'
      · have c2 : (20 : Int32) < m := by
          rcases hmo with z | z
          · exact absurd z c
          · exact z
        simp (disch := first | assumption | exact mnl_i | exact mnl_r | exact mnl_n | exact mnl_0 | omega) only [↓reduceIte, tolS, E101_0, E101_15, E101_20, E101_50, B101, cShG, S1_in hc.1.1 h5 hj, hlt, c, c2]
        exact hb'
  · simp (disch := first | assumption | exact mnl_i | exact mnl_r | exact mnl_n | exact mnl_0 | omega) only [↓reduceIte, tolS, E101_0, E101_50, B101, cShG, S1_out hc.1.1 h5 hx]
    simp (disch := first | assumption | exact mnl_i | exact mnl_r | exact mnl_n | exact mnl_0 | omega) only [↓reduceIte, tolS, E183_0, E183_40, B183, dShG, M116_out hm.1.1 h5 hx]
    exact fin _
end K8
