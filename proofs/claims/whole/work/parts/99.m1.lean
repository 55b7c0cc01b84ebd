/-! spread: digits, the table -/
def dg (c k : Nat) : Nat := c / 10 ^ k % 10
theorem dg_9 (c k : Nat) : dg c k ≤ 9 := by unfold dg; omega
theorem dv_s (c k : Nat) : c / 10 ^ (k + 1) = c / 10 ^ k / 10 := by rw [Nat.pow_succ, Nat.div_div_eq_div_mul]
theorem dv_le (c k : Nat) : c / 10 ^ k ≤ c := Nat.div_le_self _ _
theorem sum_rev {m : Nat} (hm : m ≤ 3) (f : Nat → Nat) : sumN (fun k => f (m - 1 - k)) m = sumN f m := by
  rcases (show m = 0 ∨ m = 1 ∨ m = 2 ∨ m = 3 by omega) with h | h | h | h <;> rw [h] <;> simp [sumN] <;> omega
theorem dg_out {m c : Nat} (hc : c < 10 ^ m) {k : Nat} (hk : m ≤ k) : dg c k = 0 := by
  unfold dg
  have h1 : 10 ^ m ≤ 10 ^ k := Nat.pow_le_pow_right (by decide) hk
  rw [Nat.div_eq_of_lt (by omega)]
theorem sum_dg {m c : Nat} (hm : m ≤ 3) (hc : c < 10 ^ m) : sumN (dg c) 3 = sumN (fun j => dg c (m - 1 - j)) m := by
  rw [sum_rev hm (dg c)]
  have o := fun {k : Nat} (hk : m ≤ k) => dg_out hc hk
  rcases (show m = 0 ∨ m = 1 ∨ m = 2 ∨ m = 3 by omega) with h | h | h | h
  · rw [h] at o ⊢
    simp only [sumN]
    rw [o (k := 0) (by omega), o (k := 1) (by omega), o (k := 2) (by omega)]
  · rw [h] at o ⊢
    simp only [sumN]
    rw [o (k := 1) (by omega), o (k := 2) (by omega)]
    omega
  · rw [h] at o ⊢
    simp only [sumN]
    rw [o (k := 2) (by omega)]
    omega
  · rw [h]
theorem n10i : (10 : Int32) = nI 10 := by decide
theorem dv10 {x : Nat} (h : x < 2 ^ 31) : nI x / 10 = nI (x / 10) := by rw [n10i]; exact pk_div h (by omega) (by omega)
theorem rm10 {x : Nat} (h : x < 2 ^ 31) : nI x - nI (x / 10) * 10 = nI (x % 10) := by
  have := pk_rem (a := x) (d := 10) h (by omega) (by omega)
  rw [pk_div h (by omega) (by omega)] at this
  rw [n10i]
  exact this
theorem ml10 (x : Nat) : nI x * 10 = nI (10 * x) := by rw [n10i, pk_mul, Nat.mul_comm]
section M1
variable {I I' A A' I1 A1 : TI} {V V' V1 : TV} {L L' : Nat → Int64} {nt many day rl : Nat} {R : Nat → Nat → Nat} {th th' : Nat → Nat} {W : Nat → Nat → List Int32} {e : TE}
theorem S90 {c : Nat} (hc : c ≤ 1000) (d : Nat) (h : MH) (P : MP) (hP : P (some (.int (nI (sumN (dg c) 3)))) h) : mRun (d + 1) 90 [.int (nI c)] h P := by
  have up := fun (k : Nat) => dv_le c k
  simp (disch := first | assumption | exact mnl_i | exact mnl_r | exact mnl_n | exact mnl_0 | omega) only [↓reduceIte, tolS, E90_0, B90]
  have z0 : c = c / 10 ^ 0 := by rw [Nat.pow_zero, Nat.div_one]
  have z1 : ∀ x : Nat, x = c → mFr d 90 6 [some (.int (nI c)), some (.int 0), some (.int (nI x)), some (.int 0)] [] h P → mFr d 90 6 [some (.int (nI c)), some (.int 0), some (.int (nI c)), some (.int 0)] [] h P := fun x hx hh => by rw [hx] at hh; exact hh
  refine z1 (c / 10 ^ 0) z0.symm ?_
  refine up_loop 3 (fun k (_ : Unit) => mFr d 90 6 [some (.int (nI c)), some (.int (nI (sumN (dg c) k))), some (.int (nI (c / 10 ^ k))), some (.int (nI k))] [] h P) (fun _ _ => True) (fun k _ hk _ ih => ?_) (fun _ _ => ?_) () trivial
  · have ih := ih () trivial
    have u1 := up k
    have u2 : c / 10 ^ k < 2 ^ 31 := by omega
    have ed : dg c k = c / 10 ^ k % 10 := rfl
    rw [dv_s] at ih
    simp only [sumN] at ih
    rw [ed] at ih
    simp (disch := first | assumption | exact mnl_i | exact mnl_r | exact mnl_n | exact mnl_0 | omega) only [↓reduceIte, tolS, E90_6, q_lt, hk]
    simp (disch := first | assumption | exact mnl_i | exact mnl_r | exact mnl_n | exact mnl_0 | omega) only [↓reduceIte, tolS, E90_11, show ¬ (10 : Int32) = 0 by decide, dv10 u2, rm10 u2, q_aa, q_add]
    exact ih
  · have hk2 : ¬ 3 < 3 := by omega
    simp (disch := first | assumption | exact mnl_i | exact mnl_r | exact mnl_n | exact mnl_0 | omega) only [↓reduceIte, tolS, E90_6, E90_29, q_lt, hk2]
    exact hP
theorem uN_u {r : Nat → Nat} {f a b : Nat} : uN (uN r f a) f b = uN r f b := by
  funext g
  unfold uN
  split <;> rfl
theorem uN_id {r : Nat → Nat} {f : Nat} : uN r f (r f) = r := by
  funext g
  unfold uN
  split
  · next h => rw [h]
  · rfl
theorem S89 (hF : FB nt many R th day rl e) (hc : CB I V A nt W many R th day rl e) (s : cS I V A I1 V1 A1) {j : Nat} (hj : j < many) (h3 : many ≤ 3) (d : Nat) (P : MP) (hP : ∀ I2 A2, cS I V A I2 V1 A2 → (∀ q, ¬ (10 * j ≤ q ∧ q < 10 * j + 10) → A2 22 q = A1 22 q) → (∀ p, p < 10 → A2 22 (10 * j + p) = nI (takesN (W rl) th day (uN (R j) 2 p))) → P none (mkH cSh I2 V1 L A2)) : mRun (d + 6) 89 [.ref 0, .int (nI j)] (mkH cSh I1 V1 L A1) P := by
  have h5 := hF.1.1
  have hrl := hrl_of hF
  have hj5 : j < 5 := by omega
  have hlt : 6 + 1 * j < 900 := by omega
  have hrid := c6j hj5
  have hok := hF.1.2.1 j hj
  have h41 : I1 4 1 = nI many := (CG_S hc.1 hF.1.1 s).1
  have h19 := c19
  simp (disch := first | assumption | exact mnl_i | exact mnl_r | exact mnl_n | exact mnl_0 | omega) only [↓reduceIte, tolS, E89_0, E89_14.1, E89_14.2.1, E89_14.2.2.1, E89_14.2.2.2.1, E89_14.2.2.2.2.1, B89, cShG, S1_in h41 h5 hj, hlt]
  refine S9 c19 hrid (by omega) _ _ (fun I2 q1 q2 => ?_)
  have s2 : cS I V A I2 V1 A1 := cS_trans s ⟨fun b g hb => q1 b g (by unfold scI at hb; omega), fun _ _ _ => rfl, fun _ _ => rfl⟩
  have r2 : ∀ f, f < 6 → I2 19 f = nI (R j f) := fun f hf => by rw [q2 f hf, seat_S hF hc s hj f hf]
  simp (disch := first | assumption | exact mnl_i | exact mnl_r | exact mnl_n | exact mnl_0 | omega) only [↓reduceIte, tolN, tolS, E89_14.2.2.2.2.2.1, E89_14.2.2.2.2.2.2]
  refine up_loop 10 (fun k (s' : TI × TI × Option Value) => mFr (d + 5) 89 24 [some (.ref 0), some (.int (nI j)), some (.ref (6 + 1 * j)), some (.int (nI k)), s'.2.2] [] (mkH cSh s'.1 V1 L s'.2.1) P) (fun k s' => cS I V A s'.1 V1 s'.2.1 ∧ (∃ q, ∀ f, f < 6 → s'.1 19 f = nI (uN (R j) 2 q f)) ∧ (∀ q, ¬ (10 * j ≤ q ∧ q < 10 * j + 10) → s'.2.1 22 q = A1 22 q) ∧ ∀ p, p < k → s'.2.1 22 (10 * j + p) = nI (takesN (W rl) th day (uN (R j) 2 p))) (fun k s' hk hi ih => ?_) (fun s' hi => ?_) (I2, A1, none) ⟨s2, ⟨R j 2, fun f hf => by rw [uN_id]; exact r2 f hf⟩, fun _ _ => rfl, fun p hp => absurd hp (by omega)⟩
  · obtain ⟨I3, A3, l4⟩ := s'
    obtain ⟨i1, i2, i3, i4⟩ := hi
    replace i1 : cS I V A I3 V1 A3 := i1
    obtain ⟨q0, i2⟩ := i2
    replace i2 : ∀ f, f < 6 → I3 19 f = nI (uN (R j) 2 q0 f) := i2
    replace i3 : ∀ q, ¬ (10 * j ≤ q ∧ q < 10 * j + 10) → A3 22 q = A1 22 q := i3
    replace i4 : ∀ p, p < k → A3 22 (10 * j + p) = nI (takesN (W rl) th day (uN (R j) 2 p)) := i4
    have s4 : cS I V A (up2 I3 19 2 (nI k)) V1 A3 := cS_trans i1 ⟨fun b g hb => up2_a (by unfold scI at hb; omega), fun _ _ _ => rfl, fun _ _ => rfl⟩
    have r4 : ∀ f, f < 6 → up2 I3 19 2 (nI k) 19 f = nI (uN (R j) 2 k f) := by
      have := up2_six (f := 2) (v := k) i2
      rw [uN_u] at this
      exact this
    have hok4 : rOk (uN (R j) 2 k) := rOk_2 hok (by omega)
    have g1 : 10 * j + k < 30 := by omega
    simp (disch := first | assumption | exact mnl_i | exact mnl_r | exact mnl_n | exact mnl_0 | omega) only [↓reduceIte, tolS, E89_24, E89_30, E89_51, E89_61.1, E89_61.2.1, E89_61.2.2.1, E89_61.2.2.2.1, E89_61.2.2.2.2.1, E89_61.2.2.2.2.2.1, E89_61.2.2.2.2.2.2.1, E89_61.2.2.2.2.2.2.2.1, E89_61.2.2.2.2.2.2.2.2.1, cShG, cShR, kRider, h19, q_lt, hk, ml10, q_aa, q_neg, nI_d, q_ll, g1]
    refine S75_road hF hc s4 h19 (by omega) r4 hok4 _ _ (fun I5 A5 s5 t1 t2 => ?_)
    have e22 : A5 22 = A3 22 := t2 22 (by omega)
    have s6 : cS I V A I5 V1 (upA A5 22 (upd (A5 22) (10 * j + k) (nI (takesN (W rl) th day (uN (R j) 2 k))))) := cS_trans s5 ⟨fun _ _ _ => rfl, fun _ _ _ => rfl, fun b hb => upA_n (by unfold scA at hb; omega)⟩
    have e6 : ∀ q, upA A5 22 (upd (A5 22) (10 * j + k) (nI (takesN (W rl) th day (uN (R j) 2 k)))) 22 q = upd (A3 22) (10 * j + k) (nI (takesN (W rl) th day (uN (R j) 2 k))) q := fun q => by rw [upA_s, e22]
    have ih' := ih (I5, upA A5 22 (upd (A5 22) (10 * j + k) (nI (takesN (W rl) th day (uN (R j) 2 k)))), some (.int (nI (10 * j + k)))) ⟨s6, ⟨k, fun f hf => (t1 19 f (by omega)).trans (r4 f hf)⟩, fun q hq => (e6 q).trans (by rw [upd_n (by omega)]; exact i3 q hq), fun p hp => (e6 (10 * j + p)).trans (by
      by_cases c : p = k
      · rw [c, upd_s]
      · rw [upd_n (by omega)]; exact i4 p (by omega))⟩
    simp (disch := first | assumption | exact mnl_i | exact mnl_r | exact mnl_n | exact mnl_0 | omega) only [↓reduceIte, tolS, E89_61.2.2.2.2.2.2.2.2.2, cShG, cShR, pix_nI, g1]
    simp (disch := first | assumption | exact mnl_i | exact mnl_r | exact mnl_n | exact mnl_0 | omega) only [E89_80, q_add]
    exact ih'
  · obtain ⟨I3, A3, l4⟩ := s'
    have hk2 : ¬ 10 < 10 := by omega
    simp (disch := first | assumption | exact mnl_i | exact mnl_r | exact mnl_n | exact mnl_0 | omega) only [↓reduceIte, tolS, E89_24, E89_86, cShG, q_lt, hk2]
    exact hP I3 A3 hi.1 hi.2.2.1 hi.2.2.2
end M1
