/-! tells: the first that is otherwise -/
def fdN (a : Nat → Int32) (ce : Nat → Int32) : Nat → Int32
  | 0 => -1
  | k + 1 => if fdN a ce k = -1 then (if a k = ce k then -1 else nI k) else fdN a ce k
theorem fdN_st {a ce : Nat → Int32} {k n : Nat} (hkn : k ≤ n) (h : ¬ fdN a ce k = -1) : fdN a ce n = fdN a ce k := by
  induction n with
  | zero => rw [show k = 0 by omega]
  | succ n ih =>
    by_cases c : k = n + 1
    · rw [c]
    · have := ih (by omega)
      simp only [fdN]
      rw [this, if_neg h]
def airN (W : Nat → List Int32) (th : Nat → Nat) (day : Nat) (r : Nat → Nat) (k : Nat) : Int32 := nI (itN W th day r (k + 1) 4)
section N1
variable {I I' A A' I1 A1 I2 A2 : TI} {V V' V1 : TV} {L L' : Nat → Int64} {nt many day rl t : Nat} {R : Nat → Nat → Nat} {th th' : Nat → Nat} {w : Nat → List Int32} {r : Nat → Nat} {ce : Nat → Int32}
theorem S94 (hW : WR I V A 19 63 t w th day r) (ht : t + 2 < 47) {s n : Nat} (hs : s < 4) (hn : n ≤ 40) (hsz : I (47 + 2 * s) 2 = nI n) (hce : ∀ i, i < 40 → A (48 + 2 * s) i = ce i) (d : Nat) (P : MP) (hP : ∀ I2 A2, (∀ b g, b ≠ 20 → I2 b g = I b g) → (∀ b, b ≠ t + 2 → A2 b = A b) → P (some (.int (fdN (airN w th day r) ce n))) (mkH cSh I2 V L A2)) : mRun (d + 6) 94 [.ref 0, .ref (47 + 2 * s)] (mkH cSh I V L A) P := by
  obtain ⟨sh1, sh2⟩ := c47 hs
  have h20 := c20
  have hok := hW.2.2.2.2.2.2.1
  simp (disch := first | assumption | exact mnl_i | exact mnl_r | exact mnl_n | exact mnl_0 | omega) only [↓reduceIte, tolS, E94_0.1, E94_0.2.1, E94_0.2.2.1, E94_0.2.2.2.1, E94_0.2.2.2.2.1, B94, cShG]
  refine S9 c20 c19 (by decide) _ _ (fun I3 q1 q2 => ?_)
  have hW0 := WR_mind hW c20 (WR_b hW).1 q1 q2
  simp (disch := first | assumption | exact mnl_i | exact mnl_r | exact mnl_n | exact mnl_0 | omega) only [↓reduceIte, tolN, tolS, E94_0.2.2.2.2.2.1, E94_0.2.2.2.2.2.2]
  refine up_loop n (fun k (s' : TI × TI) => mFr (d + 5) 94 13 [some (.ref 0), some (.ref (47 + 2 * s)), some (.int (nI k))] [] (mkH cSh s'.1 V L s'.2) P) (fun k s' => WR s'.1 V s'.2 20 63 t w th day (itN w th day r k) ∧ (∀ b g, b ≠ 20 → s'.1 b g = I b g) ∧ (∀ b, b ≠ t + 2 → s'.2 b = A b) ∧ fdN (airN w th day r) ce k = -1) (fun k s' hk hi ih => ?_) (fun s' hi => ?_) (I3, A) ⟨hW0, q1, fun _ _ => rfl, rfl⟩
  · obtain ⟨I4, A4⟩ := s'
    obtain ⟨i1, i2, i3, i4⟩ := hi
    replace i1 : WR I4 V A4 20 63 t w th day (itN w th day r k) := i1
    replace i2 : ∀ b g, b ≠ 20 → I4 b g = I b g := i2
    replace i3 : ∀ b, b ≠ t + 2 → A4 b = A b := i3
    have g2 : I4 (47 + 2 * s) 2 = nI n := by rw [i2 _ _ (by omega)]; exact hsz
    simp (disch := first | assumption | exact mnl_i | exact mnl_r | exact mnl_n | exact mnl_0 | omega) only [↓reduceIte, tolS, E94_13, E94_21.1, E94_21.2.1, E94_21.2.2.1, E94_21.2.2.2.1, E94_21.2.2.2.2.1, cShG, kSheet, g2, q_ll, hk]
    refine S11 i1 (d + 1) _ (fun I5 f5 u1 u2 => ?_)
    have hv : upA A4 (t + 2) f5 (48 + 2 * s) k = ce k := by rw [upA_n (by omega), i3 _ (by omega)]; exact hce k (by omega)
    have ha : I5 20 4 = airN w th day r k := u2 4 (by omega)
    have hW5 := WR_I (WR_A i1 f5) u1 u2 (itN_ok hok (k + 1))
    have j2 : ∀ b g, b ≠ 20 → I5 b g = I b g := fun b g hb => (u1 b g hb).trans (i2 b g hb)
    have j3 : ∀ b, b ≠ t + 2 → upA A4 (t + 2) f5 b = A b := fun b hb => by rw [upA_n hb]; exact i3 b hb
    have hf : fdN (airN w th day r) ce (k + 1) = if airN w th day r k = ce k then -1 else nI k := by simp only [fdN]; rw [if_pos i4]
    have k40 : k < 40 := by omega
    simp (disch := first | assumption | exact mnl_i | exact mnl_r | exact mnl_n | exact mnl_0 | omega) only [↓reduceIte, tolS, E94_21.2.2.2.2.2.1, E94_21.2.2.2.2.2.2.1, E94_21.2.2.2.2.2.2.2.1, E94_21.2.2.2.2.2.2.2.2.1, E94_21.2.2.2.2.2.2.2.2.2.1, E94_21.2.2.2.2.2.2.2.2.2.2.1, E94_21.2.2.2.2.2.2.2.2.2.2.2.1, E94_21.2.2.2.2.2.2.2.2.2.2.2.2.1, cShG, kRider, kSheet, h20, S24 hs k40, hv, ha]
    by_cases c : airN w th day r k = ce k
    · rw [if_pos c] at hf
      simp (disch := first | assumption | exact mnl_i | exact mnl_r | exact mnl_n | exact mnl_0 | omega) only [↓reduceIte, tolS, E94_21.2.2.2.2.2.2.2.2.2.2.2.2.2, c]
      simp (disch := first | assumption | exact mnl_i | exact mnl_r | exact mnl_n | exact mnl_0 | omega) only [↓reduceIte, tolS, E94_50, q_add]
      exact ih (I5, upA A4 (t + 2) f5) ⟨hW5, j2, j3, hf⟩
    · rw [if_neg c] at hf
      have hne : ¬ fdN (airN w th day r) ce (k + 1) = -1 := by rw [hf]; exact nI_m1 (by omega)
      have hfn := fdN_st (n := n) (by omega) hne
      have fin := hP I5 (upA A4 (t + 2) f5) j2 j3
      rw [hfn, hf] at fin
      simp (disch := first | assumption | exact mnl_i | exact mnl_r | exact mnl_n | exact mnl_0 | omega) only [↓reduceIte, tolS, E94_21.2.2.2.2.2.2.2.2.2.2.2.2.2, E94_48, c]
      exact fin
  · obtain ⟨I4, A4⟩ := s'
    obtain ⟨i1, i2, i3, i4⟩ := hi
    replace i2 : ∀ b g, b ≠ 20 → I4 b g = I b g := i2
    have g2 : I4 (47 + 2 * s) 2 = nI n := by rw [i2 _ _ (by omega)]; exact hsz
    have e1 : ¬ n < n := by omega
    have fin := hP I4 A4 i2 i3
    rw [i4] at fin
    simp (disch := first | assumption | exact mnl_i | exact mnl_r | exact mnl_n | exact mnl_0 | omega) only [↓reduceIte, tolS, E94_13, E94_56, cShG, kSheet, g2, q_ll, e1]
    exact fin
/-- the reference's first that is otherwise -/
theorem M171 {q s n : Nat} (hW : WM I A q rl w th day r) (hok : rOk r) (hq : q < 5) (hs : s < 4) (hn : n ≤ 40) (hsz : A 21 s = nI n) (hce : ∀ i, i < 40 → A 22 (40 * s + i) = ce i) (d : Nat) (P : MP) (hP : ∀ I2 A2, mkp I I2 → (∀ b, b ≠ 13 → b ≠ 14 → A2 b = A b) → P (some (.int (fdN (airN w th day r) ce n))) (mkH dSh I2 V L A2)) : mRun (d + 7) 171 [.ref 0, .int (nI s), .int (nI q)] (mkH dSh I V L A) P := by
  simp (disch := first | assumption | exact mnl_i | exact mnl_r | exact mnl_n | exact mnl_0 | omega) only [↓reduceIte, tolS, E171_0.1, E171_0.2.1, E171_0.2.2.1, B171, dShG]
  refine M154 hq _ _ (fun I2 p1 p30 p31 p32 p33 p34 p35 p36 => ?_)
  simp (disch := first | assumption | exact mnl_i | exact mnl_r | exact mnl_n | exact mnl_0 | omega) only [↓reduceIte, tolN, tolS, E171_0.2.2.2.1, E171_0.2.2.2.2.1, E171_0.2.2.2.2.2.1, E171_0.2.2.2.2.2.2]
  have hW2 := WM_I hW (p1 0 (by omega)) (p1 9 (by omega))
  have out : ∀ (I3 A3 : TI) (l4 : Int32), (∀ f, f ≠ 34 → f ≠ 35 → f ≠ 36 → I3 0 f = I2 0 f) → mrw A A3 q → mFr (d + 6) 171 61 [some (.ref 0), some (.int (nI s)), some (.int (nI q)), some (.int (fdN (airN w th day r) ce n)), some (.int l4)] [] (mkH dSh I3 V L A3) P := by
    intro I3 A3 l4 e1 e2
    simp (disch := first | assumption | exact mnl_i | exact mnl_r | exact mnl_n | exact mnl_0 | omega) only [↓reduceIte, tolS, E171_61.1, E171_61.2.1, E171_61.2.2.1, dShG]
    refine M155 hq e2 (by rw [e1 30 (by omega) (by omega) (by omega)]; exact p30) (by rw [e1 31 (by omega) (by omega) (by omega)]; exact p31) (by rw [e1 32 (by omega) (by omega) (by omega)]; exact p32) (by rw [e1 33 (by omega) (by omega) (by omega)]; exact p33) _ _ (fun A4 q4 => ?_)
    simp (disch := first | assumption | exact mnl_i | exact mnl_r | exact mnl_n | exact mnl_0 | omega) only [↓reduceIte, tolN, tolS, E171_61.2.2.2.1, E171_61.2.2.2.2]
    exact hP I3 A4 (fun f hf => by rw [e1 f (by omega) (by omega) (by omega)]; exact p1 f hf) q4
  refine up_loop n (fun k (s' : TI × TI) => mFr (d + 6) 171 10 [some (.ref 0), some (.int (nI s)), some (.int (nI q)), some (.int (fdN (airN w th day r) ce k)), some (.int (nI k))] [] (mkH dSh s'.1 V L s'.2) P) (fun k s' => WM s'.1 s'.2 q rl w th day (itN w th day r k) ∧ (∀ f, f ≠ 34 → f ≠ 35 → f ≠ 36 → s'.1 0 f = I2 0 f) ∧ mrw A s'.2 q) (fun k s' hk hi ih => ?_) (fun s' hi => ?_) (I2, A) ⟨hW2, fun _ _ _ _ => rfl, mrw_refl⟩
  · obtain ⟨I3, A3⟩ := s'
    obtain ⟨i1, i2, i3⟩ := hi
    replace i1 : WM I3 A3 q rl w th day (itN w th day r k) := i1
    replace i2 : ∀ f, f ≠ 34 → f ≠ 35 → f ≠ 36 → I3 0 f = I2 0 f := i2
    replace i3 : mrw A A3 q := i3
    have s4 : s < 4 := hs
    have g1 : A3 21 s = nI n := by rw [i3.1 21 (by omega) (by omega) (by omega) (by omega) (by omega) (by omega)]; exact hsz
    by_cases c0 : fdN (airN w th day r) ce k = -1
    · have hf : fdN (airN w th day r) ce (k + 1) = if airN w th day r k = ce k then -1 else nI k := by simp only [fdN]; rw [if_pos c0]
      rw [c0]
      simp (disch := first | assumption | exact mnl_i | exact mnl_r | exact mnl_n | exact mnl_0 | omega) only [↓reduceIte, tolS, E171_10, E171_21, E171_26.1, E171_26.2.1, E171_26.2.2.1, dShG, dShR, pix_nI, hs, g1, q_ll, hk]
      refine M150 i1 _ _ (fun I4 A4 u1 u2 u3 => ?_)
      have j3 : mrw A A4 q := mrw_trans i3 u2
      have j2 : ∀ f, f ≠ 34 → f ≠ 35 → f ≠ 36 → I4 0 f = I2 0 f := fun f h1 h2 h3 => (u1.1 f h1 h2 h3).trans (i2 f h1 h2 h3)
      have ha : A4 6 q = airN w th day r k := WM_row u3 4 (by omega)
      have hv : A4 22 (40 * s + k) = ce k := by rw [j3.1 22 (by omega) (by omega) (by omega) (by omega) (by omega) (by omega)]; exact hce k (by omega)
      have g2 : 40 * s + k < 160 := by omega
      have e40 : (40 : Int32) * nI s = nI (40 * s) := by rw [show (40 : Int32) = nI 40 by decide, pk_mul]
      have ih' := ih (I4, A4) ⟨u3, j2, j3⟩
      rw [hf] at ih'
      simp (disch := first | assumption | exact mnl_i | exact mnl_r | exact mnl_n | exact mnl_0 | omega) only [↓reduceIte, tolN, tolS, E171_26.2.2.2.1, E171_26.2.2.2.2.1, E171_26.2.2.2.2.2.1, E171_26.2.2.2.2.2.2.1, E171_26.2.2.2.2.2.2.2.1, E171_26.2.2.2.2.2.2.2.2.1, E171_26.2.2.2.2.2.2.2.2.2.1, E171_26.2.2.2.2.2.2.2.2.2.2.1, E171_26.2.2.2.2.2.2.2.2.2.2.2.1, E171_26.2.2.2.2.2.2.2.2.2.2.2.2.1, E171_26.2.2.2.2.2.2.2.2.2.2.2.2.2.1, E171_26.2.2.2.2.2.2.2.2.2.2.2.2.2.2.1, E171_26.2.2.2.2.2.2.2.2.2.2.2.2.2.2.2, dShG, dShR, e40, q_aa, pix_nI, g2, hq, ha, hv]
      by_cases c : airN w th day r k = ce k
      · rw [if_pos c] at ih'
        simp (disch := first | assumption | exact mnl_i | exact mnl_r | exact mnl_n | exact mnl_0 | omega) only [↓reduceIte, tolS, c]
        simp (disch := first | assumption | exact mnl_i | exact mnl_r | exact mnl_n | exact mnl_0 | omega) only [↓reduceIte, tolS, E171_55, q_add]
        exact ih'
      · rw [if_neg c] at ih'
        simp (disch := first | assumption | exact mnl_i | exact mnl_r | exact mnl_n | exact mnl_0 | omega) only [↓reduceIte, tolS, E171_52, c]
        simp (disch := first | assumption | exact mnl_i | exact mnl_r | exact mnl_n | exact mnl_0 | omega) only [↓reduceIte, tolS, E171_55, q_add]
        exact ih'
    · have hst := fdN_st (n := n) (by omega) c0
      have o := out I3 A3 (nI k) i2 i3
      rw [hst] at o
      simp (disch := first | assumption | exact mnl_i | exact mnl_r | exact mnl_n | exact mnl_0 | omega) only [↓reduceIte, tolS, E171_10, E171_21, dShG, dShR, pix_nI, hs, g1, q_ll, hk, c0]
      exact o
  · obtain ⟨I3, A3⟩ := s'
    obtain ⟨i1, i2, i3⟩ := hi
    replace i2 : ∀ f, f ≠ 34 → f ≠ 35 → f ≠ 36 → I3 0 f = I2 0 f := i2
    replace i3 : mrw A A3 q := i3
    have g1 : A3 21 s = nI n := by rw [i3.1 21 (by omega) (by omega) (by omega) (by omega) (by omega) (by omega)]; exact hsz
    have e1 : ¬ n < n := by omega
    simp (disch := first | assumption | exact mnl_i | exact mnl_r | exact mnl_n | exact mnl_0 | omega) only [↓reduceIte, tolS, E171_10, dShG, dShR, pix_nI, hs, g1, q_ll, e1]
    exact out I3 A3 (nI n) i2 i3
end N1
