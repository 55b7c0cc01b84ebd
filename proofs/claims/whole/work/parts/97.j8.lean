/-! rides: run, day -/
def itN (W : Nat → List Int32) (th : Nat → Nat) (day : Nat) (r : Nat → Nat) : Nat → (Nat → Nat)
  | 0 => r
  | k + 1 => (goN W th day (itN W th day r k)).1
def didN (W : Nat → List Int32) (th : Nat → Nat) (day : Nat) (r : Nat → Nat) (k : Nat) : Nat := (goN W th day (itN W th day r k)).2
theorem itN_ok {W : Nat → List Int32} {th : Nat → Nat} {day : Nat} {r : Nat → Nat} (h : rOk r) : ∀ k, rOk (itN W th day r k) := by
  intro k
  induction k with
  | zero => exact h
  | succ k ih => exact goN_ok ih
theorem itN_0 {W : Nat → List Int32} {th : Nat → Nat} {day : Nat} {r : Nat → Nat} : ∀ k, itN W th day r k 0 = r 0 := by
  intro k
  induction k with
  | zero => rfl
  | succ k ih => show (goN W th day (itN W th day r k)).1 0 = r 0; rw [goN_0]; exact ih
section J8
variable {I I' A A' : TI} {V V' : TV} {L L' : Nat → Int64} {nt many day rl : Nat} {R : Nat → Nat → Nat} {th : Nat → Nat} {W : Nat → Nat → List Int32} {e : TE}
/-- one who rides in thought, on the true road -/
theorem WR_thought (hF : FB nt many R th day rl e) (hc : CB I V A nt W many R th day rl e) (s : cS I V A I' V' A') {a : Nat} (ha : cSh[a]? = some sRider) {r : Nat → Nat} (hr : ∀ f, f < 6 → I' a f = nI (r f)) (hk : rOk r) : WR I' V' A' a 59 (23 + 4 * rl) (W rl) th day r :=
  WR_at hF.1 (CG_S hc.1 hF.1.1 s) (CT_S hc.2.1 hF.1.2.2.2.2.2 s) ha hr hk
theorem cS_t {rl : Nat} (hr : rl < 6) {I1 : TI} {V1 : TV} {A1 : TI} (s : cS I V A I1 V1 A1) {I2 A2 : TI} (q1 : ∀ b g, b ≠ 20 → I2 b g = I1 b g) (q2 : ∀ b, b ≠ 23 + 4 * rl + 2 → A2 b = A1 b) : cS I V A I2 V1 A2 := cS_trans s (cS_20 hr q1 q2)
theorem S73_loop (hF : FB nt many R th day rl e) (hc : CB I V A nt W many R th day rl e) (hrl : rl < 6) {r : Nat → Nat} (hk : rOk r) {m : Nat} (hm : m ≤ 60) (l1 l3 l4 : Option Value) (hl4 : mnl l4 = true) (d : Nat) (P : MP) {I0 A0 : TI} (s0 : cS I V A I0 V A0) (h0 : ∀ f, f < 6 → I0 20 f = nI (r f))
    (hP : ∀ I1 A1 l8, cS I V A I1 V A1 → (∀ f, f < 6 → I1 20 f = nI (itN (W rl) th day r m f)) → mFr (d + 4) 73 89 [some (.ref 0), l1, some (.int (nI m)), l3, l4, some (.int (nI (sumN (fun k => if didN (W rl) th day r k = 4 then 1 else 0) m))), some (.int (nI (sumN (fun k => if didN (W rl) th day r k = 1 then 1 else 0) m))), some (.int (nI m)), l8] [] (mkH cSh I1 V L A1) P) :
    mFr (d + 4) 73 46 [some (.ref 0), l1, some (.int (nI m)), l3, l4, some (.int (nI 0)), some (.int (nI 0)), some (.int (nI 0)), none] [] (mkH cSh I0 V L A0) P := by
  refine up_loop m (fun k (s : TI × TI × Option Value) => mFr (d + 4) 73 46 [some (.ref 0), l1, some (.int (nI m)), l3, l4, some (.int (nI (sumN (fun k => if didN (W rl) th day r k = 4 then 1 else 0) k))), some (.int (nI (sumN (fun k => if didN (W rl) th day r k = 1 then 1 else 0) k))), some (.int (nI k)), s.2.2] [] (mkH cSh s.1 V L s.2.1) P) (fun k s => cS I V A s.1 V s.2.1 ∧ (∀ f, f < 6 → s.1 20 f = nI (itN (W rl) th day r k f)) ∧ mnl s.2.2 = true) (fun k s hkm hi ih => ?_) (fun s hi => ?_) (I0, A0, none) ⟨s0, h0, rfl⟩
  · obtain ⟨I1, A1, l8⟩ := s
    obtain ⟨i1, i2, i3⟩ := hi
    replace i1 : cS I V A I1 V A1 := i1
    replace i2 : ∀ f, f < 6 → I1 20 f = nI (itN (W rl) th day r k f) := i2
    have hW := WR_thought hF hc i1 c20 i2 (itN_ok hk k)
    simp (disch := first | assumption | exact mnl_i | exact mnl_r | exact mnl_n | exact mnl_0 | omega) only [↓reduceIte, tolS, E73_46, E73_52.1, E73_52.2.1, E73_52.2.2.1, E73_52.2.2.2.1, E73_52.2.2.2.2.1, cShG, q_ll, hkm]
    refine S11 hW d _ (fun I2 f2 q1 q2 => ?_)
    have hdid : didN (W rl) th day r k = (goN (W rl) th day (itN (W rl) th day r k)).2 := rfl
    have hd4 : didN (W rl) th day r k ≤ 4 := goN_did
    have s2 : cS I V A I2 V (upA A1 (23 + 4 * rl + 2) f2) := cS_t hrl i1 q1 (fun b hb => upA_n hb)
    have ih := fun l => ih (I2, upA A1 (23 + 4 * rl + 2) f2, some (.int l)) ⟨s2, q2, rfl⟩
    simp only [sumN] at ih
    rw [← hdid]
    have hml : mnl l8 = true := i3
    by_cases c4 : didN (W rl) th day r k = 4
    · have c1 : ¬ didN (W rl) th day r k = 1 := by omega
      rw [if_pos c4, if_neg c1, Nat.add_zero] at ih
      simp (disch := first | assumption | exact mnl_i | exact mnl_r | exact mnl_n | exact mnl_0 | omega) only [↓reduceIte, tolS, E73_52.2.2.2.2.2.1, E73_52.2.2.2.2.2.2.1, E73_52.2.2.2.2.2.2.2.1, E73_52.2.2.2.2.2.2.2.2, E73_71, E73_74, q_eq, c4, q_add, Nat.reduceEqDiff]
      simp (disch := first | assumption | exact mnl_i | exact mnl_r | exact mnl_n | exact mnl_0 | omega) only [E73_83, q_add]
      have := ih (nI 4)
      exact this
    · by_cases c1 : didN (W rl) th day r k = 1
      · rw [if_neg c4, if_pos c1, Nat.add_zero] at ih
        simp (disch := first | assumption | exact mnl_i | exact mnl_r | exact mnl_n | exact mnl_0 | omega) only [↓reduceIte, tolS, E73_52.2.2.2.2.2.1, E73_52.2.2.2.2.2.2.1, E73_52.2.2.2.2.2.2.2.1, E73_52.2.2.2.2.2.2.2.2, E73_74, E73_80, q_eq, c1, q_add, Nat.reduceEqDiff]
        simp (disch := first | assumption | exact mnl_i | exact mnl_r | exact mnl_n | exact mnl_0 | omega) only [E73_83, q_add]
        exact ih (nI 1)
      · rw [if_neg c4, if_neg c1, Nat.add_zero, Nat.add_zero] at ih
        simp (disch := first | assumption | exact mnl_i | exact mnl_r | exact mnl_n | exact mnl_0 | omega) only [↓reduceIte, tolS, E73_52.2.2.2.2.2.1, E73_52.2.2.2.2.2.2.1, E73_52.2.2.2.2.2.2.2.1, E73_52.2.2.2.2.2.2.2.2, E73_74, q_eq, c4, c1, q_add]
        simp (disch := first | assumption | exact mnl_i | exact mnl_r | exact mnl_n | exact mnl_0 | omega) only [E73_83, q_add]
        exact ih _
  · obtain ⟨I1, A1, l8⟩ := s
    have hlt : ¬ m < m := by omega
    simp (disch := first | assumption | exact mnl_i | exact mnl_r | exact mnl_n | exact mnl_0 | omega) only [↓reduceIte, tolS, E73_46, q_ll, hlt]
    exact hP I1 A1 l8 hi.1 hi.2.1
theorem M154 {q : Nat} (hq : q < 5) (d : Nat) (P : MP) (hP : ∀ I', (∀ f, f < 30 ∨ 36 < f → I' 0 f = I 0 f) → I' 0 30 = A 4 q → I' 0 31 = A 5 q → I' 0 32 = A 6 q → I' 0 33 = A 7 q → I' 0 34 = nI 0 → I' 0 35 = nI 0 → I' 0 36 = 0 → P none (mkH dSh I' V L A)) : mRun (d + 1) 154 [.ref 0, .int (nI q)] (mkH dSh I V L A) P := by
  simp (disch := first | assumption | exact mnl_i | exact mnl_r | exact mnl_n | exact mnl_0 | omega) only [↓reduceIte, tolS, tolN, E154_0, B154, dShG, dShP, dShR, pix_nI]
  refine hP _ (fun f hf => ?_) ?_ ?_ ?_ ?_ ?_ ?_ ?_
  · rw [up2_f (by omega), up2_f (by omega), up2_f (by omega), up2_f (by omega), up2_f (by omega), up2_f (by omega), up2_f (by omega)]
  all_goals simp [up2]
  all_goals rfl
theorem M155 {q : Nat} (hq : q < 5) {A0 : TI} (hm : mrw A0 A q) (w0 : I 0 30 = A0 4 q) (w1 : I 0 31 = A0 5 q) (w2 : I 0 32 = A0 6 q) (w3 : I 0 33 = A0 7 q) (d : Nat) (P : MP) (hP : ∀ A', (∀ b, b ≠ 13 → b ≠ 14 → A' b = A0 b) → P none (mkH dSh I V L A')) : mRun (d + 1) 155 [.ref 0, .int (nI q)] (mkH dSh I V L A) P := by
  simp (disch := first | assumption | exact mnl_i | exact mnl_r | exact mnl_n | exact mnl_0 | omega) only [↓reduceIte, tolN, E155_0, B155, dShG, dShP, dShR, pix_nI, upA_n, w0, w1, w2, w3]
  refine hP _ (fun b h13 h14 => ?_)
  have row : ∀ c, c ≠ 13 → c ≠ 14 → upd (A c) q (A0 c q) = A0 c := fun c g1 g2 => by
    funext j
    by_cases e : j = q
    · subst e; rw [upd_s]
    · rw [upd_n e]; exact hm.2 c j e g1 g2
  rw [row 4 (by decide) (by decide), row 5 (by decide) (by decide), row 6 (by decide) (by decide), row 7 (by decide) (by decide)]
  by_cases c7 : b = 7
  · subst c7; rw [upA_s]
  · rw [upA_n c7]
    by_cases c6 : b = 6
    · subst c6; rw [upA_s]
    · rw [upA_n c6]
      by_cases c5 : b = 5
      · subst c5; rw [upA_s]
      · rw [upA_n c5]
        by_cases c4 : b = 4
        · subst c4; rw [upA_s]
        · rw [upA_n c4]
          exact hm.1 b c4 c5 c6 c7 h13 h14
theorem mrw_trans {A0 A1 A2 : TI} {q : Nat} (h : mrw A0 A1 q) (g : mrw A1 A2 q) : mrw A0 A2 q := ⟨fun b h1 h2 h3 h4 h5 h6 => by rw [g.1 b h1 h2 h3 h4 h5 h6, h.1 b h1 h2 h3 h4 h5 h6], fun b j hj h5 h6 => by rw [g.2 b j hj h5 h6, h.2 b j hj h5 h6]⟩
theorem WM_I {I' : TI} {q : Nat} {w : Nat → List Int32} {r : Nat → Nat} (h : WM I A q rl w th day r) (f0 : I' 0 0 = I 0 0) (f9 : I' 0 9 = I 0 9) : WM I' A q rl w th day r := by
  obtain ⟨h1, h2, h3, h4, h5, h6, h7⟩ := h
  exact ⟨h1, by rw [f9]; exact h2, h3, h4, h5, by rw [f0]; exact h6, h7⟩
theorem M156_loop {r : Nat → Nat} {q : Nat} {w : Nat → List Int32} {m : Nat} (hm : m ≤ 60) (l3 : Option Value) (hl3 : mnl l3 = true) (d : Nat) (P : MP) (hW : WM I A q rl w th day r) (h34 : I 0 34 = nI 0) (h35 : I 0 35 = nI 0)
    (hP : ∀ I1 A1, (∀ f, f ≠ 34 → f ≠ 35 → f ≠ 36 → I1 0 f = I 0 f) → mrw A A1 q → WM I1 A1 q rl w th day (itN w th day r m) → I1 0 34 = nI (sumN (fun k => if didN w th day r k = 4 then 1 else 0) m) → I1 0 35 = nI (sumN (fun k => if didN w th day r k = 1 then 1 else 0) m) → mFr (d + 5) 156 55 [some (.ref 0), some (.int (nI q)), some (.int (nI m)), l3, some (.int (nI m))] [] (mkH dSh I1 V L A1) P) :
    mFr (d + 5) 156 38 [some (.ref 0), some (.int (nI q)), some (.int (nI m)), l3, some (.int (nI 0))] [] (mkH dSh I V L A) P := by
  refine up_loop m (fun k (s : TI × TI) => mFr (d + 5) 156 38 [some (.ref 0), some (.int (nI q)), some (.int (nI m)), l3, some (.int (nI k))] [] (mkH dSh s.1 V L s.2) P) (fun k s => (∀ f, f ≠ 34 → f ≠ 35 → f ≠ 36 → s.1 0 f = I 0 f) ∧ mrw A s.2 q ∧ WM s.1 s.2 q rl w th day (itN w th day r k) ∧ s.1 0 34 = nI (sumN (fun k => if didN w th day r k = 4 then 1 else 0) k) ∧ s.1 0 35 = nI (sumN (fun k => if didN w th day r k = 1 then 1 else 0) k)) (fun k s hkm hi ih => ?_) (fun s hi => ?_) (I, A) ⟨fun _ _ _ _ => rfl, mrw_refl, hW, h34, h35⟩
  · obtain ⟨I1, A1⟩ := s
    obtain ⟨i1, i2, i3, i4, i5⟩ := hi
    simp (disch := first | assumption | exact mnl_i | exact mnl_r | exact mnl_n | exact mnl_0 | omega) only [↓reduceIte, tolS, E156_38, E156_44.1, E156_44.2.1, E156_44.2.2.1, dShG, q_ll, hkm]
    refine M150 i3 d _ (fun I2 A2 q1 q2 q3 => ?_)
    simp (disch := first | assumption | exact mnl_i | exact mnl_r | exact mnl_n | exact mnl_0 | omega) only [↓reduceIte, tolN, tolS, E156_44.2.2.2.1, E156_44.2.2.2.2, q_add]
    refine ih (I2, A2) ⟨fun f f1 f2 f3 => (q1.1 f f1 f2 f3).trans (i1 f f1 f2 f3), mrw_trans i2 q2, q3, ?_, ?_⟩
    · replace i4 : I1 0 34 = nI (sumN (fun k => if didN w th day r k = 4 then 1 else 0) k) := i4
      have t34 : I2 0 34 = (if didN w th day r k = 4 then I1 0 34 + 1 else I1 0 34) := q1.2.1
      show I2 0 34 = nI (sumN (fun k => if didN w th day r k = 4 then 1 else 0) k + (if didN w th day r k = 4 then 1 else 0))
      rw [t34, i4]
      by_cases c : didN w th day r k = 4
      · rw [if_pos c, if_pos c, nI_1]
      · rw [if_neg c, if_neg c, Nat.add_zero]
    · replace i5 : I1 0 35 = nI (sumN (fun k => if didN w th day r k = 1 then 1 else 0) k) := i5
      have t35 : I2 0 35 = (if didN w th day r k = 1 then I1 0 35 + 1 else I1 0 35) := q1.2.2.1
      show I2 0 35 = nI (sumN (fun k => if didN w th day r k = 1 then 1 else 0) k + (if didN w th day r k = 1 then 1 else 0))
      rw [t35, i5]
      by_cases c : didN w th day r k = 1
      · rw [if_pos c, if_pos c, nI_1]
      · rw [if_neg c, if_neg c, Nat.add_zero]
  · obtain ⟨I1, A1⟩ := s
    have hlt : ¬ m < m := by omega
    simp (disch := first | assumption | exact mnl_i | exact mnl_r | exact mnl_n | exact mnl_0 | omega) only [↓reduceIte, tolS, E156_38, q_ll, hlt]
    exact hP I1 A1 hi.1 hi.2.1 hi.2.2.1 hi.2.2.2.1 hi.2.2.2.2
theorem J73 {hC hM : MH} (h : REL hC hM) (d : Nat) (x n w : Int32) : JR (d + 90) 73 156 [.int x, .int n, .int w] hC hM := by
  obtain ⟨I, V, L, A, I', V', L', A', nt, W, many, R, th, day, rl, e, ec, em, hF, hc, hm⟩ := REL_B h
  rw [ec, em]
  unfold JR
  have h5 := hF.1.1
  have hrl : rl < 6 := by have := hF.1.2.2.2.2; omega
  rcases i32_ix x many with ⟨j, hj, hj2, rfl⟩ | hi
  · have hj5 : j < 5 := by omega
    have hlt : 6 + 1 * j < 900 := by omega
    have hrid := c6j hj5
    have hok := hF.1.2.1 j hj
    rcases i32_ix n 61 with ⟨m, hm60, hm2, rfl⟩ | hn
    · have hm6 : ¬ 60 < m := by omega
      simp (disch := first | assumption | exact mnl_i | exact mnl_r | exact mnl_n | exact mnl_0 | omega) only [↓reduceIte, tolS, E73_0, E73_15, E73_19, E73_28.1, E73_28.2.1, E73_28.2.2.1, E73_28.2.2.2.1, E73_28.2.2.2.2.1, B73, cShG, S1_in hc.1.1 h5 hj, hlt, q_neg, q_gt, hm6]
      refine S9 c20 hrid (by omega) _ _ (fun I0 q1 q2 => ?_)
      simp (disch := first | assumption | exact mnl_i | exact mnl_r | exact mnl_n | exact mnl_0 | omega) only [↓reduceIte, tolN, tolS, E73_28.2.2.2.2.2.1, E73_28.2.2.2.2.2.2.1, E73_28.2.2.2.2.2.2.2.1, E73_28.2.2.2.2.2.2.2.2.1, E73_28.2.2.2.2.2.2.2.2.2.1, E73_28.2.2.2.2.2.2.2.2.2.2]
      refine S73_loop hF hc hrl hok (m := m) (by omega) _ _ _ rfl _ _ (cS_20 hrl q1 (fun _ _ => rfl)) (fun f hf => by rw [q2 f hf]; exact hc.1.2.1 j hj f hf) (fun I1 A1 l8 s1 r1 => ?_)
      have wj := fun d h P => M114_in (y := 60) (n := 60) (j := m) rfl (by omega) (by omega) d h P
      rcases i32_ix w 5 with ⟨q, hq, hq2, rfl⟩ | hw
      · have hq4 : q ≤ 4 := by omega
        have wq := fun d h P => M114_in (y := 4) (n := 4) (j := q) rfl hq4 (by omega) d h P
        have tail : ∀ v : Int32, v = nI (if q = 0 then itN (W rl) th day (R j) m 3 else if q = 1 then itN (W rl) th day (R j) m 4 else if q = 2 then itN (W rl) th day (R j) m 2 else if q = 3 then sumN (fun k => if didN (W rl) th day (R j) k = 4 then 1 else 0) m else sumN (fun k => if didN (W rl) th day (R j) k = 1 then 1 else 0) m) → mRun (d + 90) 156 [.ref 0, .int (nI j), .int (nI m), .int (nI q)] (mkH dSh I' V' L' A') (fun v' h' => JQ (some (.int v)) (mkH cSh I1 V L A1) v' h') := by
          intro v hv
          simp (disch := first | assumption | exact mnl_i | exact mnl_r | exact mnl_n | exact mnl_0 | omega) only [↓reduceIte, tolS, E156_0, E156_8, E156_18, E156_30.1, E156_30.2.1, E156_30.2.2.1, B156, dShG, M116_in hm.1.1 h5 hj, n10, wj, wq]
          refine M154 hj5 _ _ (fun I2 p1 p30 p31 p32 p33 p34 p35 p36 => ?_)
          simp (disch := first | assumption | exact mnl_i | exact mnl_r | exact mnl_n | exact mnl_0 | omega) only [↓reduceIte, tolN, tolS, E156_30.2.2.2.1, E156_30.2.2.2.2]
          refine M156_loop (by omega) _ rfl _ _ (WM_I (WM_of hF.1 hm.1 hm.2.1 hj) (p1 0 (by omega)) (p1 9 (by omega))) p34 p35 (fun I3 A3 u1 u2 u3 u4 u5 => ?_)
          have rw3 := WM_row u3
          have r5 : A3 5 j = nI (itN (W rl) th day (R j) m 3) := rw3 3 (by omega)
          have r6 : A3 6 j = nI (itN (W rl) th day (R j) m 4) := rw3 4 (by omega)
          have r4 : A3 4 j = nI (itN (W rl) th day (R j) m 2) := rw3 2 (by omega)
          have last : mFr (d + 89) 156 112 [some (.ref 0), some (.int (nI j)), some (.int (nI m)), some (.int (nI q)), some (.int (nI m))] [.int v] (mkH dSh I3 V' L' A3) (fun v' h' => JQ (some (.int v)) (mkH cSh I1 V L A1) v' h') := by
            simp (disch := first | assumption | exact mnl_i | exact mnl_r | exact mnl_n | exact mnl_0 | omega) only [↓reduceIte, tolN, tolS, E156_112.1, E156_112.2.1, E156_112.2.2.1, E156_112.2.2.2.1, dShG]
            refine M155 hj5 u2 (by rw [u1 30 (by omega) (by omega) (by omega)]; exact p30) (by rw [u1 31 (by omega) (by omega) (by omega)]; exact p31) (by rw [u1 32 (by omega) (by omega) (by omega)]; exact p32) (by rw [u1 33 (by omega) (by omega) (by omega)]; exact p33) _ _ (fun A4 z => ?_)
            simp (disch := first | assumption | exact mnl_i | exact mnl_r | exact mnl_n | exact mnl_0 | omega) only [↓reduceIte, tolN, tolS, E156_112.2.2.2.2.1, E156_112.2.2.2.2.2]
            exact JR_S hF.1 hF.2 hc.1 hc.2.1 hc.2.2 hm.1 hm.2.1 hm.2.2 s1 (mS_13 (fun f hf => by rw [u1 f (by omega) (by omega) (by omega), p1 f hf]) z)
          have hq5 : q = 0 ∨ q = 1 ∨ q = 2 ∨ q = 3 ∨ q = 4 := by omega
          rcases hq5 with e0 | e0 | e0 | e0 | e0 <;> subst e0
          · rw [hv] at last ⊢
            simp (disch := first | assumption | exact mnl_i | exact mnl_r | exact mnl_n | exact mnl_0 | omega) only [↓reduceIte, tolN, tolS, E156_55, E156_59, dShG, dShR, show nI 0 = 0 from rfl, pix_nI, r5]
            exact last
          · rw [hv] at last ⊢
            simp (disch := first | assumption | exact mnl_i | exact mnl_r | exact mnl_n | exact mnl_0 | omega) only [↓reduceIte, tolN, tolS, E156_55, E156_68, E156_73, dShG, dShR, show nI 1 = 1 from rfl, n10, pix_nI, r6, show ¬ (1 : Nat) = 0 by decide] at last ⊢
            exact last
          · rw [hv] at last ⊢
            simp (disch := first | assumption | exact mnl_i | exact mnl_r | exact mnl_n | exact mnl_0 | omega) only [↓reduceIte, tolN, tolS, E156_55, E156_68, E156_82, E156_87, dShG, dShR, show nI 2 = 2 from rfl, show ¬ (2 : Int32) = 0 by decide, show ¬ (2 : Int32) = 1 by decide, pix_nI, r4, show ¬ (2 : Nat) = 0 by decide, show ¬ (2 : Nat) = 1 by decide] at last ⊢
            exact last
          · rw [hv] at last ⊢
            simp (disch := first | assumption | exact mnl_i | exact mnl_r | exact mnl_n | exact mnl_0 | omega) only [↓reduceIte, tolN, tolS, E156_55, E156_68, E156_82, E156_96, E156_101, dShG, dShR, show nI 3 = 3 from rfl, show ¬ (3 : Int32) = 0 by decide, show ¬ (3 : Int32) = 1 by decide, show ¬ (3 : Int32) = 2 by decide, u4, show ¬ (3 : Nat) = 0 by decide, show ¬ (3 : Nat) = 1 by decide, show ¬ (3 : Nat) = 2 by decide] at last ⊢
            exact last
          · rw [hv] at last ⊢
            simp (disch := first | assumption | exact mnl_i | exact mnl_r | exact mnl_n | exact mnl_0 | omega) only [↓reduceIte, tolN, tolS, E156_55, E156_68, E156_82, E156_96, E156_108, dShG, dShR, show nI 4 = 4 from rfl, show ¬ (4 : Int32) = 0 by decide, show ¬ (4 : Int32) = 1 by decide, show ¬ (4 : Int32) = 2 by decide, show ¬ (4 : Int32) = 3 by decide, u5, show ¬ (4 : Nat) = 0 by decide, show ¬ (4 : Nat) = 1 by decide, show ¬ (4 : Nat) = 2 by decide, show ¬ (4 : Nat) = 3 by decide] at last ⊢
            exact last
        have hq5 : q = 0 ∨ q = 1 ∨ q = 2 ∨ q = 3 ∨ q = 4 := by omega
        rcases hq5 with e0 | e0 | e0 | e0 | e0 <;> subst e0
        · have g := r1 3 (by omega)
          simp (disch := first | assumption | exact mnl_i | exact mnl_r | exact mnl_n | exact mnl_0 | omega) only [↓reduceIte, tolN, tolS, E73_89, E73_124, cShG, show nI 0 = 0 from rfl, g]
          exact tail _ rfl
        · have g := r1 4 (by omega)
          simp (disch := first | assumption | exact mnl_i | exact mnl_r | exact mnl_n | exact mnl_0 | omega) only [↓reduceIte, tolN, tolS, E73_89, E73_132, cShG, show nI 1 = 1 from rfl, n10, g]
          exact tail _ rfl
        · have g := r1 2 (by omega)
          simp (disch := first | assumption | exact mnl_i | exact mnl_r | exact mnl_n | exact mnl_0 | omega) only [↓reduceIte, tolN, tolS, E73_89, E73_140, cShG, show nI 2 = 2 from rfl, show ¬ (2 : Int32) = 0 by decide, show ¬ (2 : Int32) = 1 by decide, g]
          exact tail _ rfl
        · simp (disch := first | assumption | exact mnl_i | exact mnl_r | exact mnl_n | exact mnl_0 | omega) only [↓reduceIte, tolN, tolS, E73_89, E73_148, cShG, show nI 3 = 3 from rfl, show ¬ (3 : Int32) = 0 by decide, show ¬ (3 : Int32) = 1 by decide, show ¬ (3 : Int32) = 2 by decide]
          exact tail _ rfl
        · simp (disch := first | assumption | exact mnl_i | exact mnl_r | exact mnl_n | exact mnl_0 | omega) only [↓reduceIte, tolN, tolS, E73_89, E73_151, cShG, show nI 4 = 4 from rfl, show ¬ (4 : Int32) = 0 by decide, show ¬ (4 : Int32) = 1 by decide, show ¬ (4 : Int32) = 2 by decide, show ¬ (4 : Int32) = 3 by decide]
          exact tail _ rfl
      · have wq := fun d h P => M114_out (y := 4) (n := 4) (x := w) rfl hw d h P
        have hne : ¬ w = 0 ∧ ¬ w = 1 ∧ ¬ w = 2 ∧ ¬ w = 3 ∧ ¬ w = 4 := by
          rcases hw with hw | ⟨q, hq, hq2, rfl⟩
          · refine ⟨?_, ?_, ?_, ?_, ?_⟩ <;> (intro z; rw [z] at hw; revert hw; decide)
          · have nn : ∀ k, k < 5 → ¬ nI q = nI k := fun k hk z => by have := (nI_eq hq2 (by omega)).mp z; omega
            exact ⟨nn 0 (by omega), nn 1 (by omega), nn 2 (by omega), nn 3 (by omega), nn 4 (by omega)⟩
        obtain ⟨a0, a1, a2, a3, a4⟩ := hne
        simp (disch := first | assumption | exact mnl_i | exact mnl_r | exact mnl_n | exact mnl_0 | omega) only [↓reduceIte, tolN, tolS, E73_89, E73_154, a0, a1, a2, a3, a4]
        simp (disch := first | assumption | exact mnl_i | exact mnl_r | exact mnl_n | exact mnl_0 | omega) only [↓reduceIte, tolS, E156_0, E156_8, E156_18, E156_27, B156, dShG, M116_in hm.1.1 h5 hj, n10, wj, wq]
        exact JR_S hF.1 hF.2 hc.1 hc.2.1 hc.2.2 hm.1 hm.2.1 hm.2.2 s1 mSx_refl
    · have wj := fun d h P => M114_out (y := 60) (n := 60) (x := n) rfl hn d h P
      have hb : mRun (d + 90) 156 [.ref 0, .int (nI j), .int n, .int w] (mkH dSh I' V' L' A') (fun v' h' => JQ (some (.int (-2))) (mkH cSh I V L A) v' h') := by
        simp (disch := first | assumption | exact mnl_i | exact mnl_r | exact mnl_n | exact mnl_0 | omega) only [↓reduceIte, tolS, E156_0, E156_8, E156_27, B156, dShG, M116_in hm.1.1 h5 hj, n10, wj]
        exact JR_B hF hc hm
      rcases hn with hn | ⟨m, hm1, hm2, rfl⟩
      · simp (disch := first | assumption | exact mnl_i | exact mnl_r | exact mnl_n | exact mnl_0 | omega) only [↓reduceIte, tolS, E73_0, E73_15, E73_25, B73, cShG, S1_in hc.1.1 h5 hj, hlt, hn]
        exact hb
      · have hm6 : 60 < m := by omega
        simp (disch := first | assumption | exact mnl_i | exact mnl_r | exact mnl_n | exact mnl_0 | omega) only [↓reduceIte, tolS, E73_0, E73_15, E73_19, E73_25, B73, cShG, S1_in hc.1.1 h5 hj, hlt, q_neg, q_gt, hm6]
        exact hb
  · simp (disch := first | assumption | exact mnl_i | exact mnl_r | exact mnl_n | exact mnl_0 | omega) only [↓reduceIte, tolS, E73_0, E73_25, B73, cShG, S1_out hc.1.1 h5 hi]
    simp (disch := first | assumption | exact mnl_i | exact mnl_r | exact mnl_n | exact mnl_0 | omega) only [↓reduceIte, tolS, E156_0, E156_27, B156, dShG, M116_out hm.1.1 h5 hi]
    exact JR_B hF hc hm
end J8
