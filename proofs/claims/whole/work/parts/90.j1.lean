/-! calls on both sides: the first -/
section J1
variable {I I' A A' : TI} {V V' : TV} {nt many day rl : Nat} {R : Nat → Nat → Nat} {th : Nat → Nat} {W : Nat → Nat → List Int32} {e : TE}
theorem M114p (d : Nat) (v x y : Int32) (h : MH) (P : MP) : mRun (d + 1) 114 [.int v, .int x, .int y] h P = if v < x then P (some (.int 0)) h else if y < v then P (some (.int 0)) h else P (some (.int 1)) h := by
  simp (disch := first | assumption | exact mnl_i | exact mnl_r | exact mnl_n | exact mnl_0 | omega) only [↓reduceIte, E114_0, E114_5, E114_10, E114_14, E114_15, B114]
theorem n10 : ¬ (1 : Int32) = 0 := by decide
theorem MK_fr {kp im : Nat} (h : MK I A kp im R th day rl) (fI : ∀ f, 40 ≤ f ∧ f ≤ 43 → I' 0 f = I 0 f) (f1 : A' 18 = A 18) (f2 : A' 19 = A 19) : MK I' A' kp im R th day rl := by
  obtain ⟨h1, h2⟩ := h
  refine ⟨by rw [fI 40 (by omega)]; exact h1, fun z => ?_⟩
  rw [fI 41 (by omega), fI 42 (by omega), fI 43 (by omega), f1, f2]
  exact h2 z
theorem MH_fr {so : Nat → Int32} {sz : Nat → Nat} {ce : Nat → Nat → Int32} (h : MHs A so sz ce) (f1 : A' 20 = A 20) (f2 : A' 21 = A 21) (f3 : A' 22 = A 22) : MHs A' so sz ce := by
  intro s hs
  rw [f1, f2, f3]
  exact h s hs
theorem MT_fr (h : MT I A nt W) (f1 : I' 0 12 = I 0 12) (f2 : I' 0 16 = I 0 16) (fA : ∀ b, 9 ≤ b ∧ b ≤ 11 → A' b = A b) : MT I' A' nt W := by
  obtain ⟨h1, cd, h2, h3, h4⟩ := h
  refine ⟨by rw [f1]; exact h1, cd, by rw [f2]; exact h2, h3, fun i hi => ?_⟩
  have := h4 i hi
  unfold mtc at this ⊢
  rw [fA 9 (by omega), fA 10 (by omega), fA 11 (by omega)]
  exact this
theorem MG_fr (h : MGm I A many R th day rl) (fI : ∀ f, f = 0 ∨ f = 2 ∨ f = 9 → I' 0 f = I 0 f) (fA : ∀ b, 1 ≤ b ∧ b ≤ 7 → A' b = A b) : MGm I' A' many R th day rl := by
  obtain ⟨h1, h2, h3, h4, h5⟩ := h
  exact ⟨by rw [fI 2 (by omega)]; exact h1, fun j hj f hf => by rw [fA _ (by omega)]; exact h2 j hj f hf, by rw [fI 0 (by omega)]; exact h3, by rw [fA 1 (by omega)]; exact h4, by rw [fI 9 (by omega)]; exact h5⟩
theorem CT_fr (h : CT I A nt W) (hn : nt ≤ 6) (f1 : I' 0 3 = I 0 3) (f2 : ∀ i, i < 6 → I' (23 + 4 * i) 0 = I (23 + 4 * i) 0) (fA : ∀ b, 24 ≤ b ∧ b ≤ 46 → b % 4 = 0 ∨ b % 4 = 2 → A' b = A b) : CT I' A' nt W :=
  ⟨by rw [f1]; exact h.1, fun i hi => txt_fr (h.2.1 i hi) (fA _ (by omega) (by omega)) (fA _ (by omega) (by omega)), fun i hi => by rw [f2 i hi]; exact h.2.2 i hi⟩
/-- the game may change: what it isn't stays -/
theorem CTE_G (h : CT I A nt W) (k : CE I V A e) (hn : nt ≤ 6) (hk : FE nt many R e) (fI : ∀ b g, (b < 4 ∨ b = 11 ∨ (13 ≤ b ∧ b ≤ 17) ∨ (23 ≤ b ∧ b ≤ 53) ∨ b = 61) → I' b g = I b g) (fV : V' 61 2 = V 61 2) (fA : ∀ b, b = 3 ∨ (24 ≤ b ∧ b ≤ 46 ∧ (b % 4 = 0 ∨ b % 4 = 2)) ∨ (48 ≤ b ∧ b ≤ 54) ∨ b = 62 → A' b = A b) : CT I' A' nt W ∧ CE I' V' A' e := by
  refine ⟨CT_fr h hn (fI 0 3 (by omega)) (fun i hi => fI _ 0 (by omega)) (fun b hb hb2 => fA b (by omega)), ⟨by rw [fI 2 1 (by omega)]; exact k.1.1, by rw [fA 3 (by omega)]; exact k.1.2⟩, CK_fr k.2.1 (FK_im hk.2.1) (fI 0 8 (by omega)) (fun b g hb => fI b g (by omega)) fV (fA 62 (by omega)), CH_fr k.2.2 (fun b g hb => fI b g (by omega)) (fun b hb => fA b (by omega))⟩
theorem MTE_G (h : MT I A nt W) (k : ME I A e) (fI : ∀ f, f = 10 ∨ f = 12 ∨ f = 16 ∨ (40 ≤ f ∧ f ≤ 43) → I' 0 f = I 0 f) (fA : ∀ b, (8 ≤ b ∧ b ≤ 11) ∨ (18 ≤ b ∧ b ≤ 22) → A' b = A b) : MT I' A' nt W ∧ ME I' A' e :=
  ⟨MT_fr h (fI 12 (by omega)) (fI 16 (by omega)) (fun b hb => fA b (by omega)), ⟨by rw [fI 10 (by omega)]; exact k.1.1, by rw [fA 8 (by omega)]; exact k.1.2⟩, MK_fr k.2.1 (fun f hf => fI f (by omega)) (fA 18 (by omega)) (fA 19 (by omega)), MH_fr k.2.2 (fA 20 (by omega)) (fA 21 (by omega)) (fA 22 (by omega))⟩
theorem cS_20 {rl : Nat} (hr : rl < 6) (q1 : ∀ b g, b ≠ 20 → I' b g = I b g) (q2 : ∀ b, b ≠ 23 + 4 * rl + 2 → A' b = A b) : cS I V A I' V A' :=
  ⟨fun b g hb => q1 b g (by unfold scI at hb; omega), fun _ _ _ => rfl, fun b hb => q2 b (by unfold scA at hb; omega)⟩
theorem cS_19 {rl : Nat} (hr : rl < 6) (q1 : ∀ b g, b ≠ 20 → b ≠ 19 → I' b g = I b g) (q2 : ∀ b, b ≠ 23 + 4 * rl + 2 → A' b = A b) : cS I V A I' V A' :=
  ⟨fun b g hb => q1 b g (by unfold scI at hb; omega) (by unfold scI at hb; omega), fun _ _ _ => rfl, fun b hb => q2 b (by unfold scA at hb; omega)⟩
theorem mS_13 (q1 : mkp I I') (q2 : ∀ b, b ≠ 13 → b ≠ 14 → A' b = A b) : mSx I A I' A' := ⟨q1, fun b hb => q2 b (by omega) (by omega)⟩
theorem J74 {hC hM : MH} (h : REL hC hM) (d : Nat) (x : Int32) : JR (d + 90) 74 158 [.int x] hC hM := by
  obtain ⟨I, V, L, A, I', V', L', A', nt, W, many, R, th, day, rl, e, ec, em, g, f, c1, c2, c3, m1, m2, m3⟩ := h
  rw [ec, em]
  unfold JR
  have hrl : rl < 6 := by have := g.2.2.2.2; omega
  rcases i32_ix x many with ⟨j, hj, hj2, rfl⟩ | ho
  · refine S74_in c1.1 g.1 hj (WR_of g c1 c2 hj) _ _ (fun I1 A1 q1 q2 => ?_)
    refine M158_in m1.1 g.1 hj (WM_of g m1 m2 hj) _ _ (fun I2 A2 p1 p2 => ?_)
    exact JR_S g f c1 c2 c3 m1 m2 m3 (cS_20 hrl q1 q2) (mS_13 p1 p2)
  · refine S74_out c1.1 g.1 ho _ _ ?_
    refine M158_out m1.1 g.1 ho _ _ ?_
    exact JR_end g f c1 c2 c3 m1 m2 m3
theorem M159_out {many : Nat} {i : Int32} {L : Nat → Int64} (hm : I 0 2 = nI many) (h5 : many ≤ 5) (hi : i < 0 ∨ ∃ j, many ≤ j ∧ j < 2 ^ 31 ∧ i = nI j) (d : Nat) (P : MP) (hP : P (some (.int (-2))) (mkH dSh I V L A)) : mRun (d + 7) 159 [.ref 0, .int i] (mkH dSh I V L A) P := by
  simp (disch := first | assumption | exact mnl_i | exact mnl_r | exact mnl_n | exact mnl_0 | omega) only [↓reduceIte, tolS, E159_0, E159_8, B159, dShG, M116_out hm h5 hi]
  exact hP
theorem J76 {hC hM : MH} (h : REL hC hM) (d : Nat) (x : Int32) : JR (d + 90) 76 159 [.int x] hC hM := by
  obtain ⟨I, V, L, A, I', V', L', A', nt, W, many, R, th, day, rl, e, ec, em, g, f, c1, c2, c3, m1, m2, m3⟩ := h
  rw [ec, em]
  unfold JR
  have hrl : rl < 6 := by have := g.2.2.2.2; omega
  rcases i32_ix x many with ⟨j, hj, hj2, rfl⟩ | ho
  · refine S76_in c1.1 g.1 hj (WR_of g c1 c2 hj) _ _ (fun I1 A1 q1 q2 => ?_)
    refine M159_in m1.1 g.1 hj (WM_of g m1 m2 hj) _ _ (fun I2 A2 p1 p2 => ?_)
    exact JR_S g f c1 c2 c3 m1 m2 m3 (cS_19 hrl q1 q2) (mS_13 p1 p2)
  · refine S76_out c1.1 g.1 ho _ _ ?_
    refine M159_out m1.1 g.1 ho _ _ ?_
    exact JR_end g f c1 c2 c3 m1 m2 m3
def updR (R : Nat → Nat → Nat) (j : Nat) (r : Nat → Nat) : Nat → Nat → Nat := fun k => if k = j then r else R k
theorem CG_upR (h : CG I V A many R th day rl) {j : Nat} {r : Nat → Nat} (hm : many ≤ 5) (hI : ∀ b g, b ≠ 6 + 1 * j → (b = 4 ∨ (6 ≤ b ∧ b ≤ 10) ∨ b = 59) → I' b g = I b g) (hj : j < many) (hr : ∀ f, f < 6 → I' (6 + 1 * j) f = nI (r f)) (fV : V' 59 2 = V 59 2) (fA : A' 60 = A 60) : CG I' V' A' many (updR R j r) th day rl := by
  obtain ⟨h1, h2, h3, h4, h5⟩ := h
  refine ⟨by rw [hI 4 1 (by omega) (by omega)]; exact h1, fun k hk f hf => ?_, by rw [hI 59 1 (by omega) (by omega)]; exact h3, by rw [fA]; exact h4, by rw [fV]; exact h5⟩
  unfold updR
  by_cases e : k = j
  · rw [if_pos e, e]; exact hr f hf
  · rw [if_neg e, hI _ f (by omega) (by omega)]; exact h2 k hk f hf
theorem MG_upR (h : MGm I A many R th day rl) {j : Nat} {r : Nat → Nat} (fI : ∀ f, f = 0 ∨ f = 2 ∨ f = 9 → I' 0 f = I 0 f) (f1 : A' 1 = A 1) (fA : ∀ b k, 2 ≤ b ∧ b ≤ 7 → k ≠ j → A' b k = A b k) (hr : ∀ f, f < 6 → A' (2 + f) j = nI (r f)) : MGm I' A' many (updR R j r) th day rl := by
  obtain ⟨h1, h2, h3, h4, h5⟩ := h
  refine ⟨by rw [fI 2 (by omega)]; exact h1, fun k hk f hf => ?_, by rw [fI 0 (by omega)]; exact h3, by rw [f1]; exact h4, by rw [fI 9 (by omega)]; exact h5⟩
  unfold updR
  by_cases e : k = j
  · rw [if_pos e, e]; exact hr f hf
  · rw [if_neg e, fA _ k (by omega) e]; exact h2 k hk f hf
theorem FG_upR (g : FG nt many R th day rl) {j : Nat} {r : Nat → Nat} (hr : rOk r) : FG nt many (updR R j r) th day rl := by
  refine ⟨g.1, fun k hk => ?_, g.2.2⟩
  unfold updR
  by_cases e : k = j
  · rw [if_pos e]; exact hr
  · rw [if_neg e]; exact g.2.1 k hk
theorem FE_upR (f : FE nt many R e) {j : Nat} {r : Nat → Nat} (hr : r 0 = R j 0) : FE nt many (updR R j r) e := FE_R f (fun k hk => by
  unfold updR
  by_cases e : k = j
  · rw [if_pos e, hr, e]
  · rw [if_neg e])
theorem goN_0 {W : Nat → List Int32} {th : Nat → Nat} {day : Nat} {r : Nat → Nat} : (goN W th day r).1 0 = r 0 := by
  unfold goN
  split
  · split
    · split <;> rfl
    · dsimp only
      split <;> rfl
  · rfl
theorem WM_row {j : Nat} {W : Nat → List Int32} {r : Nat → Nat} (h : WM I A j rl W th day r) : ∀ f, f < 6 → A (2 + f) j = nI (r f) := by
  obtain ⟨-, -, -, -, ⟨r0, r1, r2, r3, r4, r5⟩, -⟩ := h
  intro f hf
  match f, hf with
  | 0, _ => exact r0
  | 1, _ => exact r1
  | 2, _ => exact r2
  | 3, _ => exact r3
  | 4, _ => exact r4
  | 5, _ => exact r5
theorem J71 {hC hM : MH} (h : REL hC hM) (d : Nat) (x : Int32) : JR (d + 90) 71 151 [.int x] hC hM := by
  obtain ⟨I, V, L, A, I', V', L', A', nt, W, many, R, th, day, rl, e, ec, em, g, f, c1, c2, c3, m1, m2, m3⟩ := h
  rw [ec, em]
  unfold JR
  have hrl : rl < 6 := by have := g.2.2.2.2; omega
  rcases i32_ix x many with ⟨j, hj, hj2, rfl⟩ | ho
  · have hW := WR_of g c1 c2 hj
    have hM' := WM_of g m1 m2 hj
    have hm5 := g.1
    by_cases h3 : R j 3 < 23
    · refine S71_in c1.1 g.1 hj hW h3 _ _ (fun I1 f1 q1 q2 => ?_)
      refine M151_in m1.1 g.1 hj hM' h3 _ _ (fun I2 A2 p1 p2 p3 => ?_)
      have x1 := CTE_G (I' := I1) (V' := V) (A' := upA A (23 + 4 * rl + 2) f1) c2 c3 g.2.2.2.2.2 f (fun b g' hb => q1 b g' (by omega)) rfl (fun b hb => upA_n (by omega))
      have x2 := MTE_G (I' := I2) (A' := A2) m2 m3 (fun f' hf => p1.1 f' (by omega) (by omega) (by omega)) (fun b hb => p2.1 b (by omega) (by omega) (by omega) (by omega) (by omega) (by omega))
      exact JR_end (FG_upR g (goN_ok (g.2.1 j hj))) (FE_upR f goN_0) (CG_upR c1 hm5 (fun b g' hb _ => q1 b g' hb) hj q2 rfl (upA_n (by omega))) x1.1 x1.2 (MG_upR m1 (fun f' hf => p1.1 f' (by omega) (by omega) (by omega)) (p2.1 1 (by omega) (by omega) (by omega) (by omega) (by omega) (by omega)) (fun b k hb hk => p2.2 b k hk (by omega) (by omega)) (WM_row p3)) x2.1 x2.2
    · refine S71_home c1.1 g.1 hj hW h3 _ _ ?_
      refine M151_home m1.1 g.1 hj hM' h3 _ _ ?_
      exact JR_end g f c1 c2 c3 m1 m2 m3
  · refine S71_out c1.1 g.1 ho _ _ ?_
    refine M151_out m1.1 g.1 ho _ _ ?_
    exact JR_end g f c1 c2 c3 m1 m2 m3
theorem S27_y {n : Nat} {L : Nat → Int64} (hn : I 2 1 = nI n) (h : n < 160) (d : Nat) (v : Int32) (P : MP) : mRun (d + 1) 27 [.ref 2, .int v] (mkH cSh I V L A) P = P (some (.int 1)) (mkH cSh (up2 I 2 1 (nI (n + 1))) V L (upA A 3 (upd (A 3) n v))) := by
  simp (disch := first | assumption | exact mnl_i | exact mnl_r | exact mnl_n | exact mnl_0 | omega) only [↓reduceIte, tolS, E27_0, E27_12, E27_14, B27, cShG, cShP, cShR, hn, nI_d, q_ll, h, pix_nI, q_add]
theorem S27_n {n : Nat} {L : Nat → Int64} (hn : I 2 1 = nI n) (h : n = 160) (d : Nat) (v : Int32) (P : MP) : mRun (d + 1) 27 [.ref 2, .int v] (mkH cSh I V L A) P = P (some (.int 0)) (mkH cSh I V L A) := by
  have h2 : ¬ n < 160 := by omega
  have h3 : n < 2 ^ 31 := by omega
  simp (disch := first | assumption | exact mnl_i | exact mnl_r | exact mnl_n | exact mnl_0 | omega) only [↓reduceIte, tolS, E27_0, E27_12, B27, cShG, cShP, cShR, hn, nI_d, q_ll, h2]
theorem J67 {hC hM : MH} (h : REL hC hM) (d : Nat) (x : Int32) : JR (d + 90) 67 125 [.int x] hC hM := by
  obtain ⟨I, V, L, A, I', V', L', A', nt, W, many, R, th, day, rl, e, ec, em, g, f, c1, c2, c3, m1, m2, m3⟩ := h
  rw [ec, em]
  unfold JR
  have hn := f.1.1
  have hc := c3.1.1
  have hm := m3.1.1
  rcases i32_ix x 256 with ⟨j, hj, hj2, rfl⟩ | ho | ⟨j, hj, hj2, rfl⟩
  · have hj3 : ¬ 255 < j := by omega
    by_cases c : e.1.1 < 160
    · have ne : ¬ e.1.1 = 160 := by omega
      simp (disch := first | assumption | exact mnl_i | exact mnl_r | exact mnl_n | exact mnl_0 | omega) only [↓reduceIte, tolS, E67_0, E67_4, E67_14, E67_25, E67_37, B67, cShG, q_neg, q_gt, hj3, S27_y hc c, n10, up2_s]
      simp (disch := first | assumption | exact mnl_i | exact mnl_r | exact mnl_n | exact mnl_0 | omega) only [↓reduceIte, tolS, E125_0, E125_11, E125_14, E125_24, E125_27, B125, dShG, dShP, dShR, M114p, q_neg, q_gt, hj3, n10, hm, q_eq, ne, q_add, pix_nI, up2_s]
      refine JR_end (e := ((e.1.1 + 1, fun i => if i = e.1.1 then j else e.1.2 i), e.2)) g ⟨⟨by show e.1.1 + 1 ≤ 160; omega, fun i hi => ?_⟩, f.2⟩ (CG_fr c1 g.1 (fun b g' hb => up2_a (by omega)) rfl (upA_n (by omega))) (CT_fr c2 g.2.2.2.2.2 (up2_a (by omega)) (fun i hi => up2_a (by omega)) (fun b hb _ => upA_n (by omega))) ⟨⟨up2_s, fun i hi => ?_⟩, CK_fr c3.2.1 (FK_im f.2.1) (up2_a (by omega)) (fun b g' hb => up2_a (by omega)) rfl (upA_n (by omega)), CH_fr c3.2.2 (fun b g' hb => up2_a (by omega)) (fun b hb => upA_n (by omega))⟩ (MG_fr m1 (fun f' hf => up2_f (by omega)) (fun b hb => upA_n (by omega))) (MT_fr m2 (up2_f (by omega)) (up2_f (by omega)) (fun b hb => upA_n (by omega))) ⟨⟨up2_s, fun i hi => ?_⟩, MK_fr m3.2.1 (fun f' hf => up2_f (by omega)) (upA_n (by omega)) (upA_n (by omega)), MH_fr m3.2.2 (upA_n (by omega)) (upA_n (by omega)) (upA_n (by omega))⟩
      · dsimp only at hi ⊢
        by_cases ei : i = e.1.1
        · rw [if_pos ei]; omega
        · rw [if_neg ei]; exact f.1.2 i (by omega)
      · dsimp only at hi ⊢
        rw [upA_s]
        by_cases ei : i = e.1.1
        · rw [if_pos ei, ei, upd_s]
        · rw [if_neg ei, upd_n ei]; exact c3.1.2 i (by omega)
      · dsimp only at hi ⊢
        rw [upA_s]
        by_cases ei : i = e.1.1
        · rw [if_pos ei, ei, upd_s]
        · rw [if_neg ei, upd_n ei]; exact m3.1.2 i (by omega)
    · have ne : e.1.1 = 160 := by omega
      simp (disch := first | assumption | exact mnl_i | exact mnl_r | exact mnl_n | exact mnl_0 | omega) only [↓reduceIte, tolS, E67_0, E67_4, E67_14, E67_35, E67_37, B67, cShG, q_neg, q_gt, hj3, S27_n hc ne]
      simp (disch := first | assumption | exact mnl_i | exact mnl_r | exact mnl_n | exact mnl_0 | omega) only [↓reduceIte, tolS, E125_0, E125_14, E125_24, B125, dShG, dShP, dShR, M114p, q_neg, q_gt, hj3, n10, hm, q_eq, ne]
      exact JR_end g f c1 c2 c3 m1 m2 m3
  · simp (disch := first | assumption | exact mnl_i | exact mnl_r | exact mnl_n | exact mnl_0 | omega) only [↓reduceIte, tolS, E67_0, E67_11, B67, cShG, ho]
    simp (disch := first | assumption | exact mnl_i | exact mnl_r | exact mnl_n | exact mnl_0 | omega) only [↓reduceIte, tolS, E125_0, E125_11, B125, dShG, M114p, ho]
    exact JR_end g f c1 c2 c3 m1 m2 m3
  · have hj3 : 255 < j := by omega
    simp (disch := first | assumption | exact mnl_i | exact mnl_r | exact mnl_n | exact mnl_0 | omega) only [↓reduceIte, tolS, E67_0, E67_4, E67_11, B67, cShG, q_neg, q_gt, hj3]
    simp (disch := first | assumption | exact mnl_i | exact mnl_r | exact mnl_n | exact mnl_0 | omega) only [↓reduceIte, tolS, E125_0, E125_11, B125, dShG, M114p, q_neg, q_gt, hj3]
    exact JR_end g f c1 c2 c3 m1 m2 m3
end J1
