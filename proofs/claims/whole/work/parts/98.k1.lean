/-! a day on both sides -/
def Rn (w : Nat → List Int32) (th : Nat → Nat) (day : Nat) (R : Nat → Nat → Nat) (n i : Nat) : Nat → Nat → Nat := fun j => if j < i then itN w th day (R j) n else R j
theorem Rn_0 {w : Nat → List Int32} {th : Nat → Nat} {day : Nat} {R : Nat → Nat → Nat} {n : Nat} : Rn w th day R n 0 = R := by
  funext j
  unfold Rn
  rw [if_neg (by omega)]
theorem Rn_in {w : Nat → List Int32} {th : Nat → Nat} {day : Nat} {R : Nat → Nat → Nat} {n i : Nat} : updR (Rn w th day R n i) i (itN w th day (R i) 0) = Rn w th day R n i := by
  funext j
  unfold updR
  by_cases c : j = i
  · rw [if_pos c, c]
    unfold Rn
    rw [if_neg (by omega)]; rfl
  · rw [if_neg c]
theorem Rn_out {w : Nat → List Int32} {th : Nat → Nat} {day : Nat} {R : Nat → Nat → Nat} {n i : Nat} : updR (Rn w th day R n i) i (itN w th day (R i) n) = Rn w th day R n (i + 1) := by
  funext j
  unfold updR Rn
  by_cases c : j = i
  · rw [if_pos c, if_pos (by omega), c]
  · rw [if_neg c]
    by_cases c2 : j < i
    · rw [if_pos c2, if_pos (by omega)]
    · rw [if_neg c2, if_neg (by omega)]
theorem updR_u {R : Nat → Nat → Nat} {j : Nat} {a b : Nat → Nat} : updR (updR R j a) j b = updR R j b := by
  funext k
  unfold updR
  by_cases c : k = j
  · rw [if_pos c, if_pos c]
  · rw [if_neg c, if_neg c, if_neg c]
theorem updR_s {R : Nat → Nat → Nat} {j : Nat} {a : Nat → Nat} : updR R j a j = a := if_pos rfl
section K1
variable {I I' A A' : TI} {V V' : TV} {L L' : Nat → Int64} {nt many day rl : Nat} {R : Nat → Nat → Nat} {th : Nat → Nat} {W : Nat → Nat → List Int32} {e : TE}
theorem FB_go (hF : FB nt many R th day rl e) {j : Nat} (hj : j < many) : FB nt many (updR R j (goN (W rl) th day (R j)).1) th day rl e := ⟨FG_upR hF.1 (goN_ok (hF.1.2.1 j hj)), FE_upR hF.2 goN_0⟩
theorem CB_go (hF : FB nt many R th day rl e) (hc : CB I V A nt W many R th day rl e) {j : Nat} (hj : j < many) (hrl : rl < 6) {r : Nat → Nat} (q1 : ∀ b g, b ≠ 6 + 1 * j → I' b g = I b g) (q2 : ∀ f, f < 6 → I' (6 + 1 * j) f = nI (r f)) (q3 : ∀ b, b ≠ 23 + 4 * rl + 2 → A' b = A b) : CB I' V A' nt W many (updR R j r) th day rl e := by
  have h5 := hF.1.1
  have x1 := CTE_G (I' := I') (V' := V) (A' := A') hc.2.1 hc.2.2 hF.1.2.2.2.2.2 hF.2 (fun b g' hb => q1 b g' (by omega)) rfl (fun b hb => q3 b (by omega))
  exact ⟨CG_upR hc.1 h5 (fun b g' hb _ => q1 b g' hb) hj q2 rfl (q3 60 (by omega)), x1.1, x1.2⟩
theorem MB_go (h : MB I A nt W many R th day rl e) {j : Nat} {g : (Nat → Nat) × Nat} (p1 : mct I I' g) (p2 : mrw A A' j) (p3 : WM I' A' j rl (W rl) th day g.1) : MB I' A' nt W many (updR R j g.1) th day rl e := by
  have x2 := MTE_G (I' := I') (A' := A') h.2.1 h.2.2 (fun f' hf => p1.1 f' (by omega) (by omega) (by omega)) (fun b hb => p2.1 b (by omega) (by omega) (by omega) (by omega) (by omega) (by omega))
  exact ⟨MG_upR h.1 (fun f' hf => p1.1 f' (by omega) (by omega) (by omega)) (p2.1 1 (by omega) (by omega) (by omega) (by omega) (by omega) (by omega)) (fun b k hb hk => p2.2 b k hk (by omega) (by omega)) (WM_row p3), x2.1, x2.2⟩
theorem S4 (hF : FB nt many R th day rl e) (hc : CB I V A nt W many R th day rl e) {n : Nat} (hn : n ≤ 60) (d : Nat) (P : MP) (hP : ∀ I' A', CB I' V A' nt W many (Rn (W rl) th day R n many) th day rl e → FB nt many (Rn (W rl) th day R n many) th day rl e → P none (mkH cSh I' V L A')) : mRun (d + 5) 4 [.ref 4, .int (nI n), .ref 59] (mkH cSh I V L A) P := by
  have hrl : rl < 6 := by have := hF.1.2.2.2.2; omega
  have h5 := hF.1.1
  simp (disch := first | assumption | exact mnl_i | exact mnl_r | exact mnl_n | exact mnl_0 | omega) only [↓reduceIte, tolS, E4_0, B4]
  refine up_loop many (fun i (s : TI × TI × Option Value) => mFr (d + 4) 4 2 [some (.ref 4), some (.int (nI n)), some (.ref 59), some (.int (nI i)), s.2.2] [] (mkH cSh s.1 V L s.2.1) P) (fun i s => CB s.1 V s.2.1 nt W many (Rn (W rl) th day R n i) th day rl e ∧ FB nt many (Rn (W rl) th day R n i) th day rl e) (fun i s him hi ih => ?_) (fun s hi => ?_) (I, A, none) ⟨by rw [Rn_0]; exact hc, by rw [Rn_0]; exact hF⟩
  · obtain ⟨I1, A1, l4⟩ := s
    obtain ⟨i1, i2⟩ := hi
    replace i1 : CB I1 V A1 nt W many (Rn (W rl) th day R n i) th day rl e := i1
    have h41 := i1.1.1
    have k5 : i < 5 := by omega
    simp (disch := first | assumption | exact mnl_i | exact mnl_r | exact mnl_n | exact mnl_0 | omega) only [↓reduceIte, tolS, E4_2, E4_10, E4_19, cShG, cShR, h41, q_ll, him, nI_d, k5]
    refine up_loop n (fun k (s : TI × TI) => mFr (d + 4) 4 22 [some (.ref 4), some (.int (nI n)), some (.ref 59), some (.int (nI i)), some (.int (nI k))] [] (mkH cSh s.1 V L s.2) P) (fun k s => CB s.1 V s.2 nt W many (updR (Rn (W rl) th day R n i) i (itN (W rl) th day (R i) k)) th day rl e ∧ FB nt many (updR (Rn (W rl) th day R n i) i (itN (W rl) th day (R i) k)) th day rl e) (fun k s hkn hk ihk => ?_) (fun s hk => ?_) (I1, A1) ⟨by rw [Rn_in]; exact i1, by rw [Rn_in]; exact i2⟩
    · obtain ⟨I2, A2⟩ := s
      obtain ⟨k1, k2⟩ := hk
      replace k1 : CB I2 V A2 nt W many (updR (Rn (W rl) th day R n i) i (itN (W rl) th day (R i) k)) th day rl e := k1
      have hW := WR_of k2.1 k1.1 k1.2.1 him
      rw [updR_s] at hW
      have hrid := c6j k5
      simp (disch := first | assumption | exact mnl_i | exact mnl_r | exact mnl_n | exact mnl_0 | omega) only [↓reduceIte, tolS, E4_22, E4_28.1, E4_28.2.1, E4_28.2.2.1, E4_28.2.2.2.1, E4_28.2.2.2.2.1, E4_28.2.2.2.2.2.1, E4_28.2.2.2.2.2.2.1, cShG, cShR, kRider, q_ll, hkn, pix_nI]
      refine S11 hW d _ (fun I3 f3 q1 q2 => ?_)
      simp (disch := first | assumption | exact mnl_i | exact mnl_r | exact mnl_n | exact mnl_0 | omega) only [↓reduceIte, tolS, E4_28.2.2.2.2.2.2.2.1, E4_28.2.2.2.2.2.2.2.2.1, E4_28.2.2.2.2.2.2.2.2.2, q_add]
      have c := CB_go (W := W) (A' := upA A2 (23 + 4 * rl + 2) f3) k2 k1 him hrl q1 q2 (fun b hb => upA_n hb)
      have f := FB_go (W := W) k2 him
      rw [updR_s] at f
      rw [updR_u] at c f
      exact ihk (I3, upA A2 (23 + 4 * rl + 2) f3) ⟨c, f⟩
    · obtain ⟨I2, A2⟩ := s
      rw [Rn_out] at hk
      have hlt : ¬ n < n := by omega
      simp (disch := first | assumption | exact mnl_i | exact mnl_r | exact mnl_n | exact mnl_0 | omega) only [↓reduceIte, tolS, E4_22, E4_45, q_ll, hlt, q_add]
      exact ih (I2, A2, _) hk
  · obtain ⟨I1, A1, l4⟩ := s
    obtain ⟨i1, i2⟩ := hi
    replace i1 : CB I1 V A1 nt W many (Rn (W rl) th day R n many) th day rl e := i1
    have h41 := i1.1.1
    have hlt : ¬ many < many := by omega
    simp (disch := first | assumption | exact mnl_i | exact mnl_r | exact mnl_n | exact mnl_0 | omega) only [↓reduceIte, tolS, E4_2, E4_51, cShG, h41, q_ll, hlt]
    exact hP I1 A1 i1 i2
theorem M153_loop (hF : FB nt many R th day rl e) (hm : MB I A nt W many R th day rl e) {n : Nat} (hn : n ≤ 60) (d : Nat) (P : MP) (hP : ∀ I' A' l3, MB I' A' nt W many (Rn (W rl) th day R n many) th day rl e → mFr (d + 5) 153 60 [some (.ref 0), some (.int (nI n)), some (.int (nI many)), l3] [] (mkH dSh I' V L A') P) : mFr (d + 5) 153 28 [some (.ref 0), some (.int (nI n)), some (.int (nI 0)), none] [] (mkH dSh I V L A) P := by
  have h5 := hF.1.1
  refine up_loop many (fun i (s : TI × TI × Option Value) => mFr (d + 5) 153 28 [some (.ref 0), some (.int (nI n)), some (.int (nI i)), s.2.2] [] (mkH dSh s.1 V L s.2.1) P) (fun i s => MB s.1 s.2.1 nt W many (Rn (W rl) th day R n i) th day rl e ∧ FB nt many (Rn (W rl) th day R n i) th day rl e) (fun i s him hi ih => ?_) (fun s hi => ?_) (I, A, none) ⟨by rw [Rn_0]; exact hm, by rw [Rn_0]; exact hF⟩
  · obtain ⟨I1, A1, l4⟩ := s
    obtain ⟨i1, i2⟩ := hi
    replace i1 : MB I1 A1 nt W many (Rn (W rl) th day R n i) th day rl e := i1
    have h02 := i1.1.1
    simp (disch := first | assumption | exact mnl_i | exact mnl_r | exact mnl_n | exact mnl_0 | omega) only [↓reduceIte, tolS, E153_28, E153_36, dShG, h02, q_ll, him]
    refine up_loop n (fun k (s : TI × TI) => mFr (d + 5) 153 38 [some (.ref 0), some (.int (nI n)), some (.int (nI i)), some (.int (nI k))] [] (mkH dSh s.1 V L s.2) P) (fun k s => MB s.1 s.2 nt W many (updR (Rn (W rl) th day R n i) i (itN (W rl) th day (R i) k)) th day rl e ∧ FB nt many (updR (Rn (W rl) th day R n i) i (itN (W rl) th day (R i) k)) th day rl e) (fun k s hkn hk ihk => ?_) (fun s hk => ?_) (I1, A1) ⟨by rw [Rn_in]; exact i1, by rw [Rn_in]; exact i2⟩
    · obtain ⟨I2, A2⟩ := s
      obtain ⟨k1, k2⟩ := hk
      replace k1 : MB I2 A2 nt W many (updR (Rn (W rl) th day R n i) i (itN (W rl) th day (R i) k)) th day rl e := k1
      have hW := WM_of k2.1 k1.1 k1.2.1 him
      rw [updR_s] at hW
      simp (disch := first | assumption | exact mnl_i | exact mnl_r | exact mnl_n | exact mnl_0 | omega) only [↓reduceIte, tolS, E153_38, E153_43.1, E153_43.2.1, E153_43.2.2.1, dShG, q_ll, hkn]
      refine M150 hW d _ (fun I3 A3 q1 q2 q3 => ?_)
      simp (disch := first | assumption | exact mnl_i | exact mnl_r | exact mnl_n | exact mnl_0 | omega) only [↓reduceIte, tolN, tolS, E153_43.2.2.2.1, E153_43.2.2.2.2, q_add]
      have c := MB_go k1 q1 q2 q3
      have f := FB_go (W := W) k2 him
      rw [updR_s] at f
      rw [updR_u] at c f
      exact ihk (I3, A3) ⟨c, f⟩
    · obtain ⟨I2, A2⟩ := s
      rw [Rn_out] at hk
      have hlt : ¬ n < n := by omega
      simp (disch := first | assumption | exact mnl_i | exact mnl_r | exact mnl_n | exact mnl_0 | omega) only [↓reduceIte, tolS, E153_38, E153_54, q_ll, hlt, q_add]
      exact ih (I2, A2, _) hk
  · obtain ⟨I1, A1, l4⟩ := s
    obtain ⟨i1, i2⟩ := hi
    replace i1 : MB I1 A1 nt W many (Rn (W rl) th day R n many) th day rl e := i1
    have h02 := i1.1.1
    have hlt : ¬ many < many := by omega
    simp (disch := first | assumption | exact mnl_i | exact mnl_r | exact mnl_n | exact mnl_0 | omega) only [↓reduceIte, tolS, E153_28, dShG, h02, q_ll, hlt]
    exact hP I1 A1 l4 i1
theorem J72 {hC hM : MH} (h : REL hC hM) (d : Nat) (x : Int32) : JR (d + 90) 72 153 [.int x] hC hM := by
  obtain ⟨I, V, L, A, I', V', L', A', nt, W, many, R, th, day, rl, e, ec, em, hF, hc, hm⟩ := REL_B h
  rw [ec, em]
  unfold JR
  have h5 := hF.1.1
  have h59 := hc.1.2.2.1
  have h00 := hm.1.2.2.1
  have hday := hF.1.2.2.1
  rcases i32_ix x 61 with ⟨n, hn, hn2, rfl⟩ | hx
  · have hn6 : ¬ 60 < n := by omega
    have wj := fun d h P => M114_in (y := 60) (n := 60) (j := n) rfl (by omega) (by omega) d h P
    by_cases c9 : day < 999
    · have hne : ¬ day = 999 := by omega
      simp (disch := first | assumption | exact mnl_i | exact mnl_r | exact mnl_n | exact mnl_0 | omega) only [↓reduceIte, tolS, E72_0, E72_4, E72_13, E72_29.1, E72_29.2.1, E72_29.2.2.1, E72_29.2.2.2.1, E72_29.2.2.2.2.1, E72_29.2.2.2.2.2.1, B72, cShG, q_neg, q_gt, hn6, h59, q_lt, c9]
      refine S4 hF hc (by omega) _ _ (fun I1 A1 k1 k2 => ?_)
      have h59' := k1.1.2.2.1
      simp (disch := first | assumption | exact mnl_i | exact mnl_r | exact mnl_n | exact mnl_0 | omega) only [↓reduceIte, tolN, tolS, E72_29.2.2.2.2.2.2.1, E72_29.2.2.2.2.2.2.2.1, E72_29.2.2.2.2.2.2.2.2.1, E72_29.2.2.2.2.2.2.2.2.2.1, E72_29.2.2.2.2.2.2.2.2.2.2.1, E72_29.2.2.2.2.2.2.2.2.2.2.2.1, E72_29.2.2.2.2.2.2.2.2.2.2.2.2.1, E72_29.2.2.2.2.2.2.2.2.2.2.2.2.2.1, E72_29.2.2.2.2.2.2.2.2.2.2.2.2.2.2.1, E72_29.2.2.2.2.2.2.2.2.2.2.2.2.2.2.2.1, cShG, cShP, h59', q_add]
      have x1 := CTE_G (I' := up2 I1 59 1 (nI (day + 1))) (V' := V) (A' := A1) k1.2.1 k1.2.2 k2.1.2.2.2.2.2 k2.2 (fun b g hb => up2_a (by omega)) rfl (fun b hb => rfl)
      have hc' : CB (up2 I1 59 1 (nI (day + 1))) V A1 nt W many (Rn (W rl) th day R n many) th (day + 1) rl e := ⟨⟨by rw [up2_a (by omega)]; exact k1.1.1, fun k hk f hf => by rw [up2_a (by omega)]; exact k1.1.2.1 k hk f hf, up2_s, k1.1.2.2.2.1, k1.1.2.2.2.2⟩, x1.1, x1.2⟩
      have hF' : FB nt many (Rn (W rl) th day R n many) th (day + 1) rl e := ⟨⟨k2.1.1, k2.1.2.1, by omega, k2.1.2.2.2⟩, k2.2⟩
      refine S5 hc'.1 h5 hF'.1.2.1 _ _ ?_
      simp (disch := first | assumption | exact mnl_i | exact mnl_r | exact mnl_n | exact mnl_0 | omega) only [↓reduceIte, tolN, tolS, E72_29.2.2.2.2.2.2.2.2.2.2.2.2.2.2.2.2]
      simp (disch := first | assumption | exact mnl_i | exact mnl_r | exact mnl_n | exact mnl_0 | omega) only [↓reduceIte, tolS, E153_0, E153_13, E153_26, B153, dShG, wj, n10, h00, q_eq, hne]
      refine M153_loop hF hm (by omega) _ _ (fun I2 A2 l3 k3 => ?_)
      have h00' := k3.1.2.2.1
      simp (disch := first | assumption | exact mnl_i | exact mnl_r | exact mnl_n | exact mnl_0 | omega) only [↓reduceIte, tolN, tolS, E153_60.1, E153_60.2.1, E153_60.2.2.1, E153_60.2.2.2.1, E153_60.2.2.2.2.1, E153_60.2.2.2.2.2.1, E153_60.2.2.2.2.2.2.1, E153_60.2.2.2.2.2.2.2.1, dShG, dShP, h00', q_add]
      have x2 := MTE_G (I' := up2 I2 0 0 (nI (day + 1))) (A' := A2) k3.2.1 k3.2.2 (fun f' _ => up2_f (by omega)) (fun b hb => rfl)
      have hm' : MB (up2 I2 0 0 (nI (day + 1))) A2 nt W many (Rn (W rl) th day R n many) th (day + 1) rl e := ⟨⟨by rw [up2_f (by omega)]; exact k3.1.1, k3.1.2.1, up2_s, k3.1.2.2.2.1, by rw [up2_f (by omega)]; exact k3.1.2.2.2.2⟩, x2.1, x2.2⟩
      refine M152 hm'.1 h5 hF'.1.2.1 _ _ ?_
      simp (disch := first | assumption | exact mnl_i | exact mnl_r | exact mnl_n | exact mnl_0 | omega) only [↓reduceIte, tolN, tolS, E153_60.2.2.2.2.2.2.2.2]
      exact JR_B hF' hc' hm'
    · have he : day = 999 := by omega
      simp (disch := first | assumption | exact mnl_i | exact mnl_r | exact mnl_n | exact mnl_0 | omega) only [↓reduceIte, tolS, E72_0, E72_4, E72_13, E72_26, B72, cShG, q_neg, q_gt, hn6, h59, q_lt, c9]
      simp (disch := first | assumption | exact mnl_i | exact mnl_r | exact mnl_n | exact mnl_0 | omega) only [↓reduceIte, tolS, E153_0, E153_13, E153_23, B153, dShG, wj, n10, h00, q_eq, he]
      exact JR_B hF hc hm
  · have wj := fun d h P => M114_out (y := 60) (n := 60) (x := x) rfl hx d h P
    have hb : mRun (d + 90) 153 [.ref 0, .int x] (mkH dSh I' V' L' A') (fun v' h' => JQ (some (.int (-2))) (mkH cSh I V L A) v' h') := by
      simp (disch := first | assumption | exact mnl_i | exact mnl_r | exact mnl_n | exact mnl_0 | omega) only [↓reduceIte, tolS, E153_0, E153_10, B153, dShG, wj]
      exact JR_B hF hc hm
    rcases hx with hx | ⟨m, hm1, hm2, rfl⟩
    · simp (disch := first | assumption | exact mnl_i | exact mnl_r | exact mnl_n | exact mnl_0 | omega) only [↓reduceIte, tolS, E72_0, E72_10, B72, hx]
      exact hb
    · have hm6 : 60 < m := by omega
      simp (disch := first | assumption | exact mnl_i | exact mnl_r | exact mnl_n | exact mnl_0 | omega) only [↓reduceIte, tolS, E72_0, E72_4, E72_10, B72, q_neg, q_gt, hm6]
      exact hb
end K1
