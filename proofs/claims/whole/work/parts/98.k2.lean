/-! film on both sides -/
section K2
variable {I I' A A' : TI} {V V' : TV} {L L' : Nat → Int64} {nt many day rl : Nat} {R : Nat → Nat → Nat} {th : Nat → Nat} {W : Nat → Nat → List Int32} {e : TE}
theorem CB_set2 {j n : Nat} {v : Int32} {c : Nat → Int32} (hF : FB nt many R th day rl e) (h : CB I V A nt W many R th day rl e) (hj : j < 4) (fI : ∀ b g, b ≠ 47 + 2 * j → ¬ scI b → I' b g = I b g) (fA : ∀ b, b ≠ 48 + 2 * j → ¬ scA b → A' b = A b) (h1 : I' (47 + 2 * j) 1 = v) (h2 : I' (47 + 2 * j) 2 = nI n) (h3 : ∀ i, i < 40 → A' (48 + 2 * j) i = c i) : CB I' V A' nt W many R th day rl (setE e j n v c) :=
  ⟨CG_fr h.1 hF.1.1 (fun b g hb => fI b g (by omega) (by unfold scI; omega)) rfl (fA 60 (by omega) (by unfold scA; omega)), CT_fr h.2.1 hF.1.2.2.2.2.2 (fI 0 3 (by omega) (by unfold scI; omega)) (fun i hi => fI _ 0 (by omega) (by unfold scI; omega)) (fun b hb _ => fA b (by omega) (by unfold scA; omega)), ⟨⟨by rw [fI 2 1 (by omega) (by unfold scI; omega)]; exact h.2.2.1.1, by rw [fA 3 (by omega) (by unfold scA; omega)]; exact h.2.2.1.2⟩, CK_fr h.2.2.2.1 (FK_im hF.2.2.1) (fI 0 8 (by omega) (by unfold scI; omega)) (fun b g hb => fI b g (by omega) (by unfold scI; omega)) rfl (fA 62 (by omega) (by unfold scA; omega)), CHs_up h.2.2.2.2 (fun b g hb _ => fI b g hb (by unfold scI; omega)) (fun b hb _ => fA b hb (by unfold scA; omega)) h1 h2 h3⟩⟩
theorem WR_fr (hF : FB nt many R th day rl e) (h : CB I V A nt W many R th day rl e) (fI : ∀ b g, b = 0 ∨ b = 4 ∨ (6 ≤ b ∧ b ≤ 10) ∨ (23 ≤ b ∧ b ≤ 46) ∨ b = 59 → I' b g = I b g) (fA : ∀ b, b = 60 ∨ (24 ≤ b ∧ b ≤ 46 ∧ (b % 4 = 0 ∨ b % 4 = 2)) → A' b = A b) {a : Nat} (ha : cSh[a]? = some sRider) {r : Nat → Nat} (hr : ∀ f, f < 6 → I' a f = nI (r f)) (hk : rOk r) : WR I' V A' a 59 (23 + 4 * rl) (W rl) th day r :=
  WR_at hF.1 (CG_fr h.1 hF.1.1 (fun b g hb => fI b g (by omega)) rfl (fA 60 (by omega))) (CT_fr h.2.1 hF.1.2.2.2.2.2 (fI 0 3 (by omega)) (fun i hi => fI _ 0 (by omega)) (fun b hb hb2 => fA b (by omega))) ha hr hk
theorem cv_air : ∀ a, a < 100 → cv 0 (nI a) = nI a := by decide +kernel
theorem WM_A2 {q : Nat} {w : Nat → List Int32} {r : Nat → Nat} (h : WM I A q rl w th day r) (hA : ∀ b, b ≤ 11 → A' b = A b) : WM I A' q rl w th day r := by
  unfold WM mtx at h ⊢
  rw [hA 1 (by omega), hA 2 (by omega), hA 3 (by omega), hA 4 (by omega), hA 5 (by omega), hA 6 (by omega), hA 7 (by omega), hA 9 (by omega), hA 10 (by omega), hA 11 (by omega)]
  exact h
theorem mrw_22 {As A2 : TI} {q : Nat} {x g : Nat → Int32} (h : mrw (upA As 22 x) A2 q) : mrw (upA As 22 g) (upA A2 22 g) q := by
  refine ⟨fun b h1 h2 h3 h4 h5 h6 => ?_, fun b j hj h5 h6 => ?_⟩
  · by_cases c : b = 22
    · rw [c, upA_s, upA_s]
    · rw [upA_n c, upA_n c, h.1 b h1 h2 h3 h4 h5 h6, upA_n c]
  · by_cases c : b = 22
    · rw [c, upA_s, upA_s]
    · rw [upA_n c, upA_n c, h.2 b j hj h5 h6, upA_n c]
theorem M187_y {j k q : Nat} (hj : j < 4) (hk : k < 3) (hq : q ≤ 40) (d : Nat) (P : MP) (hP : ∀ A', (∀ b, b ≠ 20 → b ≠ 21 → b ≠ 22 → A' b = A b) → (A' 20 = upd (A 20) j (nI k)) → (A' 21 = upd (A 21) j (nI q)) → (∀ i, i < 40 → A' 22 (40 * j + i) = 0) → (∀ x, ¬ (40 * j ≤ x ∧ x < 40 * j + 40) → A' 22 x = A 22 x) → P (some (.int 1)) (mkH dSh I V L A')) : mRun (d + 3) 187 [.ref 0, .int (nI j), .int (nI k), .int (nI q)] (mkH dSh I V L A) P := by
  have hk1 : ¬ nI k < -1 := by
    rw [i32_lt, nI_toInt (by omega)]
    have e1 : (-1 : Int32).toInt = -1 := by decide
    omega
  have hk2 : ¬ 2 < k := by omega
  have hq40 : ¬ 40 < q := by omega
  simp (disch := first | assumption | exact mnl_i | exact mnl_r | exact mnl_n | exact mnl_0 | omega) only [↓reduceIte, tolS, E187_0, E187_7, E187_19, E187_23, E187_30, E187_34, E187_43, E187_63, B187, dShG, dShR, M118_in hj, M114p, n10, hk1, q_gt, hk2, hq40, q_neg, pix_nI, upA_n]
  exact M187_lay hj _ _ _ _ _ hP
/-- what a film tells -/
def fmN (w : Nat → List Int32) (th : Nat → Nat) (day : Nat) (r : Nat → Nat) (k i : Nat) : Int32 := if i < k then nI (itN w th day r (i + 1) 4) else 0
theorem fm_up {w : Nat → List Int32} {th : Nat → Nat} {day : Nat} {r : Nat → Nat} {k i : Nat} {f : Nat → Int32} (h : f i = fmN w th day r k i) : upd f k (nI (itN w th day r (k + 1) 4)) i = fmN w th day r (k + 1) i := by
  unfold fmN at h ⊢
  by_cases c : i = k
  · rw [c, upd_s, if_pos (by omega)]
  · rw [upd_n c, h]
    by_cases c2 : i < k
    · rw [if_pos c2, if_pos (by omega)]
    · rw [if_neg c2, if_neg (by omega)]
theorem J98 {hC hM : MH} (h : REL hC hM) (d : Nat) (x y n : Int32) : JR (d + 90) 98 180 [.int x, .int y, .int n] hC hM := by
  obtain ⟨I, V, L, A, I', V', L', A', nt, W, many, R, th, day, rl, e, ec, em, hF, hc, hm⟩ := REL_B h
  rw [ec, em]
  unfold JR
  have h5 := hF.1.1
  have hrl : rl < 6 := by have := hF.1.2.2.2.2; omega
  rcases i32_ix x 4 with ⟨s, hs, hs2, rfl⟩ | ho
  · have hlt : 47 + 2 * s < 900 := by omega
    obtain ⟨t1, t2⟩ := c47 hs
    rcases i32_ix y many with ⟨j, hj, hj2, rfl⟩ | hi
    · have hj5 : j < 5 := by omega
      have hlt6 : 6 + 1 * j < 900 := by omega
      have hrid := c6j hj5
      have hok := hF.1.2.1 j hj
      rcases i32_ix n 31 with ⟨m, hm3, hm2, rfl⟩ | hn
      · have hm30 : ¬ 30 < m := by omega
        simp (disch := first | assumption | exact mnl_i | exact mnl_r | exact mnl_n | exact mnl_0 | omega) only [↓reduceIte, tolS, E98_0, E98_22, E98_27, E98_31, E98_40.1, E98_40.2.1, E98_40.2.2.1, E98_40.2.2.2.1, E98_40.2.2.2.2.1, B98, cShG, kSheet, S112_in hs, S1_in hc.1.1 h5 hj, hlt, hlt6, q_neg, q_gt, hm30]
        refine S22 hs _ _ _ _ (fun A1 z1 z2 => ?_)
        simp (disch := first | assumption | exact mnl_i | exact mnl_r | exact mnl_n | exact mnl_0 | omega) only [↓reduceIte, tolN, tolS, E98_40.2.2.2.2.2.1, E98_40.2.2.2.2.2.2.1, E98_40.2.2.2.2.2.2.2.1, E98_40.2.2.2.2.2.2.2.2.1, E98_40.2.2.2.2.2.2.2.2.2.1, cShG, kRider]
        refine S9 c20 hrid (by omega) _ _ (fun I0 q1 q2 => ?_)
        simp (disch := first | assumption | exact mnl_i | exact mnl_r | exact mnl_n | exact mnl_0 | omega) only [↓reduceIte, tolN, tolS, E98_40.2.2.2.2.2.2.2.2.2.2.1, E98_40.2.2.2.2.2.2.2.2.2.2.2]
        have f0 : ∀ b g, b ≠ 20 → b ≠ 47 + 2 * s → I0 b g = I b g := fun b g h1 h2 => by rw [q1 b g h1, up2_a h2, up2_a h2]
        have s1 : I0 (47 + 2 * s) 1 = 0 := by rw [q1 _ 1 (by omega), up2_f (by decide), up2_s]
        have s2 : I0 (47 + 2 * s) 2 = nI m := by rw [q1 _ 2 (by omega), up2_s]
        have r0 : ∀ f, f < 6 → I0 20 f = nI (R j f) := fun f hf => by rw [q2 f hf, up2_a (by omega), up2_a (by omega)]; exact hc.1.2.1 j hj f hf
        refine up_loop m (fun k (s' : TI × TI) => mFr (d + 89) 98 59 [some (.ref 0), some (.int (nI s)), some (.int (nI j)), some (.int (nI m)), some (.ref (47 + 2 * s)), some (.ref (6 + 1 * j)), some (.int (nI k))] [] (mkH cSh s'.1 V L s'.2) (fun v h => mRun (d + 90) 180 [.ref 0, .int (nI s), .int (nI j), .int (nI m)] (mkH dSh I' V' L' A') (fun v' h' => JQ v h v' h'))) (fun k s' => (∀ b g, b ≠ 20 → s'.1 b g = I0 b g) ∧ (∀ f, f < 6 → s'.1 20 f = nI (itN (W rl) th day (R j) k f)) ∧ (∀ b, b ≠ 23 + 4 * rl + 2 → b ≠ 48 + 2 * s → s'.2 b = A b) ∧ ∀ i, i < 40 → s'.2 (48 + 2 * s) i = fmN (W rl) th day (R j) k i) (fun k s' hkm hi ih => ?_) (fun s' hi => ?_) (I0, A1) ⟨fun _ _ _ => rfl, r0, fun b h1 h2 => z1 b h2, fun i hi => by show A1 (48 + 2 * s) i = _; rw [z2 i hi]; unfold fmN; rw [if_neg (by omega)]⟩
        · obtain ⟨I1, A2⟩ := s'
          obtain ⟨i1, i2, i3, i4⟩ := hi
          replace i1 : ∀ b g, b ≠ 20 → I1 b g = I0 b g := i1
          replace i2 : ∀ f, f < 6 → I1 20 f = nI (itN (W rl) th day (R j) k f) := i2
          replace i3 : ∀ b, b ≠ 23 + 4 * rl + 2 → b ≠ 48 + 2 * s → A2 b = A b := i3
          replace i4 : ∀ i, i < 40 → A2 (48 + 2 * s) i = fmN (W rl) th day (R j) k i := i4
          have hW := WR_fr (I' := I1) (A' := A2) hF hc (fun b g hb => by rw [i1 b g (by omega), f0 b g (by omega) (by omega)]) (fun b hb => i3 b (by omega) (by omega)) c20 i2 (itN_ok hok k)
          simp (disch := first | assumption | exact mnl_i | exact mnl_r | exact mnl_n | exact mnl_0 | omega) only [↓reduceIte, tolS, E98_59, E98_65.1, E98_65.2.1, E98_65.2.2.1, E98_65.2.2.2.1, E98_65.2.2.2.2.1, cShG, q_ll, hkm]
          refine S11 hW _ _ (fun I2 f2 p1 p2 => ?_)
          have p4 : I2 20 4 = nI (itN (W rl) th day (R j) (k + 1) 4) := p2 4 (by omega)
          have ps : I2 (47 + 2 * s) 1 = 0 := by rw [p1 _ 1 (by omega), i1 _ 1 (by omega)]; exact s1
          have hk40 : k < 40 := by omega
          have hair := (itN_ok (W := W rl) (th := th) (day := day) hok (k + 1)).2.2.2.2.1
          simp (disch := first | assumption | exact mnl_i | exact mnl_r | exact mnl_n | exact mnl_0 | omega) only [↓reduceIte, tolN, tolS, E98_65.2.2.2.2.2.1, E98_65.2.2.2.2.2.2.1, E98_65.2.2.2.2.2.2.2.1, E98_65.2.2.2.2.2.2.2.2.1, E98_65.2.2.2.2.2.2.2.2.2.1, E98_65.2.2.2.2.2.2.2.2.2.2.1, E98_65.2.2.2.2.2.2.2.2.2.2.2.1, E98_65.2.2.2.2.2.2.2.2.2.2.2.2.1, cShG, kSheet, p4, S25 hs ps hk40, cv_air _ (Nat.lt_succ_of_le hair)]
          simp (disch := first | assumption | exact mnl_i | exact mnl_r | exact mnl_n | exact mnl_0 | omega) only [↓reduceIte, tolN, tolS, E98_65.2.2.2.2.2.2.2.2.2.2.2.2.2.1, E98_65.2.2.2.2.2.2.2.2.2.2.2.2.2.2, q_add]
          refine ih (I2, _) ⟨fun b g hb => (p1 b g hb).trans (i1 b g hb), p2, fun b h1 h2 => ?_, fun i hi => ?_⟩
          · show upA (upA A2 (23 + 4 * rl + 2) f2) (48 + 2 * s) _ b = A b
            rw [upA_n h2, upA_n h1]; exact i3 b h1 h2
          · show upA (upA A2 (23 + 4 * rl + 2) f2) (48 + 2 * s) (upd (upA A2 (23 + 4 * rl + 2) f2 (48 + 2 * s)) k (nI (itN (W rl) th day (R j) (k + 1) 4))) (48 + 2 * s) i = fmN (W rl) th day (R j) (k + 1) i
            rw [upA_s, upA_n (by omega)]
            exact fm_up (i4 i hi)
        · obtain ⟨I1, A2⟩ := s'
          obtain ⟨i1, i2, i3, i4⟩ := hi
          replace i1 : ∀ b g, b ≠ 20 → I1 b g = I0 b g := i1
          replace i3 : ∀ b, b ≠ 23 + 4 * rl + 2 → b ≠ 48 + 2 * s → A2 b = A b := i3
          replace i4 : ∀ i, i < 40 → A2 (48 + 2 * s) i = fmN (W rl) th day (R j) m i := i4
          have hlt2 : ¬ m < m := by omega
          simp (disch := first | assumption | exact mnl_i | exact mnl_r | exact mnl_n | exact mnl_0 | omega) only [↓reduceIte, tolS, E98_59, E98_97, q_ll, hlt2]
          have hcC : CB I1 V A2 nt W many R th day rl (setE e s m 0 (fmN (W rl) th day (R j) m)) := CB_set2 hF hc hs (fun b g h1 h2 => by rw [i1 b g (by unfold scI at h2; omega), f0 b g (by unfold scI at h2; omega) h1]) (fun b h1 h2 => i3 b (by unfold scA at h2; omega) h1) (by rw [i1 _ 1 (by omega)]; exact s1) (by rw [i1 _ 2 (by omega)]; exact s2) i4
          have wj := fun d h P => M114_in (y := 30) (n := 30) (j := m) rfl (by omega) (by omega) d h P
          simp (disch := first | assumption | exact mnl_i | exact mnl_r | exact mnl_n | exact mnl_0 | omega) only [↓reduceIte, tolS, E180_0, E180_7, E180_15, E180_28.1, E180_28.2.1, E180_28.2.2.1, E180_28.2.2.2.1, E180_28.2.2.2.2.1, B180, dShG, M118_in hs, M116_in hm.1.1 h5 hj, n10, wj]
          refine M187_y hs (k := 0) (by omega) (by omega) _ _ (fun As g1 g2 g3 g4 g5 => ?_)
          simp (disch := first | assumption | exact mnl_i | exact mnl_r | exact mnl_n | exact mnl_0 | omega) only [↓reduceIte, tolN, tolS, E180_28.2.2.2.2.2.1, E180_28.2.2.2.2.2.2.1, E180_28.2.2.2.2.2.2.2.1, E180_28.2.2.2.2.2.2.2.2.1, dShG]
          refine M154 hj5 _ _ (fun I2 p1 p30 p31 p32 p33 p34 p35 p36 => ?_)
          simp (disch := first | assumption | exact mnl_i | exact mnl_r | exact mnl_n | exact mnl_0 | omega) only [↓reduceIte, tolN, tolS, E180_28.2.2.2.2.2.2.2.2.2.1, E180_28.2.2.2.2.2.2.2.2.2.2]
          have hWs : WM I2 As j rl (W rl) th day (R j) := WM_I (WM_A2 (WM_of hF.1 hm.1 hm.2.1 hj) (fun b hb => g1 b (by omega) (by omega) (by omega))) (p1 0 (by omega)) (p1 9 (by omega))
          refine up_loop m (fun k (s' : TI × TI) => mFr (d + 89) 180 44 [some (.ref 0), some (.int (nI s)), some (.int (nI j)), some (.int (nI m)), some (.int (nI k))] [] (mkH dSh s'.1 V' L' s'.2) (fun v' h' => JQ (some (.int (nI m))) (mkH cSh I1 V L A2) v' h')) (fun k s' => (∀ f, f ≠ 34 → f ≠ 35 → f ≠ 36 → s'.1 0 f = I2 0 f) ∧ mrw (upA As 22 (s'.2 22)) s'.2 j ∧ WM s'.1 s'.2 j rl (W rl) th day (itN (W rl) th day (R j) k) ∧ (∀ i, i < 40 → s'.2 22 (40 * s + i) = fmN (W rl) th day (R j) k i) ∧ ∀ x, ¬ (40 * s ≤ x ∧ x < 40 * s + 40) → s'.2 22 x = A' 22 x) (fun k s' hkm hi ih => ?_) (fun s' hi => ?_) (I2, As) ⟨fun _ _ _ _ => rfl, by show mrw (upA As 22 (As 22)) As j; rw [upA_self]; exact mrw_refl, hWs, fun i hi => by show As 22 (40 * s + i) = _; rw [g4 i hi]; unfold fmN; rw [if_neg (by omega)], g5⟩
          · obtain ⟨I3, A3⟩ := s'
            obtain ⟨u1, u2, u3, u4, u5⟩ := hi
            simp (disch := first | assumption | exact mnl_i | exact mnl_r | exact mnl_n | exact mnl_0 | omega) only [↓reduceIte, tolS, E180_44, E180_50.1, E180_50.2.1, E180_50.2.2.1, dShG, q_ll, hkm]
            refine M150 u3 _ _ (fun I4 A4 v1 v2 v3 => ?_)
            have r6 : A4 6 j = nI (itN (W rl) th day (R j) (k + 1) 4) := WM_row v3 4 (by omega)
            have hx : 40 * s + k < 160 := by omega
            have e22 : A4 22 = A3 22 := v2.1 22 (by omega) (by omega) (by omega) (by omega) (by omega) (by omega)
            simp (disch := first | assumption | exact mnl_i | exact mnl_r | exact mnl_n | exact mnl_0 | omega) only [↓reduceIte, tolN, tolS, E180_50.2.2.2.1, E180_50.2.2.2.2.1, E180_50.2.2.2.2.2.1, E180_50.2.2.2.2.2.2.1, E180_50.2.2.2.2.2.2.2.1, E180_50.2.2.2.2.2.2.2.2.1, E180_50.2.2.2.2.2.2.2.2.2.1, E180_50.2.2.2.2.2.2.2.2.2.2.1, E180_50.2.2.2.2.2.2.2.2.2.2.2.1, E180_50.2.2.2.2.2.2.2.2.2.2.2.2.1, E180_50.2.2.2.2.2.2.2.2.2.2.2.2.2.1, E180_50.2.2.2.2.2.2.2.2.2.2.2.2.2.2.1, E180_50.2.2.2.2.2.2.2.2.2.2.2.2.2.2.2.1, E180_50.2.2.2.2.2.2.2.2.2.2.2.2.2.2.2.2, dShG, dShR, pix_nI, r6, q_mul, q_aa, q_add]
            refine ih (I4, upA A4 22 (upd (A4 22) (40 * s + k) (nI (itN (W rl) th day (R j) (k + 1) 4)))) ⟨fun f f1 f2 f3 => (v1.1 f f1 f2 f3).trans (u1 f f1 f2 f3), ?_, WM_A2 v3 (fun b hb => upA_n (by omega)), fun i hi => ?_, fun x hx' => ?_⟩
            · show mrw (upA As 22 (upA A4 22 (upd (A4 22) (40 * s + k) (nI (itN (W rl) th day (R j) (k + 1) 4))) 22)) (upA A4 22 (upd (A4 22) (40 * s + k) (nI (itN (W rl) th day (R j) (k + 1) 4)))) j
              rw [upA_s]
              exact mrw_22 (mrw_trans u2 v2)
            · show upA A4 22 (upd (A4 22) (40 * s + k) (nI (itN (W rl) th day (R j) (k + 1) 4))) 22 (40 * s + i) = fmN (W rl) th day (R j) (k + 1) i
              rw [upA_s]
              have hu := u4 i hi
              replace hu : A3 22 (40 * s + i) = fmN (W rl) th day (R j) k i := hu
              rw [← e22] at hu
              have := fm_up (f := fun i => A4 22 (40 * s + i)) hu
              by_cases c : i = k
              · rw [c, upd_s]
                rw [c, upd_s] at this
                exact this
              · rw [upd_n (by omega)]
                rw [upd_n c] at this
                exact this
            · show upA A4 22 (upd (A4 22) (40 * s + k) (nI (itN (W rl) th day (R j) (k + 1) 4))) 22 x = A' 22 x
              rw [upA_s, upd_n (by omega), e22]
              exact u5 x hx'
          · obtain ⟨I3, A3⟩ := s'
            obtain ⟨u1, u2, u3, u4, u5⟩ := hi
            replace u1 : ∀ f, f ≠ 34 → f ≠ 35 → f ≠ 36 → I3 0 f = I2 0 f := u1
            replace u2 : mrw (upA As 22 (A3 22)) A3 j := u2
            simp (disch := first | assumption | exact mnl_i | exact mnl_r | exact mnl_n | exact mnl_0 | omega) only [↓reduceIte, tolS, E180_44, E180_79.1, E180_79.2.1, E180_79.2.2.1, dShG, q_ll, hlt2]
            refine M155 hj5 u2 (by rw [u1 30 (by omega) (by omega) (by omega), upA_n (by omega)]; exact p30) (by rw [u1 31 (by omega) (by omega) (by omega), upA_n (by omega)]; exact p31) (by rw [u1 32 (by omega) (by omega) (by omega), upA_n (by omega)]; exact p32) (by rw [u1 33 (by omega) (by omega) (by omega), upA_n (by omega)]; exact p33) _ _ (fun A4 z => ?_)
            simp (disch := first | assumption | exact mnl_i | exact mnl_r | exact mnl_n | exact mnl_0 | omega) only [↓reduceIte, tolN, tolS, E180_79.2.2.2.1, E180_79.2.2.2.2]
            have z22 : A4 22 = A3 22 := by rw [z 22 (by omega) (by omega), upA_s]
            have zo : ∀ b, b ≠ 13 → b ≠ 14 → b ≠ 22 → A4 b = As b := fun b h1 h2 h3 => by rw [z b h1 h2, upA_n h3]
            refine JR_B (e := setE e s m 0 (fmN (W rl) th day (R j) m)) (FB_set hF (Or.inr (Or.inl rfl)) (by omega)) hcC (MB_set hm (fun f hf => by rw [u1 f (by omega) (by omega) (by omega), p1 f hf]) (fun b h1 h2 h3 h4 h6 => by rw [zo b h1 h2 h6, g1 b h3 h4 h6]) (fun q hq => by rw [zo 20 (by omega) (by omega) (by omega), g2, upd_n hq]) (fun q hq => by rw [zo 21 (by omega) (by omega) (by omega), g3, upd_n hq]) (fun q hq => by rw [z22]; exact u5 q hq) (by rw [zo 20 (by omega) (by omega) (by omega), g2, upd_s]; rfl) (by rw [zo 21 (by omega) (by omega) (by omega), g3, upd_s]) (fun i hi => by rw [z22]; exact u4 i hi))
      · have wj := fun d h P => M114_out (y := 30) (n := 30) (x := n) rfl hn d h P
        have hb : mRun (d + 90) 180 [.ref 0, .int (nI s), .int (nI j), .int n] (mkH dSh I' V' L' A') (fun v' h' => JQ (some (.int (-2))) (mkH cSh I V L A) v' h') := by
          simp (disch := first | assumption | exact mnl_i | exact mnl_r | exact mnl_n | exact mnl_0 | omega) only [↓reduceIte, tolS, E180_0, E180_7, E180_15, E180_25, B180, dShG, M118_in hs, M116_in hm.1.1 h5 hj, n10, wj]
          exact JR_B hF hc hm
        rcases hn with hn | ⟨m, hm1, hm2, rfl⟩
        · simp (disch := first | assumption | exact mnl_i | exact mnl_r | exact mnl_n | exact mnl_0 | omega) only [↓reduceIte, tolS, E98_0, E98_22, E98_27, E98_37, B98, cShG, kSheet, S112_in hs, S1_in hc.1.1 h5 hj, hlt, hlt6, hn]
          exact hb
        · have hm6 : 30 < m := by omega
          simp (disch := first | assumption | exact mnl_i | exact mnl_r | exact mnl_n | exact mnl_0 | omega) only [↓reduceIte, tolS, E98_0, E98_22, E98_27, E98_31, E98_37, B98, cShG, kSheet, S112_in hs, S1_in hc.1.1 h5 hj, hlt, hlt6, q_neg, q_gt, hm6]
          exact hb
    · simp (disch := first | assumption | exact mnl_i | exact mnl_r | exact mnl_n | exact mnl_0 | omega) only [↓reduceIte, tolS, E98_0, E98_22, E98_37, B98, cShG, kSheet, S112_in hs, S1_out hc.1.1 h5 hi, hlt]
      simp (disch := first | assumption | exact mnl_i | exact mnl_r | exact mnl_n | exact mnl_0 | omega) only [↓reduceIte, tolS, E180_0, E180_7, E180_25, B180, dShG, M118_in hs, M116_out hm.1.1 h5 hi, n10]
      exact JR_B hF hc hm
  · have hb : mRun (d + 90) 180 [.ref 0, .int x, .int y, .int n] (mkH dSh I' V' L' A') (fun v' h' => JQ (some (.int (-2))) (mkH cSh I V L A) v' h') := by
      simp (disch := first | assumption | exact mnl_i | exact mnl_r | exact mnl_n | exact mnl_0 | omega) only [↓reduceIte, tolS, E180_0, E180_25, B180, dShG, M118_out ho]
      exact JR_B hF hc hm
    rcases i32_ix y many with ⟨j, hj, hj2, rfl⟩ | hi
    · have hlt6 : 6 + 1 * j < 900 := by omega
      simp (disch := first | assumption | exact mnl_i | exact mnl_r | exact mnl_n | exact mnl_0 | omega) only [↓reduceIte, tolS, E98_0, E98_37, B98, cShG, kSheet, S112_out ho, S1_in hc.1.1 h5 hj, hlt6]
      exact hb
    · simp (disch := first | assumption | exact mnl_i | exact mnl_r | exact mnl_n | exact mnl_0 | omega) only [↓reduceIte, tolS, E98_0, E98_37, B98, cShG, kSheet, S112_out ho, S1_out hc.1.1 h5 hi]
      exact hb
end K2
