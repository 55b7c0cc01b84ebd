/-! text() on both sides -/
section JT
variable {I I' A A' : TI} {V V' : TV} {nt many day rl : Nat} {R : Nat → Nat → Nat} {th : Nat → Nat} {W : Nat → Nat → List Int32}
theorem CG_fr (h : CG I V A many R th day rl) (hm : many ≤ 5) (fI : ∀ b g, b = 4 ∨ (6 ≤ b ∧ b ≤ 10) ∨ b = 59 → I' b g = I b g) (fV : V' 59 2 = V 59 2) (fA : A' 60 = A 60) : CG I' V' A' many R th day rl := by
  obtain ⟨h1, h2, h3, h4, h5⟩ := h
  exact ⟨by rw [fI 4 1 (by omega)]; exact h1, fun j hj f hf => by rw [fI _ f (by omega)]; exact h2 j hj f hf, by rw [fI 59 1 (by omega)]; exact h3, by rw [fA]; exact h4, by rw [fV]; exact h5⟩
theorem CK_fr {kp im : Nat} (h : CK I V A kp im R th day rl) (hm : kp = 1 → im ≤ 5) (f0 : I' 0 8 = I 0 8) (fI : ∀ b g, b = 11 ∨ (13 ≤ b ∧ b ≤ 17) ∨ b = 61 → I' b g = I b g) (fV : V' 61 2 = V 61 2) (fA : A' 62 = A 62) : CK I' V' A' kp im R th day rl := by
  obtain ⟨h1, h2⟩ := h
  refine ⟨by rw [f0]; exact h1, fun z => ?_⟩
  obtain ⟨g1, g2, g3, g4, g5⟩ := h2 z
  have := hm z
  exact ⟨by rw [fI 11 1 (by omega)]; exact g1, fun j hj f hf => by rw [fI _ f (by omega)]; exact g2 j hj f hf, by rw [fI 61 1 (by omega)]; exact g3, by rw [fA]; exact g4, by rw [fV]; exact g5⟩
theorem CH_fr {so : Nat → Int32} {sz : Nat → Nat} {ce : Nat → Nat → Int32} (h : CHs I A so sz ce) (fI : ∀ b g, 47 ≤ b ∧ b ≤ 53 → I' b g = I b g) (fA : ∀ b, 48 ≤ b ∧ b ≤ 54 → A' b = A b) : CHs I' A' so sz ce := by
  intro s hs
  rw [fI _ 1 (by omega), fI _ 2 (by omega), fA _ (by omega)]
  exact h s hs
theorem FK_im {kp im : Nat} {iR : Nat → Nat → Nat} {ith : Nat → Nat} {iday irl : Nat} (h : FK nt many R kp im iR ith iday irl) : kp = 1 → im ≤ 5 := fun z => (h.2 z).2.2.1
theorem FG_nt (h : FG nt many R th day rl) (hn : nt < 6) : FG (nt + 1) many R th day rl := ⟨h.1, h.2.1, h.2.2.1, h.2.2.2.1, by have := h.2.2.2.2.1; omega, by omega⟩
theorem TX_e {T : Nat → Nat} {c1 c2 c3 : List Nat} (h : TXok T c1 c2 c3) : ∃ e1 e2 e3, c1 = e1 ∧ c2 = e1 ++ e2 ∧ c3 = e1 ++ (e2 ++ e3) ∧ wfx e1 ∧ wfx e2 ∧ wfx e3 := by
  obtain ⟨i1, i2, i3, ⟨_, _, _, e1, _, _, _, _, _, h1, w1, _⟩, ⟨_, _, _, e2, _, _, _, _, _, h2, w2, _⟩, ⟨_, _, _, e3, _, _, _, _, _, h3, w3, _⟩, _⟩ := h
  rw [List.nil_append] at h1
  subst h1
  exact ⟨c1, e2, e3, rfl, h2, by rw [h3, h2, List.append_assoc], w1, w2, w3⟩
def newW (e1 e2 e3 : List Nat) (p : Nat) : List Int32 := match p with
  | 0 => e1.map nT
  | 1 => e2.map nT
  | _ => e3.map nT
theorem getD_map {l : List Nat} {j : Nat} (h : j < l.length) : (l.map nT).getD j 0 = nI (l.getD j 0) := by
  rw [List.getD_eq_getElem?_getD, List.getD_eq_getElem?_getD, List.getElem?_map, List.getElem?_eq_getElem h]
  rfl
theorem getDn2 {a b c : List Nat} {j : Nat} (h : j < b.length) : (a ++ (b ++ c)).getD (a.length + j) 0 = b.getD j 0 := by
  rw [List.getD_eq_getElem?_getD, List.getD_eq_getElem?_getD, List.getElem?_append_right (by omega), Nat.add_sub_cancel_left, List.getElem?_append_left h]
theorem getDn1 {a b : List Nat} {j : Nat} (h : j < a.length) : (a ++ b).getD j 0 = a.getD j 0 := by
  rw [List.getD_eq_getElem?_getD, List.getD_eq_getElem?_getD, List.getElem?_append_left h]
theorem getDn3 {a b c : List Nat} {j : Nat} : (a ++ (b ++ c)).getD (a.length + b.length + j) 0 = c.getD j 0 := by
  rw [List.getD_eq_getElem?_getD, List.getD_eq_getElem?_getD, List.getElem?_append_right (by omega), List.getElem?_append_right (by omega)]
  congr 2
  omega
theorem txt_new {k : Nat} {e1 e2 e3 : List Nat} (h : (e1 ++ (e2 ++ e3)).length ≤ 160) (h1 : ∀ j, j < (e1 ++ (e2 ++ e3)).length → A (24 + 4 * k) j = nI ((e1 ++ (e2 ++ e3)).getD j 0)) (h2 : A (26 + 4 * k) 0 = nI e1.length) (h3 : A (26 + 4 * k) 1 = nI (e1 ++ e2).length) (h4 : A (26 + 4 * k) 2 = nI (e1 ++ (e2 ++ e3)).length) : txt A (23 + 4 * k) (newW e1 e2 e3) := by
  have l1 : (newW e1 e2 e3 0).length = e1.length := List.length_map ..
  have l2 : (newW e1 e2 e3 1).length = e2.length := List.length_map ..
  have l3 : (newW e1 e2 e3 2).length = e3.length := List.length_map ..
  unfold txt
  rw [l1, l2, l3, show 23 + 4 * k + 3 = 26 + 4 * k by omega, show 23 + 4 * k + 1 = 24 + 4 * k by omega]
  have hl : (e1 ++ (e2 ++ e3)).length = e1.length + e2.length + e3.length := by simp only [List.length_append]; omega
  have hl2 : (e1 ++ e2).length = e1.length + e2.length := List.length_append
  rw [hl] at h h1 h4
  rw [hl2] at h3
  refine ⟨h, h2, h3, h4, fun j hj => ?_⟩
  rw [h1 j hj]
  show _ = (e1.map nT ++ (e2.map nT ++ e3.map nT)).getD j 0
  rw [← List.map_append, ← List.map_append, getD_map (by rw [hl]; exact hj)]
theorem txt_fr {t : Nat} {w : Nat → List Int32} (h : txt A t w) (h1 : A' (t + 1) = A (t + 1)) (h3 : A' (t + 3) = A (t + 3)) : txt A' t w := by
  unfold txt at h ⊢
  rw [h1, h3]
  exact h
theorem J68 {hC hM : MH} (h : REL hC hM) (d : Nat) : JR (d + 90) 68 142 [] hC hM := by
  obtain ⟨I, V, L, A, I', V', L', A', nt, W, many, R, th, day, rl, e, ec, em, g, f, c1, c2, c3, m1, m2, m3⟩ := h
  rw [ec, em]
  unfold JR
  have hnt := g.2.2.2.2.2
  have hrl := g.2.2.2.2.1
  have hct := c2.1
  have hmt := m2.1
  by_cases c6 : nt < 6
  · have hT : TP I A e.1.1 e.1.2 := ⟨c3.1.1, f.1.1, fun i hi => ⟨c3.1.2 i hi, f.1.2 i hi⟩⟩
    have hTm : MTP I' A' e.1.1 e.1.2 := ⟨m3.1.1, f.1.1, fun i hi => ⟨m3.1.2 i hi, f.1.2 i hi⟩⟩
    obtain ⟨cd, hcd, hcd2, hmtc⟩ := m2.2
    simp (disch := first | assumption | exact mnl_i | exact mnl_r | exact mnl_n | exact mnl_0 | omega) only [↓reduceIte, tolS, E68_0, E68_15.1, E68_15.2.1, E68_15.2.2.1, E68_15.2.2.2.1, E68_15.2.2.2.2.1, E68_15.2.2.2.2.2.1, E68_15.2.2.2.2.2.2.1, E68_15.2.2.2.2.2.2.2.1, B68, cShG, cShR, hct, nI_d, q_ll, c6, pix_nI]
    refine S38 c6 hT _ _ (fun I1 A1 d1 d2 d3 s1 hx hl3 x1 x2 x3 x4 => ?_) (fun I1 A1 fl s1 hx => ?_)
    · have e0 : up2 I1 2 1 0 0 3 = nI nt := by rw [up2_a (by decide), s1.1 0 3 (by omega) (by omega) (by omega)]; exact hct
      have e1 : up2 (up2 I1 2 1 0) 0 3 (nI (nt + 1)) 0 3 - 1 = nI nt := by rw [up2_s]; exact q_sub.1 (nt + 1) (by omega)
      simp (disch := first | assumption | exact mnl_i | exact mnl_r | exact mnl_n | exact mnl_0 | omega) only [↓reduceIte, tolS, E68_15.2.2.2.2.2.2.2.2.1, E68_15.2.2.2.2.2.2.2.2.2.1, E68_15.2.2.2.2.2.2.2.2.2.2.1, E68_15.2.2.2.2.2.2.2.2.2.2.2.1, E68_15.2.2.2.2.2.2.2.2.2.2.2.2.1, E68_15.2.2.2.2.2.2.2.2.2.2.2.2.2.1, E68_15.2.2.2.2.2.2.2.2.2.2.2.2.2.2.1, E68_15.2.2.2.2.2.2.2.2.2.2.2.2.2.2.2, E68_50, cShG, cShP, e0, q_add, e1]
      refine M142 hmt c6 hcd hcd2 hTm (Or.inl ⟨d1, d2, d3, hx⟩) _ _ (fun I2 A2 L2 y1 y2 y3 hy s2 z10 z12 z16 zc r0 q0 r1 q1 r2 q2 => ?_) (fun I2 A2 L2 fl hy => (TXok_no hx hy).elim)
      obtain ⟨w1, w2, w3⟩ := TXok_det hx hy
      subst w1; subst w2; subst w3
      obtain ⟨e1, e2, e3, rfl, rfl, rfl, wf1, wf2, wf3⟩ := TX_e hx
      have hl : (d1 ++ (e2 ++ e3)).length = d1.length + e2.length + e3.length := by simp only [List.length_append]; omega
      have hl2 : (d1 ++ e2).length = d1.length + e2.length := List.length_append
      have fI : ∀ b g, b ≠ 55 → b ≠ 56 → b ≠ 2 → b ≠ 0 → b ≠ 23 + 4 * nt → up2 (up2 I1 2 1 0) 0 3 (nI (nt + 1)) b g = I b g := fun b g h1 h2 h3 h4 h5 => by rw [up2_a h4, up2_a h3, s1.1 b g h1 h2 (Or.inl h5)]
      have fI0 : ∀ g, g ≠ 3 → up2 (up2 I1 2 1 0) 0 3 (nI (nt + 1)) 0 g = I 0 g := fun g h1 => by rw [up2_f h1, up2_a (by decide), s1.1 0 g (by omega) (by omega) (by omega)]
      have fI3 : ∀ i, i < 6 → up2 (up2 I1 2 1 0) 0 3 (nI (nt + 1)) (23 + 4 * i) 0 = I (23 + 4 * i) 0 := fun i hi => by rw [up2_a (by omega), up2_a (by omega), s1.1 _ 0 (by omega) (by omega) (by omega)]
      have fA : ∀ b, b ≠ 57 → b ≠ 58 → b ≠ 24 + 4 * nt → b ≠ 26 + 4 * nt → A1 b = A b := s1.2
      refine JR_end (W := fun i => if i = nt then newW d1 e2 e3 else W i) (nt := nt + 1) (e := ((0, e.1.2), e.2)) (FG_nt g c6) ?_ (CG_fr c1 g.1 (fun b g' hb => fI b g' (by omega) (by omega) (by omega) (by omega) (by omega)) (by rw [up2_a (by decide)]) (fA 60 (by omega) (by omega) (by omega) (by omega))) ?_ ?_ ?_ ?_ ?_
      · refine ⟨⟨Nat.zero_le _, fun i hi => absurd hi (Nat.not_lt_zero _)⟩, ⟨f.2.1.1, fun z => ?_⟩, f.2.2⟩
        obtain ⟨k1, k2, k3⟩ := f.2.1.2 z
        exact ⟨k1, k2, FG_nt k3 c6⟩
      · refine ⟨up2_s, fun i hi => ?_, fun i hi => by rw [fI3 i hi]; exact c2.2.2 i hi⟩
        by_cases ci : i = nt
        · subst ci
          dsimp only
          rw [if_pos rfl]
          exact txt_new hl3 x1 x2 x3 x4
        · dsimp only
          rw [if_neg ci]
          exact txt_fr (c2.2.1 i (by omega)) (fA _ (by omega) (by omega) (by omega) (by omega)) (fA _ (by omega) (by omega) (by omega) (by omega))
      · exact ⟨⟨by rw [up2_a (by decide), up2_s]; rfl, fun i hi => absurd hi (Nat.not_lt_zero _)⟩, CK_fr c3.2.1 (FK_im f.2.1) (fI0 8 (by omega)) (fun b g' hb => fI b g' (by omega) (by omega) (by omega) (by omega) (by omega)) (by rw [up2_a (by decide)]) (fA 62 (by omega) (by omega) (by omega) (by omega)), CH_fr c3.2.2 (fun b g' hb => fI b g' (by omega) (by omega) (by omega) (by omega) (by omega)) (fun b hb => fA b (by omega) (by omega) (by omega) (by omega))⟩
      · obtain ⟨k1, k2, k3, k4, k5⟩ := m1
        exact ⟨by rw [s2.1 2 (by omega) (by omega) (by omega)]; exact k1, fun j hj f' hf => by rw [s2.2.1 _ (by omega) (by omega) (by omega) (by omega)]; exact k2 j hj f' hf, by rw [s2.1 0 (by omega) (by omega) (by omega)]; exact k3, fun p hp => by rw [s2.2.1 1 (by omega) (by omega) (by omega) (by omega)]; exact k4 p hp, by rw [s2.1 9 (by omega) (by omega) (by omega)]; exact k5⟩
      · rw [hl] at z16 zc hl3
        rw [hl, hl2] at q2
        rw [hl2] at q1 r2
        refine ⟨z12, cd + (d1.length + e2.length + e3.length), z16, by omega, fun i hi => ?_⟩
        by_cases ci : i = nt
        · subst ci
          dsimp only
          rw [if_pos rfl]
          intro p hp
          match p, hp with
          | 0, _ =>
            have l1 : (newW d1 e2 e3 0).length = d1.length := List.length_map ..
            rw [l1]
            exact ⟨cd, r0, q0, by omega, fun j hj => by rw [zc j (by omega), getDn1 hj]; show _ = trT ((d1.map nT).getD j 0); rw [getD_map hj], wfx_wf wf1, by omega⟩
          | 1, _ =>
            have l1 : (newW d1 e2 e3 1).length = e2.length := List.length_map ..
            rw [l1]
            exact ⟨cd + d1.length, r1, by rw [q1]; congr 1; omega, by omega, fun j hj => by rw [Nat.add_assoc, zc _ (by omega), getDn2 hj]; show _ = trT ((e2.map nT).getD j 0); rw [getD_map hj], wfx_wf wf2, by omega⟩
          | 2, _ =>
            have l1 : (newW d1 e2 e3 2).length = e3.length := List.length_map ..
            rw [l1]
            exact ⟨cd + (d1.length + e2.length), r2, by rw [q2]; congr 1; omega, by omega, fun j hj => by rw [Nat.add_assoc, zc _ (by omega), getDn3]; show _ = trT ((e3.map nT).getD j 0); rw [getD_map hj], wfx_wf wf3, by omega⟩
        · dsimp only
          rw [if_neg ci]
          intro p hp
          obtain ⟨bg, b1, b2, b3, b4, b5, b6⟩ := hmtc i (by omega) p hp
          have hq := s2.2.2.2 (3 * i + p) (by omega)
          exact ⟨bg, by rw [hq.1]; exact b1, by rw [hq.2]; exact b2, by omega, fun j hj => by rw [s2.2.2.1 _ (by omega)]; exact b4 j hj, b5, b6⟩
      · refine ⟨⟨z10, fun i hi => absurd hi (Nat.not_lt_zero _)⟩, ⟨by rw [s2.1 40 (by omega) (by omega) (by omega)]; exact m3.2.1.1, fun z => ?_⟩, fun s hs => ?_⟩
        · rw [s2.1 41 (by omega) (by omega) (by omega), s2.1 42 (by omega) (by omega) (by omega), s2.1 43 (by omega) (by omega) (by omega), s2.2.1 18 (by omega) (by omega) (by omega) (by omega), s2.2.1 19 (by omega) (by omega) (by omega) (by omega)]
          exact m3.2.1.2 z
        · rw [s2.2.1 20 (by omega) (by omega) (by omega) (by omega), s2.2.1 21 (by omega) (by omega) (by omega) (by omega), s2.2.1 22 (by omega) (by omega) (by omega) (by omega)]
          exact m3.2.2 s hs
    · have hB := lexB_le (n := e.1.1) (b := e.1.2) fl
      have hne : ¬ nI (lexB e.1.1 e.1.2 fl) = -1 := nI_m1 (by have := f.1.1; omega)
      simp (disch := first | assumption | exact mnl_i | exact mnl_r | exact mnl_n | exact mnl_0 | omega) only [↓reduceIte, tolS, E68_15.2.2.2.2.2.2.2.2.1, E68_15.2.2.2.2.2.2.2.2.2.1, E68_15.2.2.2.2.2.2.2.2.2.2.1, E68_15.2.2.2.2.2.2.2.2.2.2.2.1, E68_15.2.2.2.2.2.2.2.2.2.2.2.2.1, E68_15.2.2.2.2.2.2.2.2.2.2.2.2.2.1, E68_15.2.2.2.2.2.2.2.2.2.2.2.2.2.2.1, E68_15.2.2.2.2.2.2.2.2.2.2.2.2.2.2.2, E68_45, cShG, cShP, hne]
      refine M142 hmt c6 hcd hcd2 hTm (Or.inr ⟨fl, hx⟩) _ _ (fun I2 A2 L2 y1 y2 y3 hy => (TXok_no hy hx).elim) (fun I2 A2 L2 fl' hy s2 z10 z12 z16 => ?_)
      rw [TXno_det hy hx]
      have fI : ∀ b g, b ≠ 55 → b ≠ 56 → b ≠ 2 → b ≠ 23 + 4 * nt → up2 I1 2 1 0 b g = I b g := fun b g h1 h2 h3 h5 => by rw [up2_a h3, s1.1 b g h1 h2 (Or.inl h5)]
      have fI3 : ∀ i, i < 6 → up2 I1 2 1 0 (23 + 4 * i) 0 = I (23 + 4 * i) 0 := fun i hi => by rw [up2_a (by omega), s1.1 _ 0 (by omega) (by omega) (by omega)]
      have fA : ∀ b, b ≠ 57 → b ≠ 58 → b ≠ 24 + 4 * nt → b ≠ 26 + 4 * nt → A1 b = A b := s1.2
      refine JR_end (W := W) (nt := nt) (e := ((0, e.1.2), e.2)) g ?_ (CG_fr c1 g.1 (fun b g' hb => fI b g' (by omega) (by omega) (by omega) (by omega)) (by rw [up2_a (by decide)]) (fA 60 (by omega) (by omega) (by omega) (by omega))) ?_ ?_ ?_ ?_ ?_
      · exact ⟨⟨Nat.zero_le _, fun i hi => absurd hi (Nat.not_lt_zero _)⟩, f.2⟩
      · exact ⟨by rw [fI 0 3 (by omega) (by omega) (by omega) (by omega)]; exact hct, fun i hi => txt_fr (c2.2.1 i hi) (fA _ (by omega) (by omega) (by omega) (by omega)) (fA _ (by omega) (by omega) (by omega) (by omega)), fun i hi => by rw [fI3 i hi]; exact c2.2.2 i hi⟩
      · exact ⟨⟨up2_s, fun i hi => absurd hi (Nat.not_lt_zero _)⟩, CK_fr c3.2.1 (FK_im f.2.1) (fI 0 8 (by omega) (by omega) (by omega) (by omega)) (fun b g' hb => fI b g' (by omega) (by omega) (by omega) (by omega)) (by rw [up2_a (by decide)]) (fA 62 (by omega) (by omega) (by omega) (by omega)), CH_fr c3.2.2 (fun b g' hb => fI b g' (by omega) (by omega) (by omega) (by omega)) (fun b hb => fA b (by omega) (by omega) (by omega) (by omega))⟩
      · obtain ⟨k1, k2, k3, k4, k5⟩ := m1
        exact ⟨by rw [s2.1 2 (by omega) (by omega) (by omega)]; exact k1, fun j hj f' hf => by rw [s2.2.1 _ (by omega) (by omega) (by omega) (by omega)]; exact k2 j hj f' hf, by rw [s2.1 0 (by omega) (by omega) (by omega)]; exact k3, fun p hp => by rw [s2.2.1 1 (by omega) (by omega) (by omega) (by omega)]; exact k4 p hp, by rw [s2.1 9 (by omega) (by omega) (by omega)]; exact k5⟩
      · refine ⟨z12, cd, z16, hcd2, fun i hi p hp => ?_⟩
        obtain ⟨bg, b1, b2, b3, b4, b5, b6⟩ := hmtc i hi p hp
        have hq := s2.2.2.2 (3 * i + p) (by omega)
        exact ⟨bg, by rw [hq.1]; exact b1, by rw [hq.2]; exact b2, b3, fun j hj => by rw [s2.2.2.1 _ (by omega)]; exact b4 j hj, b5, b6⟩
      · refine ⟨⟨z10, fun i hi => absurd hi (Nat.not_lt_zero _)⟩, ⟨by rw [s2.1 40 (by omega) (by omega) (by omega)]; exact m3.2.1.1, fun z => ?_⟩, fun s hs => ?_⟩
        · rw [s2.1 41 (by omega) (by omega) (by omega), s2.1 42 (by omega) (by omega) (by omega), s2.1 43 (by omega) (by omega) (by omega), s2.2.1 18 (by omega) (by omega) (by omega) (by omega), s2.2.1 19 (by omega) (by omega) (by omega) (by omega)]
          exact m3.2.1.2 z
        · rw [s2.2.1 20 (by omega) (by omega) (by omega) (by omega), s2.2.1 21 (by omega) (by omega) (by omega) (by omega), s2.2.1 22 (by omega) (by omega) (by omega) (by omega)]
          exact m3.2.2 s hs
  · have e6 : nt = 6 := by omega
    subst e6
    simp (disch := first | assumption | exact mnl_i | exact mnl_r | exact mnl_n | exact mnl_0 | omega) only [↓reduceIte, tolS, E68_0, E68_12, B68, cShG, cShR, hct, show ¬ nI 6 < Int32.ofNat 6 by decide]
    simp (disch := first | assumption | exact mnl_i | exact mnl_r | exact mnl_n | exact mnl_0 | omega) only [↓reduceIte, tolS, E142_0, E142_9, B142, dShG, hmt, show nI 6 = 6 from rfl]
    exact JR_end g f c1 c2 c3 m1 m2 m3
end JT
