/-! riders(): the reference; both -/
section K5
variable {I I' A A' : TI} {V V' : TV} {L L' : Nat → Int64} {nt many day rl : Nat} {R : Nat → Nat → Nat} {th : Nat → Nat} {W : Nat → Nat → List Int32} {e : TE}
theorem i64_3 {a k : Nat} (ha : a < 2 ^ 31) (hk : k < 2 ^ 31) : (nI a).toInt64 + 3 * (nI k).toInt64 = Int64.ofNat (a + 3 * k) := by
  have h3 : (3 : Int64) = Int64.ofNat 3 := rfl
  rw [i64n ha, i64n hk, h3, ← Int64.ofNat_mul, ← Int64.ofNat_add]
theorem i64_2 (x : Nat) : Int64.ofNat x + 2 = Int64.ofNat (x + 2) := by
  have h2 : (2 : Int64) = Int64.ofNat 2 := rfl
  rw [h2, ← Int64.ofNat_add]
theorem l2i40 : ∀ x, x < 40 → (Int64.ofNat x).toInt32 = nI x := by decide +kernel
theorem M190_loop {j z a0 n : Nat} {ce : Nat → Int32} (hj : j < 4) (hz2 : z ≤ 40) (hn5 : n ≤ 5) (ha0 : a0 < 2 ^ 31) (l2 : Option Value) (d : Nat) (P : MP) : ∀ (m k a c : Nat) (s : Nat × (Nat → Nat → Nat)) (I A : TI) (l7 l9 : Option Value), k + m = n → a = a0 + 3 * k → c ≤ k → (k = 0 ∨ a ≤ 40) → FB nt s.1 s.2 th day rl e → MB I A nt W s.1 s.2 th day rl e → A 21 j = nI z → (∀ i, i < 40 → A 22 (40 * j + i) = ce i) →
    (∀ I' A', MB I' A' nt W (rdr ce z m a s c).2.1 (rdr ce z m a s c).2.2 th day rl e → P (some (.int (rdr ce z m a s c).1)) (mkH dSh I' V L A')) →
    mFr (d + 4) 190 60 [some (.ref 0), some (.int (nI j)), l2, some (.int (nI a0)), some (.int (nI n)), some (.int (nI c)), some (.int (nI k)), l7, none, l9] [] (mkH dSh I V L A) P := by
  intro m
  induction m with
  | zero =>
    intro k a c s I A l7 l9 hk ha hck hka hF hc hz hce hP
    have hlt : ¬ k < n := by omega
    simp (disch := first | assumption | exact mnl_i | exact mnl_r | exact mnl_n | exact mnl_0 | omega) only [↓reduceIte, tolS, E190_60, E190_157, q_ll, hlt]
    exact hP I A hc
  | succ m ih =>
    intro k a c s I A l7 l9 hk ha hck hka hF hc hz hce hP
    have hlt : k < n := by omega
    have e3 := i64_3 (a := a0) (k := k) ha0 (by omega)
    have ez := i64n (a := z) (by omega)
    have c0 : ¬ lg_cmp (Int64.ofNat (a0 + 3 * k)) 0 < 0 := by
      have := lcmp_l (u := a0 + 3 * k) (v := 0) (by omega) (by omega)
      rw [show (Int64.ofNat 0) = (0 : Int64) from rfl] at this
      rw [this]; omega
    have c2 := lcmp_l (u := a0 + 3 * k + 2) (v := z) (by omega) (by omega)
    by_cases c3 : a + 3 ≤ z
    · have hin : a0 + 3 * k + 2 < z := by omega
      have p0 : a0 + 3 * k < 40 := by omega
      have p1 : a0 + 3 * k + 1 < 40 := by omega
      have p2 : a0 + 3 * k + 2 < 40 := by omega
      simp only [rdr, if_pos c3] at hP
      rw [ha] at hP
      have g0 := hce _ p0
      have g1 := hce _ p1
      have g2 := hce _ p2
      have x0 : 40 * j + (a0 + 3 * k) < 160 := by omega
      have x1 : 40 * j + (a0 + 3 * k) + 1 < 160 := by omega
      have x2 : 40 * j + (a0 + 3 * k) + 2 < 160 := by omega
      rw [← Nat.add_assoc] at g1 g2
      simp (disch := first | assumption | exact mnl_i | exact mnl_r | exact mnl_n | exact mnl_0 | omega) only [↓reduceIte, tolS, E190_60, E190_67, E190_86, E190_106.1, E190_106.2.1, E190_106.2.2.1, E190_106.2.2.2.1, E190_106.2.2.2.2.1, E190_106.2.2.2.2.2.1, E190_106.2.2.2.2.2.2.1, E190_106.2.2.2.2.2.2.2.1, E190_106.2.2.2.2.2.2.2.2.1, E190_106.2.2.2.2.2.2.2.2.2.1, E190_106.2.2.2.2.2.2.2.2.2.2.1, E190_106.2.2.2.2.2.2.2.2.2.2.2.1, E190_106.2.2.2.2.2.2.2.2.2.2.2.2.1, E190_106.2.2.2.2.2.2.2.2.2.2.2.2.2.1, E190_106.2.2.2.2.2.2.2.2.2.2.2.2.2.2.1, E190_106.2.2.2.2.2.2.2.2.2.2.2.2.2.2.2.1, E190_106.2.2.2.2.2.2.2.2.2.2.2.2.2.2.2.2.1, E190_106.2.2.2.2.2.2.2.2.2.2.2.2.2.2.2.2.2.1, E190_106.2.2.2.2.2.2.2.2.2.2.2.2.2.2.2.2.2.2.1, E190_106.2.2.2.2.2.2.2.2.2.2.2.2.2.2.2.2.2.2.2.1, E190_106.2.2.2.2.2.2.2.2.2.2.2.2.2.2.2.2.2.2.2.2.1, E190_106.2.2.2.2.2.2.2.2.2.2.2.2.2.2.2.2.2.2.2.2.2.1, E190_106.2.2.2.2.2.2.2.2.2.2.2.2.2.2.2.2.2.2.2.2.2.2.1, E190_106.2.2.2.2.2.2.2.2.2.2.2.2.2.2.2.2.2.2.2.2.2.2.2.1, E190_106.2.2.2.2.2.2.2.2.2.2.2.2.2.2.2.2.2.2.2.2.2.2.2.2.1, dShG, dShR, q_ll, hlt, e3, c0, i64_2, ez, pix_nI, hz, c2, hin, l2i40 _ p0, q_mul, q_aa, q_add, g0, g1, g2]
      refine M123 hF hc _ _ _ _ _ (fun I1 A1 q1 => ?_)
      have hz' : A1 21 j = nI z := by
        have y1 := (q1.2.2.2.2 j hj).2.1
        have y2 := (hc.2.2.2.2 j hj).2.1
        rw [y1, ← y2]; exact hz
      have hce' : ∀ i, i < 40 → A1 22 (40 * j + i) = ce i := fun i hi => by
        have y1 := (q1.2.2.2.2 j hj).2.2 i hi
        have y2 := (hc.2.2.2.2 j hj).2.2 i hi
        rw [y1, ← y2]; exact hce i hi
      have q2 := FB_ad hF (ce (a0 + 3 * k)) (ce (a0 + 3 * k + 1)) (ce (a0 + 3 * k + 2))
      have go : ∀ c' l9', c' ≤ k + 1 → c' = (if resA s.1 (ce (a0 + 3 * k)) (ce (a0 + 3 * k + 1)) (ce (a0 + 3 * k + 2)) < 0 then c else c + 1) → mFr (d + 4) 190 151 [some (.ref 0), some (.int (nI j)), l2, some (.int (nI a0)), some (.int (nI n)), some (.int (nI c')), some (.int (nI k)), some (.long (Int64.ofNat (a0 + 3 * k))), none, l9'] [] (mkH dSh I1 V L A1) P := by
        intro c' l9' hc' e'
        rw [← e'] at hP
        simp (disch := first | assumption | exact mnl_i | exact mnl_r | exact mnl_n | exact mnl_0 | omega) only [E190_151, q_add]
        exact ih (k + 1) (a0 + 3 * k + 3) c' _ I1 A1 _ _ (by omega) (by omega) hc' (Or.inr (by omega)) q2 q1 hz' hce' hP
      by_cases cr : resA s.1 (ce (a0 + 3 * k)) (ce (a0 + 3 * k + 1)) (ce (a0 + 3 * k + 2)) < 0
      · simp (disch := first | assumption | exact mnl_i | exact mnl_r | exact mnl_n | exact mnl_0 | omega) only [↓reduceIte, tolS, E190_106.2.2.2.2.2.2.2.2.2.2.2.2.2.2.2.2.2.2.2.2.2.2.2.2.2, cr]
        exact go c _ (by omega) (by rw [if_pos cr])
      · simp (disch := first | assumption | exact mnl_i | exact mnl_r | exact mnl_n | exact mnl_0 | omega) only [↓reduceIte, tolS, E190_106.2.2.2.2.2.2.2.2.2.2.2.2.2.2.2.2.2.2.2.2.2.2.2.2.2, E190_148, cr, q_add]
        exact go (c + 1) _ (by omega) (by rw [if_neg cr])
    · simp only [rdr, if_neg c3] at hP
      have hin : ¬ a0 + 3 * k + 2 < z := by omega
      simp (disch := first | assumption | exact mnl_i | exact mnl_r | exact mnl_n | exact mnl_0 | omega) only [↓reduceIte, tolS, E190_60, E190_67, E190_86, E190_103, dShG, dShR, q_ll, hlt, e3, c0, i64_2, ez, pix_nI, hz, c2, hin]
      exact hP I A hc
theorem lcmp_neg {x : Int32} (h : x < 0) : lg_cmp (x.toInt64 + 3 * (nI 0).toInt64) 0 < 0 := by
  have e0 : (nI 0).toInt64 = 0 := rfl
  have e1 : x.toInt64 + 3 * (0 : Int64) = x.toInt64 := by rw [Int64.mul_zero, Int64.add_zero]
  rw [e0, e1]
  have hx : x.toInt64 < 0 := by
    rw [Int64.lt_iff_toInt_lt, Int32.toInt_toInt64]
    rw [i32_lt] at h
    exact h
  unfold lg_cmp
  have n1 : ¬ x.toInt64 > 0 := fun z => by
    have a := Int64.lt_iff_toInt_lt.mp hx
    have b := Int64.lt_iff_toInt_lt.mp z
    omega
  have n2 : ¬ x.toInt64 = 0 := fun z => by rw [z] at hx; exact absurd hx (Int64.lt_irrefl)
  rw [if_neg n1, if_neg n2]
  decide
theorem J109 {hC hM : MH} (h : REL hC hM) (d : Nat) (x so fr n : Int32) : JR (d + 90) 109 190 [.int x, .int so, .int fr, .int n] hC hM := by
  obtain ⟨I, V, L, A, I', V', L', A', nt, W, many, R, th, day, rl, e, ec, em, hF, hc, hm⟩ := REL_B h
  rw [ec, em]
  unfold JR
  rcases i32_ix x 4 with ⟨s, hs, hs2, rfl⟩ | hx
  · have hlts : 47 + 2 * s < 900 := by omega
    obtain ⟨t1, t2⟩ := c47 hs
    obtain ⟨a1, a2, a3⟩ := hc.2.2.2.2 s hs
    obtain ⟨b1, b2, b3⟩ := hm.2.2.2.2 s hs
    obtain ⟨f1, f2⟩ := hF.2.2.2 s hs
    rcases i32_ix so 3 with ⟨k, hk, hk2, rfl⟩ | hso
    · have hk3 : ¬ 2 < k := by omega
      have w1 := fun d h P => M114_in (y := 2) (n := 2) (j := k) rfl (by omega) (by omega) d h P
      rcases i32_ix n 6 with ⟨q, hq, hq2, rfl⟩ | hn
      · have hq5 : ¬ 5 < q := by omega
        have w2 := fun d h P => M114_in (y := 5) (n := 5) (j := q) rfl (by omega) (by omega) d h P
        by_cases m1 : e.2.2.1 s = -1
        · simp (disch := first | assumption | exact mnl_i | exact mnl_r | exact mnl_n | exact mnl_0 | omega) only [↓reduceIte, tolS, E109_0, E109_12, E109_16, E109_21, E109_26, E109_35, E109_44, B109, cShG, kSheet, S112_in hs, hlts, q_neg, q_gt, hk3, hq5, a1, m1]
          simp (disch := first | assumption | exact mnl_i | exact mnl_r | exact mnl_n | exact mnl_0 | omega) only [↓reduceIte, tolS, E190_0, E190_7, E190_16, E190_29, E190_38, B190, dShG, dShR, M118_in hs, w1, w2, n10, pix_nI, b1, m1, show (-1 : Int32) < 0 by decide]
          exact JR_B hF hc hm
        · have q1 : ¬ e.2.2.1 s < 0 := by rw [so_neg f1]; exact m1
          by_cases m2 : e.2.2.1 s = nI k
          · have am : I (47 + 2 * s) 1 = nI k := by rw [a1, m2]
            have bm : A' 20 s = nI k := by rw [b1, m2]
            have nm : ¬ nI k = -1 := nI_m1 (by omega)
            have hM0 : ∀ (v : Int32) (I1 : TI), (∀ (h1 : MH) , True) → True := fun _ _ _ => trivial
            by_cases hfr : fr < 0
            · rcases Nat.eq_zero_or_pos q with q0 | q0
              · subst q0
                have g00 : ¬ nI 0 < nI 0 := by decide
                simp (disch := first | assumption | exact mnl_i | exact mnl_r | exact mnl_n | exact mnl_0 | omega) only [↓reduceIte, tolS, E109_0, E109_12, E109_16, E109_21, E109_26, E109_35, E109_47, E109_59, E109_65, E109_135, B109, cShG, kSheet, S112_in hs, hlts, q_neg, q_gt, hk3, hq5, am, nm, show ¬ (0 : Int32) < nI 0 by decide]
                simp (disch := first | assumption | exact mnl_i | exact mnl_r | exact mnl_n | exact mnl_0 | omega) only [↓reduceIte, tolS, E190_0, E190_7, E190_16, E190_29, E190_41, E190_54, E190_60, E190_157, B190, dShG, dShR, M118_in hs, w1, w2, n10, pix_nI, bm, q_neg, show ¬ (0 : Int32) < nI 0 by decide]
                exact JR_B hF hc hm
              · have hpos : (0 : Int32) < nI q := (nI_ltI (a := 0) (by omega) (by omega)).mpr q0
                have e0 : fr + 3 * (0 : Int32) = fr := by rw [Int32.mul_zero, Int32.add_zero]
                simp (disch := first | assumption | exact mnl_i | exact mnl_r | exact mnl_n | exact mnl_0 | omega) only [↓reduceIte, tolS, E109_0, E109_12, E109_16, E109_21, E109_26, E109_35, E109_47, E109_59, E109_65, E109_72.1, E109_72.2.1, E109_72.2.2.1, E109_72.2.2.2.1, E109_72.2.2.2.2.1, E109_72.2.2.2.2.2.1, E109_72.2.2.2.2.2.2.1, E109_72.2.2.2.2.2.2.2.1, E109_72.2.2.2.2.2.2.2.2.1, E109_72.2.2.2.2.2.2.2.2.2.1, E109_72.2.2.2.2.2.2.2.2.2.2.1, B109, cShG, kSheet, S112_in hs, hlts, q_neg, q_gt, hk3, hq5, am, nm, hpos, e0]
                refine Eq.mpr (S23_n (m := 3) hs a2 f2 (by omega) (Or.inl hfr) _ _) ?_
                simp (disch := first | assumption | exact mnl_i | exact mnl_r | exact mnl_n | exact mnl_0 | omega) only [↓reduceIte, tolS, E109_72.2.2.2.2.2.2.2.2.2.2.2, E109_91]
                simp (disch := first | assumption | exact mnl_i | exact mnl_r | exact mnl_n | exact mnl_0 | omega) only [↓reduceIte, tolS, E190_0, E190_7, E190_16, E190_29, E190_41, E190_54, E190_60, E190_67, E190_103, B190, dShG, dShR, M118_in hs, w1, w2, n10, pix_nI, bm, q_neg, hpos, show lg_cmp (fr.toInt64 + 3 * (0 : Int32).toInt64) 0 < 0 from lcmp_neg hfr]
                exact JR_B hF hc hm
            · obtain ⟨a, ha, rfl⟩ := nI_of hfr
              simp (disch := first | assumption | exact mnl_i | exact mnl_r | exact mnl_n | exact mnl_0 | omega) only [↓reduceIte, tolS, E109_0, E109_12, E109_16, E109_21, E109_26, E109_35, E109_47, E109_59, B109, cShG, kSheet, S112_in hs, hlts, q_neg, q_gt, hk3, hq5, am, nm]
              refine S109_loop (a0 := a) (ce := e.2.2.2.2 s) hs f2 (by omega) _ _ _ _ q 0 a 0 (many, R) I none (by omega) (by omega) (by omega) ha (Or.inl rfl) hF hc a2 a3 (fun I1 k1 k2 => ?_)
              simp (disch := first | assumption | exact mnl_i | exact mnl_r | exact mnl_n | exact mnl_0 | omega) only [↓reduceIte, tolS, E190_0, E190_7, E190_16, E190_29, E190_41, E190_54, B190, dShG, dShR, M118_in hs, w1, w2, n10, pix_nI, bm, q_neg]
              refine M190_loop (a0 := a) (ce := e.2.2.2.2 s) hs f2 (by omega) ha _ _ _ q 0 a 0 (many, R) I' A' none none (by omega) (by omega) (by omega) (Or.inl rfl) hF hm b2 b3 (fun I2 A2 k3 => ?_)
              exact JR_B k1 k2 k3
          · simp (disch := first | assumption | exact mnl_i | exact mnl_r | exact mnl_n | exact mnl_0 | omega) only [↓reduceIte, tolS, E109_0, E109_12, E109_16, E109_21, E109_26, E109_35, E109_47, E109_56, B109, cShG, kSheet, S112_in hs, hlts, q_neg, q_gt, hk3, hq5, a1, m1, m2]
            simp (disch := first | assumption | exact mnl_i | exact mnl_r | exact mnl_n | exact mnl_0 | omega) only [↓reduceIte, tolS, E190_0, E190_7, E190_16, E190_29, E190_41, E190_51, B190, dShG, dShR, M118_in hs, w1, w2, n10, pix_nI, b1, q1, m2]
            exact JR_B hF hc hm
      · have w2 := fun d h P => M114_out (y := 5) (n := 5) (x := n) rfl hn d h P
        have hb : mRun (d + 90) 190 [.ref 0, .int (nI s), .int (nI k), .int fr, .int n] (mkH dSh I' V' L' A') (fun v' h' => JQ (some (.int (-2))) (mkH cSh I V L A) v' h') := by
          simp (disch := first | assumption | exact mnl_i | exact mnl_r | exact mnl_n | exact mnl_0 | omega) only [↓reduceIte, tolS, E190_0, E190_7, E190_16, E190_26, B190, dShG, dShR, M118_in hs, w1, w2, n10]
          exact JR_B hF hc hm
        rcases hn with hn | ⟨q, hq, hq2, rfl⟩
        · simp (disch := first | assumption | exact mnl_i | exact mnl_r | exact mnl_n | exact mnl_0 | omega) only [↓reduceIte, tolS, E109_0, E109_12, E109_16, E109_21, E109_32, B109, cShG, S112_in hs, hlts, q_neg, q_gt, hk3, hn]
          exact hb
        · have hq5 : 5 < q := by omega
          simp (disch := first | assumption | exact mnl_i | exact mnl_r | exact mnl_n | exact mnl_0 | omega) only [↓reduceIte, tolS, E109_0, E109_12, E109_16, E109_21, E109_26, E109_32, B109, cShG, S112_in hs, hlts, q_neg, q_gt, hk3, hq5]
          exact hb
    · have w1 := fun d h P => M114_out (y := 2) (n := 2) (x := so) rfl hso d h P
      have hb : mRun (d + 90) 190 [.ref 0, .int (nI s), .int so, .int fr, .int n] (mkH dSh I' V' L' A') (fun v' h' => JQ (some (.int (-2))) (mkH cSh I V L A) v' h') := by
        simp (disch := first | assumption | exact mnl_i | exact mnl_r | exact mnl_n | exact mnl_0 | omega) only [↓reduceIte, tolS, E190_0, E190_7, E190_26, B190, dShG, dShR, M118_in hs, w1, n10]
        exact JR_B hF hc hm
      rcases hso with hso | ⟨q, hq, hq2, rfl⟩
      · simp (disch := first | assumption | exact mnl_i | exact mnl_r | exact mnl_n | exact mnl_0 | omega) only [↓reduceIte, tolS, E109_0, E109_12, E109_32, B109, cShG, S112_in hs, hlts, hso]
        exact hb
      · have hq5 : 2 < q := by omega
        simp (disch := first | assumption | exact mnl_i | exact mnl_r | exact mnl_n | exact mnl_0 | omega) only [↓reduceIte, tolS, E109_0, E109_12, E109_16, E109_32, B109, cShG, S112_in hs, hlts, q_neg, q_gt, hq5]
        exact hb
  · simp (disch := first | assumption | exact mnl_i | exact mnl_r | exact mnl_n | exact mnl_0 | omega) only [↓reduceIte, tolS, E109_0, E109_32, B109, cShG, S112_out hx]
    simp (disch := first | assumption | exact mnl_i | exact mnl_r | exact mnl_n | exact mnl_0 | omega) only [↓reduceIte, tolS, E190_0, E190_26, B190, dShG, M118_out hx]
    exact JR_B hF hc hm
end K5
