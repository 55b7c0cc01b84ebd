/-! riders come; bundles -/
def CB (I : TI) (V : TV) (A : TI) (nt : Nat) (W : Nat → Nat → List Int32) (many : Nat) (R : Nat → Nat → Nat) (th : Nat → Nat) (day rl : Nat) (e : TE) : Prop := CG I V A many R th day rl ∧ CT I A nt W ∧ CE I V A e
def MB (I A : TI) (nt : Nat) (W : Nat → Nat → List Int32) (many : Nat) (R : Nat → Nat → Nat) (th : Nat → Nat) (day rl : Nat) (e : TE) : Prop := MGm I A many R th day rl ∧ MT I A nt W ∧ ME I A e
def FB (nt many : Nat) (R : Nat → Nat → Nat) (th : Nat → Nat) (day rl : Nat) (e : TE) : Prop := FG nt many R th day rl ∧ FE nt many R e
def vkB (k n p : Int32) : Bool := decide (¬ k < 0) && decide (k < 6) && decide (¬ n < 0) && decide (n < 10) && decide (¬ p < 0) && decide (p < 10)
def ad (s : Nat × (Nat → Nat → Nat)) (k n p : Int32) : Nat × (Nat → Nat → Nat) := if vkB k n p = true ∧ s.1 < 5 then (s.1 + 1, updR s.2 s.1 (newR k.toNatClampNeg n.toNatClampNeg p.toNatClampNeg)) else s
def resA (many : Nat) (k n p : Int32) : Int32 := if vkB k n p = true then (if many < 5 then nI many else -4) else -2
section J3
variable {I I' A A' : TI} {V V' : TV} {L L' : Nat → Int64} {nt many day rl : Nat} {R : Nat → Nat → Nat} {th : Nat → Nat} {W : Nat → Nat → List Int32} {e : TE}
theorem JR_B {v : Option Value} (hF : FB nt many R th day rl e) (hC : CB I V A nt W many R th day rl e) (hM : MB I' A' nt W many R th day rl e) : JQ v (mkH cSh I V L A) v (mkH dSh I' V' L' A') := JR_end hF.1 hF.2 hC.1 hC.2.1 hC.2.2 hM.1 hM.2.1 hM.2.2
theorem clN {j : Nat} (h : j < 2 ^ 31) : (nI j).toNatClampNeg = j := nI_clamp h
theorem vkB_t {a b c : Nat} (h1 : a < 6) (h2 : b < 10) (h3 : c < 10) : vkB (nI a) (nI b) (nI c) = true := by
  have g : ∀ x n : Nat, x < n → n < 2 ^ 31 → decide (¬ nI x < 0) = true ∧ decide (nI x < nI n) = true := fun x n h hn => ⟨decide_eq_true (nI_pos (by omega)), decide_eq_true (nI_lt h (by omega))⟩
  unfold vkB
  rw [(g a 6 h1 (by omega)).1, (g b 10 h2 (by omega)).1, (g c 10 h3 (by omega)).1, show decide (nI a < 6) = true from (g a 6 h1 (by omega)).2, show decide (nI b < 10) = true from (g b 10 h2 (by omega)).2, show decide (nI c < 10) = true from (g c 10 h3 (by omega)).2]
  rfl
theorem out_f {x : Int32} {n : Nat} (hn : n < 2 ^ 31) (h : x < 0 ∨ ∃ j, n ≤ j ∧ j < 2 ^ 31 ∧ x = nI j) : (decide (¬ x < 0) && decide (x < nI n)) = false := by
  rcases h with h | ⟨j, h1, h2, rfl⟩
  · rw [decide_eq_false (fun z => z h)]; rfl
  · rw [decide_eq_false (show ¬ nI j < nI n from fun z => by have := (nI_ltI h2 hn).mp z; omega), Bool.and_false]
theorem vkB_1 {k n p : Int32} (h : k < 0 ∨ ∃ j, 6 ≤ j ∧ j < 2 ^ 31 ∧ k = nI j) : vkB k n p = false := by
  have := out_f (n := 6) (by omega) h
  unfold vkB
  rw [show (decide (¬ k < 0) && decide (k < 6)) = false from this]
  rfl
theorem vkB_2 {k n p : Int32} (h : n < 0 ∨ ∃ j, 10 ≤ j ∧ j < 2 ^ 31 ∧ n = nI j) : vkB k n p = false := by
  have := out_f (n := 10) (by omega) h
  unfold vkB
  rw [Bool.and_assoc (decide (¬ k < 0) && decide (k < 6)) (decide (¬ n < 0)) (decide (n < 10)), show (decide (¬ n < 0) && decide (n < 10)) = false from this, Bool.and_false]
  rfl
theorem vkB_3 {k n p : Int32} (h : p < 0 ∨ ∃ j, 10 ≤ j ∧ j < 2 ^ 31 ∧ p = nI j) : vkB k n p = false := by
  have := out_f (n := 10) (by omega) h
  unfold vkB
  rw [Bool.and_assoc _ (decide (¬ p < 0)) (decide (p < 10)), show (decide (¬ p < 0) && decide (p < 10)) = false from this, Bool.and_false]
theorem S8 {a : Nat} (ha : cSh[a]? = some sRider) (d : Nat) (k n p : Int32) (P : MP) : mRun (d + 1) 8 [.ref a, .int k, .int n, .int p] (mkH cSh I V L A) P = P none (mkH cSh (up2 (up2 (up2 (up2 (up2 (up2 I a 0 k) a 1 n) a 2 p) a 3 0) a 4 99) a 5 0) V L A) := by
  simp (disch := first | assumption | exact mnl_i | exact mnl_r | exact mnl_n | exact mnl_0 | omega) only [↓reduceIte, tolS, E8_0, B8, kRider]
theorem FB_new {a b c : Nat} (hF : FB nt many R th day rl e) (h1 : a < 6) (h2 : b < 10) (h3 : c < 10) (h5 : many < 5) : FB nt (many + 1) (updR R many (newR a b c)) th day rl e := by
  obtain ⟨g, f⟩ := hF
  refine ⟨⟨by omega, fun j hj => ?_, g.2.2⟩, f.1, ⟨f.2.1.1, fun z => ?_⟩, f.2.2⟩
  · unfold updR
    by_cases ej : j = many
    · rw [if_pos ej]; exact newR_ok h1 h2 h3
    · rw [if_neg ej]; exact g.2.1 j (by omega)
  · obtain ⟨k1, k2, k3⟩ := f.2.1.2 z
    refine ⟨by omega, fun j hj => ?_, k3⟩
    unfold updR
    rw [if_neg (by omega)]
    exact k2 j hj
theorem S63 (hF : FB nt many R th day rl e) (h : CB I V A nt W many R th day rl e) (k n p : Int32) (d : Nat) (P : MP)
    (hP : ∀ I', CB I' V A nt W (ad (many, R) k n p).1 (ad (many, R) k n p).2 th day rl e → FB nt (ad (many, R) k n p).1 (ad (many, R) k n p).2 th day rl e → P (some (.int (resA many k n p))) (mkH cSh I' V L A)) : mRun (d + 3) 63 [.ref 0, .int k, .int n, .int p] (mkH cSh I V L A) P := by
  have bad : vkB k n p = false → P (some (.int (-2))) (mkH cSh I V L A) := by
    intro hv
    have := hP I
    unfold ad resA at this
    rw [hv] at this
    simp only [Bool.false_eq_true, false_and, if_false] at this
    exact this h hF
  have n2 : ¬ (0 : Int32) = 1 := by decide
  rcases i32_ix k 6 with ⟨a, ha, ha2, rfl⟩ | ho
  · rcases i32_ix n 10 with ⟨b, hb, hb2, rfl⟩ | ho
    · rcases i32_ix p 10 with ⟨c, hc, hc2, rfl⟩ | ho
      · have hv := vkB_t ha hb hc
        have h41 := h.1.1
        have hm5 := hF.1.1
        by_cases c5 : many < 5
        · have hq := c6j c5
          have hP := hP (up2 (up2 (up2 (up2 (up2 (up2 (up2 I (6 + 1 * many) 0 (nI a)) (6 + 1 * many) 1 (nI b)) (6 + 1 * many) 2 (nI c)) (6 + 1 * many) 3 0) (6 + 1 * many) 4 99) (6 + 1 * many) 5 0) 4 1 (nI (many + 1)))
          have e1 : ad (many, R) (nI a) (nI b) (nI c) = (many + 1, updR R many (newR a b c)) := by unfold ad; rw [if_pos ⟨hv, c5⟩, clN ha2, clN hb2, clN hc2]
          have e2 : resA many (nI a) (nI b) (nI c) = nI many := by unfold resA; rw [if_pos hv, if_pos c5]
          rw [e1, e2] at hP
          have hx : up2 (up2 (up2 (up2 (up2 (up2 I (6 + 1 * many) 0 (nI a)) (6 + 1 * many) 1 (nI b)) (6 + 1 * many) 2 (nI c)) (6 + 1 * many) 3 0) (6 + 1 * many) 4 99) (6 + 1 * many) 5 0 4 1 = nI many := by
            rw [up2_a (by omega), up2_a (by omega), up2_a (by omega), up2_a (by omega), up2_a (by omega), up2_a (by omega)]; exact h41
          have hs : nI (many + 1) - 1 = nI many := q_sub.1 (many + 1) (by omega)
          simp (disch := first | assumption | exact mnl_i | exact mnl_r | exact mnl_n | exact mnl_0 | omega) only [↓reduceIte, tolS, E63_0, E63_4, E63_10, E63_17, E63_27.1, E63_27.2.1, E63_27.2.2.1, E63_27.2.2.2.1, E63_27.2.2.2.2.1, E63_27.2.2.2.2.2.1, B63, cShG, q_neg, q_lt, ha, S65_in hb, S65_in hc, n10]
          simp (disch := first | assumption | exact mnl_i | exact mnl_r | exact mnl_n | exact mnl_0 | omega) only [↓reduceIte, tolS, E2_0, E2_15.1, E2_15.2.1, E2_15.2.2.1, E2_15.2.2.2.1, E2_15.2.2.2.2.1, E2_15.2.2.2.2.2.1, E2_15.2.2.2.2.2.2.1, E2_15.2.2.2.2.2.2.2.1, E2_15.2.2.2.2.2.2.2.2.1, B2, cShG, cShR, kRider, h41, nI_d, q_ll, c5, pix_nI, S8 hq]
          simp (disch := first | assumption | exact mnl_i | exact mnl_r | exact mnl_n | exact mnl_0 | omega) only [↓reduceIte, tolN, tolS, E2_15.2.2.2.2.2.2.2.2.2.1, E2_15.2.2.2.2.2.2.2.2.2.2.1, E2_15.2.2.2.2.2.2.2.2.2.2.2.1, E2_15.2.2.2.2.2.2.2.2.2.2.2.2.1, E2_15.2.2.2.2.2.2.2.2.2.2.2.2.2.1, E2_15.2.2.2.2.2.2.2.2.2.2.2.2.2.2.1, E2_15.2.2.2.2.2.2.2.2.2.2.2.2.2.2.2.1, E2_15.2.2.2.2.2.2.2.2.2.2.2.2.2.2.2.2.1, E2_15.2.2.2.2.2.2.2.2.2.2.2.2.2.2.2.2.2.1, E2_15.2.2.2.2.2.2.2.2.2.2.2.2.2.2.2.2.2.2.1, E2_15.2.2.2.2.2.2.2.2.2.2.2.2.2.2.2.2.2.2.2, cShG, cShP, hx, q_add, up2_s, hs]
          simp (disch := first | assumption | exact mnl_i | exact mnl_r | exact mnl_n | exact mnl_0 | omega) only [↓reduceIte, tolN, tolS, E63_27.2.2.2.2.2.2]
          refine hP ⟨?_, ?_, ?_⟩ (FB_new hF ha hb hc c5)
          · refine ⟨up2_s, fun j hj f hf => ?_, ?_, h.1.2.2.2.1, h.1.2.2.2.2⟩
            · dsimp only at hj ⊢
              unfold updR newR
              rw [up2_a (by omega)]
              by_cases ej : j = many
              · rw [if_pos ej, ej]
                match f, hf with
                | 0, _ => simp [up2]
                | 1, _ => simp [up2]
                | 2, _ => simp [up2]
                | 3, _ => simp [up2]; rfl
                | 4, _ => simp [up2]; rfl
                | 5, _ => simp [up2]; rfl
              · rw [if_neg ej, up2_a (by omega), up2_a (by omega), up2_a (by omega), up2_a (by omega), up2_a (by omega), up2_a (by omega)]
                exact h.1.2.1 j (by omega) f hf
            · rw [up2_a (by omega), up2_a (by omega), up2_a (by omega), up2_a (by omega), up2_a (by omega), up2_a (by omega), up2_a (by omega)]
              exact h.1.2.2.1
          · exact (CTE_G (V' := V) (A' := A) h.2.1 h.2.2 hF.1.2.2.2.2.2 hF.2 (fun b g' hb => by rw [up2_a (by omega), up2_a (by omega), up2_a (by omega), up2_a (by omega), up2_a (by omega), up2_a (by omega), up2_a (by omega)]) rfl (fun b hb => rfl)).1
          · exact (CTE_G (V' := V) (A' := A) h.2.1 h.2.2 hF.1.2.2.2.2.2 hF.2 (fun b g' hb => by rw [up2_a (by omega), up2_a (by omega), up2_a (by omega), up2_a (by omega), up2_a (by omega), up2_a (by omega), up2_a (by omega)]) rfl (fun b hb => rfl)).2
        · have e1 : ad (many, R) (nI a) (nI b) (nI c) = (many, R) := by unfold ad; rw [if_neg (fun z => c5 z.2)]
          have e2 : resA many (nI a) (nI b) (nI c) = -4 := by unfold resA; rw [if_pos hv, if_neg c5]
          have hP := hP I
          rw [e1, e2] at hP
          simp (disch := first | assumption | exact mnl_i | exact mnl_r | exact mnl_n | exact mnl_0 | omega) only [↓reduceIte, tolS, E63_0, E63_4, E63_10, E63_17, E63_27.1, E63_27.2.1, E63_27.2.2.1, E63_27.2.2.2.1, E63_27.2.2.2.2.1, E63_27.2.2.2.2.2.1, B63, cShG, q_neg, q_lt, ha, S65_in hb, S65_in hc, n10]
          simp (disch := first | assumption | exact mnl_i | exact mnl_r | exact mnl_n | exact mnl_0 | omega) only [↓reduceIte, tolS, E2_0, E2_12, B2, cShG, cShR, h41, nI_d, q_ll, c5]
          simp (disch := first | assumption | exact mnl_i | exact mnl_r | exact mnl_n | exact mnl_0 | omega) only [↓reduceIte, tolN, tolS, E63_27.2.2.2.2.2.2]
          exact hP h hF
      · simp (disch := first | assumption | exact mnl_i | exact mnl_r | exact mnl_n | exact mnl_0 | omega) only [↓reduceIte, tolS, E63_0, E63_4, E63_10, E63_17, E63_24, B63, cShG, q_neg, q_lt, ha, S65_in hb, S65_out ho, n10]
        exact bad (vkB_3 ho)
    · simp (disch := first | assumption | exact mnl_i | exact mnl_r | exact mnl_n | exact mnl_0 | omega) only [↓reduceIte, tolS, E63_0, E63_4, E63_10, E63_24, B63, cShG, q_neg, q_lt, ha, S65_out ho, n10]
      exact bad (vkB_2 ho)
  · have bb := bad (vkB_1 ho)
    rcases ho with hi | ⟨j, hj, hj2, rfl⟩
    · simp (disch := first | assumption | exact mnl_i | exact mnl_r | exact mnl_n | exact mnl_0 | omega) only [↓reduceIte, tolS, E63_0, E63_24, B63, cShG, hi]
      exact bb
    · have h2 : ¬ j < 6 := by omega
      simp (disch := first | assumption | exact mnl_i | exact mnl_r | exact mnl_n | exact mnl_0 | omega) only [↓reduceIte, tolS, E63_0, E63_4, E63_24, B63, cShG, q_neg, q_lt, h2]
      exact bb
theorem M123 (hF : FB nt many R th day rl e) (h : MB I A nt W many R th day rl e) (k n p : Int32) (d : Nat) (P : MP)
    (hP : ∀ I' A', MB I' A' nt W (ad (many, R) k n p).1 (ad (many, R) k n p).2 th day rl e → P (some (.int (resA many k n p))) (mkH dSh I' V L A')) : mRun (d + 3) 123 [.ref 0, .int k, .int n, .int p] (mkH dSh I V L A) P := by
  have bad : vkB k n p = false → P (some (.int (-2))) (mkH dSh I V L A) := by
    intro hv
    have := hP I A
    unfold ad resA at this
    rw [hv] at this
    simp only [Bool.false_eq_true, false_and, if_false] at this
    exact this h
  rcases i32_ix k 6 with ⟨a, ha, ha2, rfl⟩ | ho
  · rcases i32_ix n 10 with ⟨b, hb, hb2, rfl⟩ | ho
    · rcases i32_ix p 10 with ⟨c, hc, hc2, rfl⟩ | ho
      · have hv := vkB_t ha hb hc
        have h02 := h.1.1
        have hm5 := hF.1.1
        have ha5 : a ≤ 5 := by omega
        have hb9 : b ≤ 9 := by omega
        have hc9 : c ≤ 9 := by omega
        have w1 := fun d h P => M114_in (y := 5) (n := 5) rfl ha5 (by omega) d h P
        have w2 := fun d h P => M114_in (y := 9) (n := 9) rfl hb9 (by omega) d h P
        have w3 := fun d h P => M114_in (y := 9) (n := 9) rfl hc9 (by omega) d h P
        by_cases c5 : many = 5
        · have e1 : ad (many, R) (nI a) (nI b) (nI c) = (many, R) := by unfold ad; rw [if_neg (fun z => by have := z.2; omega)]
          have e2 : resA many (nI a) (nI b) (nI c) = -4 := by unfold resA; rw [if_pos hv, if_neg (by omega)]
          have hP := hP I A
          rw [e1, e2] at hP
          simp (disch := first | assumption | exact mnl_i | exact mnl_r | exact mnl_n | exact mnl_0 | omega) only [↓reduceIte, tolS, E123_0, E123_9, E123_19, E123_32, E123_40, B123, dShG, w1, w2, w3, n10, h02, q_eq, c5]
          exact hP h
        · have c5' : many < 5 := by omega
          have e1 : ad (many, R) (nI a) (nI b) (nI c) = (many + 1, updR R many (newR a b c)) := by unfold ad; rw [if_pos ⟨hv, c5'⟩, clN ha2, clN hb2, clN hc2]
          have e2 : resA many (nI a) (nI b) (nI c) = nI many := by unfold resA; rw [if_pos hv, if_pos c5']
          have hP := hP (up2 I 0 2 (nI (many + 1))) (upA (upA (upA (upA (upA (upA A 2 (upd (A 2) many (nI a))) 3 (upd (A 3) many (nI b))) 4 (upd (A 4) many (nI c))) 5 (upd (A 5) many 0)) 6 (upd (A 6) many 99)) 7 (upd (A 7) many 0))
          rw [e1, e2] at hP
          simp (disch := first | assumption | exact mnl_i | exact mnl_r | exact mnl_n | exact mnl_0 | omega) only [↓reduceIte, tolS, E123_0, E123_9, E123_19, E123_32, E123_43, B123, dShG, dShP, dShR, w1, w2, w3, n10, h02, q_eq, c5, pix_nI, upA_n, q_add]
          refine hP ⟨?_, ?_, ?_⟩
          · refine ⟨up2_s, fun j hj f hf => ?_, by rw [up2_f (by decide)]; exact h.1.2.2.1, fun q hq => ?_, by rw [up2_f (by decide)]; exact h.1.2.2.2.2⟩
            · dsimp only at hj ⊢
              have old : j ≠ many → A (2 + f) j = nI (R j f) := fun hj' => h.1.2.1 j (by omega) f hf
              unfold updR newR
              by_cases ej : j = many
              · rw [if_pos ej, ej]
                match f, hf with
                | 0, _ => simp [upA, upd]
                | 1, _ => simp [upA, upd]
                | 2, _ => simp [upA, upd]
                | 3, _ => simp [upA, upd]; rfl
                | 4, _ => simp [upA, upd]; rfl
                | 5, _ => simp [upA, upd]; rfl
              · rw [if_neg ej, ← old ej]
                match f, hf with
                | 0, _ => simp [upA, upd, ej]
                | 1, _ => simp [upA, upd, ej]
                | 2, _ => simp [upA, upd, ej]
                | 3, _ => simp [upA, upd, ej]
                | 4, _ => simp [upA, upd, ej]
                | 5, _ => simp [upA, upd, ej]
            · rw [upA_n (by decide), upA_n (by decide), upA_n (by decide), upA_n (by decide), upA_n (by decide), upA_n (by decide)]
              exact h.1.2.2.2.1 q hq
          · exact (MTE_G h.2.1 h.2.2 (fun f' hf => up2_f (by omega)) (fun b hb => by rw [upA_n (by omega), upA_n (by omega), upA_n (by omega), upA_n (by omega), upA_n (by omega), upA_n (by omega)])).1
          · exact (MTE_G h.2.1 h.2.2 (fun f' hf => up2_f (by omega)) (fun b hb => by rw [upA_n (by omega), upA_n (by omega), upA_n (by omega), upA_n (by omega), upA_n (by omega), upA_n (by omega)])).2
      · have ha5 : a ≤ 5 := by omega
        have hb9 : b ≤ 9 := by omega
        have w1 := fun d h P => M114_in (y := 5) (n := 5) rfl ha5 (by omega) d h P
        have w2 := fun d h P => M114_in (y := 9) (n := 9) rfl hb9 (by omega) d h P
        have w3 := fun d h P => M114_out (y := 9) (n := 9) rfl ho d h P
        simp (disch := first | assumption | exact mnl_i | exact mnl_r | exact mnl_n | exact mnl_0 | omega) only [↓reduceIte, tolS, E123_0, E123_9, E123_19, E123_29, B123, dShG, w1, w2, w3, n10]
        exact bad (vkB_3 ho)
    · have ha5 : a ≤ 5 := by omega
      have w1 := fun d h P => M114_in (y := 5) (n := 5) rfl ha5 (by omega) d h P
      have w2 := fun d h P => M114_out (y := 9) (n := 9) rfl ho d h P
      simp (disch := first | assumption | exact mnl_i | exact mnl_r | exact mnl_n | exact mnl_0 | omega) only [↓reduceIte, tolS, E123_0, E123_9, E123_29, B123, dShG, w1, w2, n10]
      exact bad (vkB_2 ho)
  · have w1 := fun d h P => M114_out (y := 5) (n := 5) rfl ho d h P
    simp (disch := first | assumption | exact mnl_i | exact mnl_r | exact mnl_n | exact mnl_0 | omega) only [↓reduceIte, tolS, E123_0, E123_29, B123, dShG, w1]
    exact bad (vkB_1 ho)
theorem REL_B {hC hM : MH} (h : REL hC hM) : ∃ I V L A I' V' L' A' nt W many R th day rl e, hC = mkH cSh I V L A ∧ hM = mkH dSh I' V' L' A' ∧ FB nt many R th day rl e ∧ CB I V A nt W many R th day rl e ∧ MB I' A' nt W many R th day rl e := by
  obtain ⟨I, V, L, A, I', V', L', A', nt, W, many, R, th, day, rl, e, ec, em, g, f, c1, c2, c3, m1, m2, m3⟩ := h
  exact ⟨I, V, L, A, I', V', L', A', nt, W, many, R, th, day, rl, e, ec, em, ⟨g, f⟩, ⟨c1, c2, c3⟩, m1, m2, m3⟩
theorem J63 {hC hM : MH} (h : REL hC hM) (d : Nat) (k n p : Int32) : JR (d + 90) 63 123 [.int k, .int n, .int p] hC hM := by
  obtain ⟨I, V, L, A, I', V', L', A', nt, W, many, R, th, day, rl, e, ec, em, hF, hc, hm⟩ := REL_B h
  rw [ec, em]
  unfold JR
  refine S63 hF hc k n p _ _ (fun I1 q1 q2 => ?_)
  refine M123 hF hm k n p _ _ (fun I2 A2 q3 => ?_)
  exact JR_B q2 q1 q3
end J3
