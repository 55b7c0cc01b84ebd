/-! the class's scan; a text read whole -/
def scS (I A I' A' : TI) : Prop := (∀ b g, (b ≠ 56 ∨ g ≠ 2) → I' b g = I b g) ∧ ∀ b, b ≠ 57 → b ≠ 58 → A' b = A b
theorem skp_bl {n : Nat} {b : Nat → Nat} {j : Nat} (h : j < n) (hf : isBB (b j) = true) : skp n b j = skp n b (j + 1) := exT_s (f := fun j => isBB (b j)) h hf
theorem skp_nb {n : Nat} {b : Nat → Nat} {j : Nat} (h : j < n) (hf : ¬ isBB (b j) = true) : skp n b j = j := exT_n (f := fun j => isBB (b j)) h hf
theorem lex_next {n : Nat} {b : Nat → Nat} {c at_ : Nat} (h : lexB n b c = at_) (hn : at_ < n) : lexB n b (c + 1) = skp n b (tkE n b at_) ∧ lexT n b c = tkT n b at_ := by
  subst h
  refine ⟨?_, by unfold lexT; rw [if_pos hn]⟩
  unfold lexB at hn ⊢
  rw [lexP, if_pos hn]
section RD
variable {n : Nat} {b : Nat → Nat} {V : TV} {L : Nat → Int64}
theorem S52 {I A : TI} {c : Nat} (h : I 56 2 = nI c) (hc : c < 160) (d : Nat) (tok st : Int32) (P : MP) : mRun (d + 1) 52 [.ref 56, .int tok, .int st] (mkH cSh I V L A) P = P none (mkH cSh (up2 I 56 2 (nI (c + 1))) V L (upA (upA A 57 (upd (A 57) c tok)) 58 (upd (A 58) c st))) := by
  have e : (58 : Nat) ≠ 57 := by decide
  simp (disch := first | assumption | exact mnl_i | exact mnl_r | exact mnl_n | exact mnl_0 | omega) only [↓reduceIte, E52_0, E52_12, E52_24, E52_54, B52, cShG, cShP, cShR, h, nI_d, q_ll, hc, pix_nI, upA_n, q_add]
theorem TP_S {I A I' A' : TI} (h : TP I A n b) (s : scS I A I' A') : TP I' A' n b := by
  unfold TP at h ⊢
  rw [s.1 2 1 (by omega), s.2 3 (by omega) (by omega)]
  exact h
theorem S51 {I A : TI} (hT : TP I A n b) (d : Nat) (P : MP) (hP : ∀ I' A' cn, scS I A I' A' → I' 56 2 = nI cn → (∀ i, i < cn → A' 57 i = nI (lexT n b i) ∧ A' 58 i = nI (lexB n b i)) → FTk (lexT n b) (lexB n b) cn n → P none (mkH cSh I' V L A')) : mRun (d + 8) 51 [.ref 56] (mkH cSh I V L A) P := by
  have hn := hT.2.1
  have loop : ∀ (m at_ beh c : Nat) (I1 A1 : TI) (l3 : Option Value), n - at_ = m → at_ ≤ n → beh ≤ n → c ≤ at_ → lexB n b c = skp n b (max at_ beh) → scS I A I1 A1 → I1 56 2 = nI c → (∀ i, i < c → A1 57 i = nI (lexT n b i) ∧ A1 58 i = nI (lexB n b i)) →
      mFr (d + 7) 51 9 [some (.ref 56), some (.int (nI beh)), some (.int (nI at_)), l3] [] (mkH cSh I1 V L A1) P := by
    intro m
    induction m with
    | zero =>
      intro at_ beh c I1 A1 l3 hm g1 g2 g3 g4 s1 k1 k2
      have hT1 := TP_S hT s1
      have e : ¬ at_ < n := by omega
      have h1 := hT1.1
      simp (disch := first | assumption | exact mnl_i | exact mnl_r | exact mnl_n | exact mnl_0 | omega) only [↓reduceIte, tolS, E51_9, E51_116, cShG, h1, q_ll, e]
      refine hP I1 A1 c s1 k1 k2 (FTk_of hn (by omega) ?_)
      rw [g4, show max at_ beh = n by omega]
      exact exT_e (Nat.le_refl _)
    | succ m ih =>
      intro at_ beh c I1 A1 l3 hm g1 g2 g3 g4 s1 k1 k2
      have hT1 := TP_S hT s1
      have e : at_ < n := by omega
      have h1 := hT1.1
      have hb := (hT1.2.2 at_ e).2
      have hc : c < 160 := by omega
      by_cases c1 : at_ < beh
      · simp (disch := first | assumption | exact mnl_i | exact mnl_r | exact mnl_n | exact mnl_0 | omega) only [↓reduceIte, tolS, E51_9, E51_20, cShG, h1, q_ll, e, S28 hT1 e, c1]
        simp (disch := first | assumption | exact mnl_i | exact mnl_r | exact mnl_n | exact mnl_0 | omega) only [E51_110, q_add]
        exact ih (at_ + 1) beh c I1 A1 _ (by omega) (by omega) g2 (by omega) (by rw [g4, show max at_ beh = max (at_ + 1) beh by omega]) s1 k1 k2
      · rw [show max at_ beh = at_ by omega] at g4
        by_cases c2 : isBB (b at_) = true
        · simp (disch := first | assumption | exact mnl_i | exact mnl_r | exact mnl_n | exact mnl_0 | omega) only [↓reduceIte, tolS, E51_9, E51_20, E51_34, E51_41, cShG, h1, q_ll, e, S28 hT1 e, c1, S53 hb, c2, show ¬ (1 : Int32) = 0 by decide]
          simp (disch := first | assumption | exact mnl_i | exact mnl_r | exact mnl_n | exact mnl_0 | omega) only [E51_110, q_add]
          exact ih (at_ + 1) beh c I1 A1 _ (by omega) (by omega) g2 (by omega) (by rw [g4, skp_bl e c2, show max (at_ + 1) beh = at_ + 1 by omega]) s1 k1 k2
        · rw [skp_nb e c2] at g4
          obtain ⟨x1, x2⟩ := lex_next g4 e
          have hE := tkE_le (b := b) e
          have fin : ∀ beh', beh' ≤ n → max (at_ + 1) beh' = tkE n b at_ → mFr (d + 7) 51 107 [some (.ref 56), some (.int (nI beh')), some (.int (nI at_)), some (.int (nI (b at_)))] [.int (nI at_), .int (nI (tkT n b at_)), .ref 56] (mkH cSh I1 V L A1) P →  True := fun _ _ _ _ => trivial
          have rest : ∀ beh', beh' ≤ n → max (at_ + 1) beh' = tkE n b at_ → mFr (d + 7) 51 110 [some (.ref 56), some (.int (nI beh')), some (.int (nI at_)), some (.int (nI (b at_)))] [] (mkH cSh (up2 I1 56 2 (nI (c + 1))) V L (upA (upA A1 57 (upd (A1 57) c (nI (tkT n b at_)))) 58 (upd (A1 58) c (nI at_)))) P := by
            intro beh' q1 q2
            simp (disch := first | assumption | exact mnl_i | exact mnl_r | exact mnl_n | exact mnl_0 | omega) only [E51_110, q_add]
            refine ih (at_ + 1) beh' (c + 1) _ _ _ (by omega) (by omega) q1 (by omega) (by rw [x1, q2]) ⟨fun b' g' hb' => ?_, fun b' h57 h58 => ?_⟩ up2_s (fun i hi => ?_)
            · rw [← s1.1 b' g' hb']
              rcases hb' with z | z
              · exact up2_a z
              · exact up2_f z
            · rw [upA_n h58, upA_n h57, s1.2 b' h57 h58]
            · rw [upA_n (show 57 ≠ 58 by decide), upA_s, upA_s]
              by_cases z : i = c
              · subst z; rw [upd_s, upd_s, x2, g4]; exact ⟨rfl, rfl⟩
              · rw [upd_n z, upd_n z]; exact k2 i (by omega)
          by_cases c3 : isLB (b at_) = true
          · have hEe : tkE n b at_ = exT (fun j => isLB (b j)) n (at_ + 1) := by unfold tkE; rw [if_pos c3]
            have hTe : tkT n b at_ = wordT b at_ (tkE n b at_) := by unfold tkT; rw [if_pos c3]
            rw [hTe] at rest
            simp (disch := first | assumption | exact mnl_i | exact mnl_r | exact mnl_n | exact mnl_0 | omega) only [↓reduceIte, tolS, E51_9, E51_20, E51_34, E51_44, E51_51.1, E51_51.2.1, E51_51.2.2.1, cShG, h1, q_ll, e, S28 hT1 e, c1, S53 hb, c2, S54 hb, c3, show ¬ (1 : Int32) = 0 by decide]
            refine S55 hT1 e _ _ ?_
            rw [← hEe]
            simp (disch := first | assumption | exact mnl_i | exact mnl_r | exact mnl_n | exact mnl_0 | omega) only [↓reduceIte, tolS, E51_51.2.2.2.1, E51_51.2.2.2.2.1, E51_51.2.2.2.2.2.1, E51_51.2.2.2.2.2.2.1, E51_51.2.2.2.2.2.2.2.1, E51_51.2.2.2.2.2.2.2.2.1, cShG]
            refine S56 hT1 (by omega) hE.2 _ _ ?_
            simp (disch := first | assumption | exact mnl_i | exact mnl_r | exact mnl_n | exact mnl_0 | omega) only [↓reduceIte, tolS, E51_51.2.2.2.2.2.2.2.2.2.1, E51_51.2.2.2.2.2.2.2.2.2.2.1, cShG, S52 k1 hc, tolN]
            simp (disch := first | assumption | exact mnl_i | exact mnl_r | exact mnl_n | exact mnl_0 | omega) only [↓reduceIte, tolN, E51_51.2.2.2.2.2.2.2.2.2.2.2]
            exact rest _ hE.2 (by omega)
          · by_cases c4 : isDB (b at_) = true
            · have hEe : tkE n b at_ = exT (fun j => isDB (b j)) n (at_ + 1) := by unfold tkE; rw [if_neg c3, if_pos c4]
              have hTe : tkT n b at_ = if 4 < tkE n b at_ - at_ then 21 else 100 + numV b at_ (tkE n b at_ - at_) := by unfold tkT; rw [if_neg c3, if_pos c4]
              have hdg := tkE_dig e c3 c4
              rw [hTe] at rest
              simp (disch := first | assumption | exact mnl_i | exact mnl_r | exact mnl_n | exact mnl_0 | omega) only [↓reduceIte, tolS, E51_9, E51_20, E51_34, E51_44, E51_71, E51_81.1, E51_81.2.1, E51_81.2.2.1, cShG, h1, q_ll, e, S28 hT1 e, c1, S53 hb, c2, S54 hb, c3, S65x hb, c4, show ¬ (1 : Int32) = 0 by decide]
              refine S58 hT1 e _ _ ?_
              rw [← hEe]
              simp (disch := first | assumption | exact mnl_i | exact mnl_r | exact mnl_n | exact mnl_0 | omega) only [↓reduceIte, tolS, E51_81.2.2.2.1, E51_81.2.2.2.2.1, E51_81.2.2.2.2.2.1, E51_81.2.2.2.2.2.2.1, E51_81.2.2.2.2.2.2.2.1, E51_81.2.2.2.2.2.2.2.2.1, cShG]
              refine S59 hT1 (by omega) hE.2 hdg _ _ ?_
              simp (disch := first | assumption | exact mnl_i | exact mnl_r | exact mnl_n | exact mnl_0 | omega) only [↓reduceIte, tolS, E51_81.2.2.2.2.2.2.2.2.2.1, E51_81.2.2.2.2.2.2.2.2.2.2.1, cShG, S52 k1 hc, tolN]
              simp (disch := first | assumption | exact mnl_i | exact mnl_r | exact mnl_n | exact mnl_0 | omega) only [↓reduceIte, tolN, E51_81.2.2.2.2.2.2.2.2.2.2.2]
              exact rest _ hE.2 (by omega)
            · have hEe : tkE n b at_ = at_ + 1 := by unfold tkE; rw [if_neg c3, if_neg c4]
              have hTe : tkT n b at_ = sgT (b at_) := by unfold tkT; rw [if_neg c3, if_neg c4]
              rw [hTe] at rest
              simp (disch := first | assumption | exact mnl_i | exact mnl_r | exact mnl_n | exact mnl_0 | omega) only [↓reduceIte, tolS, E51_9, E51_20, E51_34, E51_44, E51_71, E51_101.1, E51_101.2.1, E51_101.2.2.1, cShG, h1, q_ll, e, S28 hT1 e, c1, S53 hb, c2, S54 hb, c3, S65x hb, c4, show ¬ (1 : Int32) = 0 by decide]
              refine S60 hb _ _ _ ?_
              simp (disch := first | assumption | exact mnl_i | exact mnl_r | exact mnl_n | exact mnl_0 | omega) only [↓reduceIte, tolS, E51_101.2.2.2.1, E51_101.2.2.2.2, cShG, S52 k1 hc, tolN]
              exact rest beh (by omega) (by omega)
  simp (disch := first | assumption | exact mnl_i | exact mnl_r | exact mnl_n | exact mnl_0 | omega) only [↓reduceIte, tolS, E51_0, B51, cShG, cShP]
  refine loop n 0 0 0 _ A none (by omega) (by omega) (by omega) (by omega) rfl ⟨fun b' g' hb' => ?_, fun _ _ _ => rfl⟩ up2_s (fun i hi => by omega)
  rcases hb' with z | z
  · exact up2_a z
  · exact up2_f z
end RD
def s0 (c : List Nat) : SYS := (c, [], false, false, true)
def PART (T : Nat → Nat) (p i : Nat) (c : List Nat) (i2 : Nat) (c2 : List Nat) : Prop := T i = 6 + p ∧ ∃ i' s' e, SR T (i + 1) (s0 c) i' s' ∧ s'.2.2.2.1 = true ∧ T i' = 14 ∧ layr 1 s'.2.1 = [] ∧ s'.1 ++ layc 1 s'.2.1 = c2 ∧ c2 = c ++ e ∧ wfx e ∧ i2 = i' + 1
def PFAIL (T : Nat → Nat) (p i : Nat) (c : List Nat) (f : Nat) : Prop := (T i ≠ 6 + p ∧ f = i) ∨ (T i = 6 + p ∧ ∃ s', SR T (i + 1) (s0 c) f s' ∧ bad s' (T f))
def qS (k : Nat) (I A I' A' : TI) : Prop := (∀ b g, b ≠ 55 → (b ≠ 23 + 4 * k ∨ g ≠ 4) → I' b g = I b g) ∧ ∀ b, b ≠ 24 + 4 * k → b ≠ 26 + 4 * k → A' b = A b
theorem qS_p {k : Nat} {I A I' A' : TI} (h : pS k I A I' A') : qS k I A I' A' := ⟨h.1, fun b h1 _ => h.2 b h1⟩
theorem qS_trans {k : Nat} {I A I1 A1 I2 A2 : TI} (h : qS k I A I1 A1) (g : qS k I1 A1 I2 A2) : qS k I A I2 A2 := ⟨fun b f x y => by rw [g.1 b f x y, h.1 b f x y], fun b x y => by rw [g.2 b x y, h.2 b x y]⟩
section RE
variable {T B : Nat → Nat} {cn n k : Nat} {V : TV} {L : Nat → Int64}
theorem RPc_Q {I A I' A' : TI} (h : RPc T B cn n k V I A) (s : qS k I A I' A') : RPc T B cn n k V I' A' := by
  obtain ⟨h1, h2, h3, h4, h5, h6⟩ := h
  exact ⟨h1, by rw [s.1 56 2 (by omega) (by omega)]; exact h2, fun i hi => by rw [s.2 57 (by omega) (by omega), s.2 58 (by omega) (by omega)]; exact h3 i hi, by rw [s.1 2 1 (by omega) (by omega)]; exact h4, h5, h6⟩
theorem S32 {I A : TI} (hk : k < 6) {m p : Nat} (hp : p < 3) (hm : I (23 + 4 * k) 4 = nI m) (d : Nat) (P : MP) : mRun (d + 1) 32 [.ref (23 + 4 * k), .int (nI p)] (mkH cSh I V L A) P = P none (mkH cSh I V L (upA A (26 + 4 * k) (upd (A (26 + 4 * k)) p (nI m)))) := by
  obtain ⟨t1, t2, t3, t4⟩ := c23 hk
  have e : 23 + 4 * k + 3 = 26 + 4 * k := by omega
  rw [e] at t4
  simp (disch := first | assumption | exact mnl_i | exact mnl_r | exact mnl_n | exact mnl_0 | omega) only [↓reduceIte, E32_0, E32_4, E32_13, E32_23, B32, kText, e, kA t4, nI_d, q_neg, q_ll, hp, pix_nI, hm]
theorem ROK_q {I A : TI} {i o : Nat} {c : List Nat} (h : ROK T k I A i c o) {f : Nat → Int32} : ROK T k I (upA A (26 + 4 * k) f) i c o := by
  obtain ⟨g1, g2, g3, g4, g5, g6⟩ := h
  exact ⟨g1, g2, g3, g4, g5, fun j hj => by rw [upA_n (by omega)]; exact g6 j hj⟩
theorem R_F {I A : TI} (hk : k < 6) (hv : V 55 1 = 23 + 4 * k) {p : Nat} (hp : p < 3) {fl : Nat} (h : RFL k I fl) (d : Nat) (l1 : Option Value) (hl1 : mnl l1 = true) (P : MP) (hP : ∀ I' A', qS k I A I' A' → RFL k I' fl → mFr (d + 80) 38 48 [some (.ref 55), l1, some (.int (nI (p + 1)))] [] (mkH cSh I' V L A') P) :
    mFr (d + 80) 38 53 [some (.ref 55), l1, some (.int (nI p))] [] (mkH cSh I V L A) P := by
  have ht1 := (c23 hk).1
  simp (disch := first | assumption | exact mnl_i | exact mnl_r | exact mnl_n | exact mnl_0 | omega) only [↓reduceIte, tolS, E38_53.1, E38_53.2.1, E38_53.2.2.1, E38_53.2.2.2.1, E38_53.2.2.2.2.1, cShG, show (6 : Int32) + nI p = nI (6 + p) from nI_add 6 p]
  refine S41_F hk h (by omega) (by omega) _ _ (fun I1 A1 s1 r1 => ?_)
  simp (disch := first | assumption | exact mnl_i | exact mnl_r | exact mnl_n | exact mnl_0 | omega) only [↓reduceIte, tolN, tolS, E38_53.2.2.2.2.2.1, E38_53.2.2.2.2.2.2.1, E38_53.2.2.2.2.2.2.2.1, cShG]
  refine F42_0 hk _ (by omega) I1 A1 fl _ r1 (fun I2 A2 s2 r2 => ?_)
  simp (disch := first | assumption | exact mnl_i | exact mnl_r | exact mnl_n | exact mnl_0 | omega) only [↓reduceIte, tolN, tolS, E38_53.2.2.2.2.2.2.2.2.1, E38_53.2.2.2.2.2.2.2.2.2.1, E38_53.2.2.2.2.2.2.2.2.2.2.1, cShG]
  refine S41_F hk r2 (due := 14) (by decide) (by decide) _ _ (fun I3 A3 s3 r3 => ?_)
  obtain ⟨g1, g2, g3, m, g4, g5⟩ := r3
  simp (disch := first | assumption | exact mnl_i | exact mnl_r | exact mnl_n | exact mnl_0 | omega) only [↓reduceIte, tolN, tolS, E38_53.2.2.2.2.2.2.2.2.2.2.2.1, E38_53.2.2.2.2.2.2.2.2.2.2.2.2.1, E38_53.2.2.2.2.2.2.2.2.2.2.2.2.2.1, E38_53.2.2.2.2.2.2.2.2.2.2.2.2.2.2.1, cShG, hv, kText, S32 hk hp g5]
  simp (disch := first | assumption | exact mnl_i | exact mnl_r | exact mnl_n | exact mnl_0 | omega) only [↓reduceIte, tolN, tolS, E38_53.2.2.2.2.2.2.2.2.2.2.2.2.2.2.2.1, E38_53.2.2.2.2.2.2.2.2.2.2.2.2.2.2.2.2, q_add]
  exact hP I3 _ (qS_trans (qS_p (pS_trans (pS_trans s1 s2) s3)) ⟨fun _ _ _ _ => rfl, fun b h1 h2 => upA_n h2⟩) ⟨g1, g2, g3, m, g4, g5⟩
theorem R_part {I A : TI} {p i : Nat} {c : List Nat} (hp : p < 3) (a1 : RPc T B cn n k V I A) (a2 : ROK T k I A i c 0) (a4 : c.length ≤ i) (a5 : i ≤ cn) (d : Nat) (l1 : Option Value) (hl1 : mnl l1 = true) (P : MP)
    (hok : ∀ I' A' i2 c2, qS k I A I' A' → ROK T k I' A' i2 c2 0 → PART T p i c i2 c2 → c2.length ≤ i2 → i2 ≤ cn → A' (26 + 4 * k) p = nI c2.length → (∀ q, q ≠ p → A' (26 + 4 * k) q = A (26 + 4 * k) q) → mFr (d + 80) 38 48 [some (.ref 55), l1, some (.int (nI (p + 1)))] [] (mkH cSh I' V L A') P)
    (hf : ∀ I' A' f, qS k I A I' A' → RFL k I' (B f) → PFAIL T p i c f → mFr (d + 80) 38 48 [some (.ref 55), l1, some (.int (nI (p + 1)))] [] (mkH cSh I' V L A') P) :
    mFr (d + 80) 38 53 [some (.ref 55), l1, some (.int (nI p))] [] (mkH cSh I V L A) P := by
  have hv := a1.1
  have hk := a1.2.2.2.2.1
  have hcn := a1.2.2.2.2.2
  have ht1 := (c23 hk).1
  have hi5 : i ≤ 500 := by have := hcn.1; omega
  have hc1 : c.length ≤ 160 := by have := hcn.1; omega
  have exitF : ∀ (I1 A1 : TI) (f : Nat), pS k I A I1 A1 → RFL k I1 (B f) → PFAIL T p i c f → mFr (d + 80) 38 61 [some (.ref 55), l1, some (.int (nI p))] [] (mkH cSh I1 V L A1) P := by
    intro I1 A1 f s1 r1 hfl
    simp (disch := first | assumption | exact mnl_i | exact mnl_r | exact mnl_n | exact mnl_0 | omega) only [↓reduceIte, tolN, tolS, E38_53.2.2.2.2.2.1, E38_53.2.2.2.2.2.2.1, E38_53.2.2.2.2.2.2.2.1, cShG]
    refine F42_0 hk _ (by omega) I1 A1 (B f) _ r1 (fun I2 A2 s2 r2 => ?_)
    simp (disch := first | assumption | exact mnl_i | exact mnl_r | exact mnl_n | exact mnl_0 | omega) only [↓reduceIte, tolN, tolS, E38_53.2.2.2.2.2.2.2.2.1, E38_53.2.2.2.2.2.2.2.2.2.1, E38_53.2.2.2.2.2.2.2.2.2.2.1, cShG]
    refine S41_F hk r2 (due := 14) (by decide) (by decide) _ _ (fun I3 A3 s3 r3 => ?_)
    obtain ⟨g1, g2, g3, m, g4, g5⟩ := r3
    simp (disch := first | assumption | exact mnl_i | exact mnl_r | exact mnl_n | exact mnl_0 | omega) only [↓reduceIte, tolN, tolS, E38_53.2.2.2.2.2.2.2.2.2.2.2.1, E38_53.2.2.2.2.2.2.2.2.2.2.2.2.1, E38_53.2.2.2.2.2.2.2.2.2.2.2.2.2.1, E38_53.2.2.2.2.2.2.2.2.2.2.2.2.2.2.1, cShG, hv, kText, S32 hk hp g5]
    simp (disch := first | assumption | exact mnl_i | exact mnl_r | exact mnl_n | exact mnl_0 | omega) only [↓reduceIte, tolN, tolS, E38_53.2.2.2.2.2.2.2.2.2.2.2.2.2.2.2.1, E38_53.2.2.2.2.2.2.2.2.2.2.2.2.2.2.2.2, q_add]
    exact hf I3 _ f (qS_trans (qS_p (pS_trans (pS_trans s1 s2) s3)) ⟨fun _ _ _ _ => rfl, fun b h1 h2 => upA_n h2⟩) ⟨g1, g2, g3, m, g4, g5⟩ hfl
  simp (disch := first | assumption | exact mnl_i | exact mnl_r | exact mnl_n | exact mnl_0 | omega) only [↓reduceIte, tolS, E38_53.1, E38_53.2.1, E38_53.2.2.1, E38_53.2.2.2.1, E38_53.2.2.2.2.1, cShG, show (6 : Int32) + nI p = nI (6 + p) from nI_add 6 p]
  by_cases cK : T i = 6 + p
  · have hlt : i < cn := by
      rcases Nat.lt_or_ge i cn with z | z
      · exact z
      · have := (hcn.2.2.1 i z).1; omega
    rw [← cK]
    refine S41_y a1 a2 hi5 _ _ (fun I1 A1 s1 r1 => ?_)
    simp (disch := first | assumption | exact mnl_i | exact mnl_r | exact mnl_n | exact mnl_0 | omega) only [↓reduceIte, tolN, tolS, E38_53.2.2.2.2.2.1, E38_53.2.2.2.2.2.2.1, E38_53.2.2.2.2.2.2.2.1, cShG]
    obtain ⟨_, _, hO⟩ := X_all (T := T) (B := B) (cn := cn) (n := n) (V := V) (L := L) hk 5 0 (by omega)
    refine hO (d + 80) (by omega) I1 A1 (i + 1) c [] false true _ (RPc_S a1 s1) r1 rfl (by show c.length + 0 ≤ i + 1; omega) (by omega) (by show 0 < 1; omega) (fun _ => ⟨rfl, rfl⟩) (fun z => by cases z) (fun I2 A2 i2 c2 e p2 cm2 st2 b1 b2 b3 b4 b5 b6 b7 b8 b9 => ?_) (fun I2 A2 f s' b1 b2 b3 b4 => ?_)
    · have s2 := pS_trans s1 b1
      have hp2 := RPc_S a1 s2
      have hle : i2 ≤ cn := SR_end (fun j hj => (hcn.2.2.1 j hj).1) b3 (by omega)
      have hsz := SR_sz b3
      have hl2 : (c ++ e).length ≤ i2 := by
        rw [b4]
        simp only [szS, List.length_append, List.length_nil] at hsz ⊢
        omega
      obtain ⟨z1, z2⟩ := lay_app (l := 1) (ws := []) (by show 0 < 1; omega) p2 b5
      simp (disch := first | assumption | exact mnl_i | exact mnl_r | exact mnl_n | exact mnl_0 | omega) only [↓reduceIte, tolN, tolS, E38_53.2.2.2.2.2.2.2.2.1, E38_53.2.2.2.2.2.2.2.2.2.1, E38_53.2.2.2.2.2.2.2.2.2.2.1, cShG]
      by_cases c14 : T i2 = 14
      · have hlt2 : i2 < cn := by
          rcases Nat.lt_or_ge i2 cn with z | z
          · exact z
          · have := (hcn.2.2.1 i2 z).1; omega
        have e14 : (14 : Int32) = nI (T i2) := by rw [c14]; rfl
        rw [e14]
        refine S41_y hp2 b2 (by have := hcn.1; omega) _ _ (fun I3 A3 s3 r3 => ?_)
        have g5 := r3.2.2.2.2.1
        simp (disch := first | assumption | exact mnl_i | exact mnl_r | exact mnl_n | exact mnl_0 | omega) only [↓reduceIte, tolN, tolS, E38_53.2.2.2.2.2.2.2.2.2.2.2.1, E38_53.2.2.2.2.2.2.2.2.2.2.2.2.1, E38_53.2.2.2.2.2.2.2.2.2.2.2.2.2.1, E38_53.2.2.2.2.2.2.2.2.2.2.2.2.2.2.1, cShG, hv, kText, S32 hk hp g5]
        simp (disch := first | assumption | exact mnl_i | exact mnl_r | exact mnl_n | exact mnl_0 | omega) only [↓reduceIte, tolN, tolS, E38_53.2.2.2.2.2.2.2.2.2.2.2.2.2.2.2.1, E38_53.2.2.2.2.2.2.2.2.2.2.2.2.2.2.2.2, q_add]
        refine hok I3 _ (i2 + 1) (c ++ e) (qS_trans (qS_p (pS_trans s2 s3)) ⟨fun _ _ _ _ => rfl, fun b h1 h2 => upA_n h2⟩) (ROK_q r3) ⟨cK, i2, _, e, b3, rfl, c14, z2, ?_, rfl, b6, rfl⟩ (by omega) (by omega) (by rw [upA_s, upd_s]) (fun q hq => ?_)
        · rw [b4]
          show c2 ++ layc 1 (p2 ++ []) = _
          rw [z1]
        · rw [upA_s, upd_n hq, (pS_trans s2 s3).2 _ (by omega)]
      · refine S41_n hp2 b2 (by have := hcn.1; omega) (by have := hcn.1; omega) (due := 14) (by decide) c14 _ _ (fun I3 A3 s3 r3 => ?_)
        obtain ⟨g1, g2, g3, m, g4, g5⟩ := r3
        simp (disch := first | assumption | exact mnl_i | exact mnl_r | exact mnl_n | exact mnl_0 | omega) only [↓reduceIte, tolN, tolS, E38_53.2.2.2.2.2.2.2.2.2.2.2.1, E38_53.2.2.2.2.2.2.2.2.2.2.2.2.1, E38_53.2.2.2.2.2.2.2.2.2.2.2.2.2.1, E38_53.2.2.2.2.2.2.2.2.2.2.2.2.2.2.1, cShG, hv, kText, S32 hk hp g5]
        simp (disch := first | assumption | exact mnl_i | exact mnl_r | exact mnl_n | exact mnl_0 | omega) only [↓reduceIte, tolN, tolS, E38_53.2.2.2.2.2.2.2.2.2.2.2.2.2.2.2.1, E38_53.2.2.2.2.2.2.2.2.2.2.2.2.2.2.2.2, q_add]
        refine hf I3 _ i2 (qS_trans (qS_p (pS_trans s2 s3)) ⟨fun _ _ _ _ => rfl, fun b h1 h2 => upA_n h2⟩) ⟨g1, g2, g3, m, g4, g5⟩ (Or.inr ⟨cK, _, b3, ?_, fun z => c14 z.2.1⟩)
        by_cases c13 : T i2 = 13
        · simp only [sstep, if_pos c13]
          rw [z2]
        · simp only [sstep, if_neg c13, if_pos (sgn_fol b7)]
    · simp (disch := first | assumption | exact mnl_i | exact mnl_r | exact mnl_n | exact mnl_0 | omega) only [↓reduceIte, tolN, tolS, E38_53.2.2.2.2.2.2.2.2.1, E38_53.2.2.2.2.2.2.2.2.2.1, E38_53.2.2.2.2.2.2.2.2.2.2.1, cShG]
      refine S41_F hk b2 (due := 14) (by decide) (by decide) _ _ (fun I3 A3 s3 r3 => ?_)
      obtain ⟨g1, g2, g3, m, g4, g5⟩ := r3
      simp (disch := first | assumption | exact mnl_i | exact mnl_r | exact mnl_n | exact mnl_0 | omega) only [↓reduceIte, tolN, tolS, E38_53.2.2.2.2.2.2.2.2.2.2.2.1, E38_53.2.2.2.2.2.2.2.2.2.2.2.2.1, E38_53.2.2.2.2.2.2.2.2.2.2.2.2.2.1, E38_53.2.2.2.2.2.2.2.2.2.2.2.2.2.2.1, cShG, hv, kText, S32 hk hp g5]
      simp (disch := first | assumption | exact mnl_i | exact mnl_r | exact mnl_n | exact mnl_0 | omega) only [↓reduceIte, tolN, tolS, E38_53.2.2.2.2.2.2.2.2.2.2.2.2.2.2.2.1, E38_53.2.2.2.2.2.2.2.2.2.2.2.2.2.2.2.2, q_add]
      exact hf I3 _ f (qS_trans (qS_p (pS_trans (pS_trans s1 b1) s3)) ⟨fun _ _ _ _ => rfl, fun b h1 h2 => upA_n h2⟩) ⟨g1, g2, g3, m, g4, g5⟩ (Or.inr ⟨cK, s', b3, b4⟩)
  · refine S41_n a1 a2 hi5 hc1 (due := 6 + p) (by omega) cK _ _ (fun I1 A1 s1 r1 => ?_)
    simp only [tolN]
    exact exitF I1 A1 i s1 r1 (Or.inl ⟨cK, rfl⟩)
end RE
