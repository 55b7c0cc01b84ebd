/-! the class reads a text: tokens T with their starts B, cn of them, behind them 20 at n; the text at t -/
def FTk (T B : Nat → Nat) (cn n : Nat) : Prop := cn ≤ 160 ∧ n ≤ 160 ∧ (∀ i, cn ≤ i → T i = 20 ∧ B i = n) ∧ (∀ i, T i ≤ 21 ∨ (100 ≤ T i ∧ T i < 10100)) ∧ ∀ i, B i ≤ 160
def RPc (T B : Nat → Nat) (cn n k : Nat) (V : TV) (I A : TI) : Prop := V 55 1 = 23 + 4 * k ∧ I 56 2 = nI cn ∧ (∀ i, i < cn → A 57 i = nI (T i) ∧ A 58 i = nI (B i)) ∧ I 2 1 = nI n ∧ k < 6 ∧ FTk T B cn n
def pS (k : Nat) (I A I' A' : TI) : Prop := (∀ b g, b ≠ 55 → (b ≠ 23 + 4 * k ∨ g ≠ 4) → I' b g = I b g) ∧ ∀ b, b ≠ 24 + 4 * k → A' b = A b
def ROK (T : Nat → Nat) (k : Nat) (I A : TI) (i : Nat) (c : List Nat) (o : Nat) : Prop := I 55 2 = nI i ∧ I 55 3 = nI (T i) ∧ I 55 4 = nI o ∧ I 55 5 = -1 ∧ I (23 + 4 * k) 4 = nI c.length ∧ ∀ j, j < c.length → A (24 + 4 * k) j = nI (c.getD j 0)
def RFL (k : Nat) (I : TI) (fl : Nat) : Prop := I 55 3 = nI 21 ∧ I 55 5 = nI fl ∧ fl ≤ 160 ∧ ∃ m, m ≤ 160 ∧ I (23 + 4 * k) 4 = nI m
theorem pS_refl {k : Nat} {I A : TI} : pS k I A I A := ⟨fun _ _ _ _ => rfl, fun _ _ => rfl⟩
theorem pS_trans {k : Nat} {I A I1 A1 I2 A2 : TI} (h : pS k I A I1 A1) (g : pS k I1 A1 I2 A2) : pS k I A I2 A2 := ⟨fun b f x y => by rw [g.1 b f x y, h.1 b f x y], fun b x => by rw [g.2 b x, h.2 b x]⟩
theorem nI_m1 {a : Nat} (h : a < 2 ^ 31) : ¬ nI a = -1 := by
  intro z
  have := congrArg Int32.toInt z
  rw [nI_toInt h] at this
  have e : (-1 : Int32).toInt = -1 := by decide
  omega
def jn (lv t : Nat) : Prop := (lv = 0 ∧ t = 9) ∨ (lv = 1 ∧ t = 10) ∨ (lv = 2 ∧ (t = 15 ∨ t = 16)) ∨ (lv = 3 ∧ t = 17)
section PS
variable {T B : Nat → Nat} {cn n k : Nat} {I A : TI} {V : TV} {L : Nat → Int64}
theorem RPc_S (h : RPc T B cn n k V I A) {I' A' : TI} (s : pS k I A I' A') : RPc T B cn n k V I' A' := by
  obtain ⟨h1, h2, h3, h4, h5, h6⟩ := h
  exact ⟨h1, by rw [s.1 56 2 (by omega) (by omega)]; exact h2, fun i hi => by rw [s.2 57 (by omega), s.2 58 (by omega)]; exact h3 i hi, by rw [s.1 2 1 (by omega) (by omega)]; exact h4, h5, h6⟩
theorem pS_55 {I' : TI} (h : ∀ b g, b ≠ 55 → I' b g = I b g) : pS k I A I' A := ⟨fun b g hb _ => h b g hb, fun _ _ => rfl⟩
theorem S49 (hp : RPc T B cn n k V I A) {i : Nat} (hi : i ≤ 1000) (d : Nat) (P : MP) : mRun (d + 1) 49 [.ref 56, .int (nI i)] (mkH cSh I V L A) P = P (some (.int (nI (T i)))) (mkH cSh I V L A) := by
  obtain ⟨h1, h2, h3, h4, h5, h6, h7, h8, h9, h10⟩ := hp
  by_cases c : i < cn
  · have c2 : i < 160 := by omega
    simp (disch := first | assumption | exact mnl_i | exact mnl_r | exact mnl_n | exact mnl_0 | omega) only [↓reduceIte, E49_0, E49_4, E49_12, E49_21, E49_30, E49_32, B49, cShG, cShR, q_neg, h2, q_ll, c, nI_d, c2, pix_nI, (h3 i c).1]
  · rw [(h8 i (by omega)).1]
    simp (disch := first | assumption | exact mnl_i | exact mnl_r | exact mnl_n | exact mnl_0 | omega) only [↓reduceIte, E49_0, E49_4, E49_12, E49_21, E49_30, E49_32, B49, cShG, cShR, q_neg, h2, q_ll, c]
    rfl
theorem S50 (hp : RPc T B cn n k V I A) {i : Nat} (hi : i ≤ 1000) (d : Nat) (P : MP) : mRun (d + 1) 50 [.ref 56, .int (nI i)] (mkH cSh I V L A) P = P (some (.int (nI (B i)))) (mkH cSh I V L A) := by
  obtain ⟨h1, h2, h3, h4, h5, h6, h7, h8, h9, h10⟩ := hp
  by_cases c : i < cn
  · have c2 : i < 160 := by omega
    simp (disch := first | assumption | exact mnl_i | exact mnl_r | exact mnl_n | exact mnl_0 | omega) only [↓reduceIte, E50_0, E50_4, E50_12, E50_21, E50_30, E50_37, B50, cShG, cShR, q_neg, h2, q_ll, c, nI_d, c2, pix_nI, (h3 i c).2]
  · rw [(h8 i (by omega)).2]
    simp (disch := first | assumption | exact mnl_i | exact mnl_r | exact mnl_n | exact mnl_0 | omega) only [↓reduceIte, E50_0, E50_4, E50_12, E50_21, E50_30, E50_37, B50, cShG, cShR, q_neg, h2, q_ll, c, h4]
theorem S39 (hp : RPc T B cn n k V I A) {i : Nat} (h2 : I 55 2 = nI i) (hi : i ≤ 500) (d : Nat) (P : MP)
    (hP : ∀ I', (∀ b g, b ≠ 55 → I' b g = I b g) → I' 55 2 = nI (i + 1) → I' 55 3 = nI (T (i + 1)) → I' 55 4 = I 55 4 → I' 55 5 = I 55 5 → P none (mkH cSh I' V L A)) : mRun (d + 2) 39 [.ref 55] (mkH cSh I V L A) P := by
  have hp1 : RPc T B cn n k V (up2 I 55 2 (nI (i + 1))) A := RPc_S hp (pS_55 (fun b g hb => up2_a hb))
  have hi1 : i + 1 ≤ 1000 := by omega
  simp (disch := first | assumption | exact mnl_i | exact mnl_r | exact mnl_n | exact mnl_0 | omega) only [↓reduceIte, tolS, E39_0, B39, cShG, cShP, h2, q_add, up2_s, S49 hp1]
  exact hP _ (fun b g hb => by rw [up2_a hb, up2_a hb]) (by rw [up2_f (by decide), up2_s]) (by rw [up2_s]) (by rw [up2_f (by decide), up2_f (by decide)]) (by rw [up2_f (by decide), up2_f (by decide)])
theorem S40_new (hp : RPc T B cn n k V I A) {i m : Nat} (h2 : I 55 2 = nI i) (h5 : I 55 5 = -1) (hm : I (23 + 4 * k) 4 = nI m) (hm1 : m ≤ 160) (hi : i ≤ 500) (d : Nat) (P : MP)
    (hP : ∀ I', (∀ b g, b ≠ 55 → I' b g = I b g) → RFL k I' (B i) → P none (mkH cSh I' V L A)) : mRun (d + 2) 40 [.ref 55] (mkH cSh I V L A) P := by
  have hi1 : i ≤ 1000 := by omega
  have hb := hp.2.2.2.2.2.2.2.2.2 i
  have hk := hp.2.2.2.2.1
  simp (disch := first | assumption | exact mnl_i | exact mnl_r | exact mnl_n | exact mnl_0 | omega) only [↓reduceIte, tolS, E40_0, E40_8, E40_23, B40, cShG, cShP, h2, h5, S50 hp]
  refine hP _ (fun b g hb => by rw [up2_a hb, up2_a hb]) ⟨by rw [up2_s]; rfl, by rw [up2_f (by decide), up2_s], hb, m, hm1, ?_⟩
  rw [up2_a (by omega), up2_a (by omega)]
  exact hm
theorem S40_old (hk : k < 6) {fl : Nat} (h : RFL k I fl) (d : Nat) (P : MP) (hP : ∀ I', (∀ b g, b ≠ 55 → I' b g = I b g) → RFL k I' fl → P none (mkH cSh I' V L A)) : mRun (d + 2) 40 [.ref 55] (mkH cSh I V L A) P := by
  obtain ⟨h3, h5, hf, m, hm, hm1⟩ := h
  have hne : ¬ nI fl = -1 := nI_m1 (by omega)
  simp (disch := first | assumption | exact mnl_i | exact mnl_r | exact mnl_n | exact mnl_0 | omega) only [↓reduceIte, tolS, E40_0, E40_8, E40_23, B40, cShG, cShP, h5, hne]
  refine hP _ (fun b g hb => by rw [up2_a hb]) ⟨by rw [up2_s]; rfl, by rw [up2_f (by decide)]; exact h5, hf, m, hm, ?_⟩
  rw [up2_a (by omega)]
  exact hm1
theorem S31 (hk : k < 6) {m : Nat} (hm : I (23 + 4 * k) 4 = nI m) (hm1 : m < 160) (d : Nat) (tok : Int32) (P : MP) : mRun (d + 1) 31 [.ref (23 + 4 * k), .int tok] (mkH cSh I V L A) P = P none (mkH cSh (up2 I (23 + 4 * k) 4 (nI (m + 1))) V L (upA A (24 + 4 * k) (upd (A (24 + 4 * k)) m tok))) := by
  obtain ⟨t1, t2, t3, t4⟩ := c23 hk
  have e : 23 + 4 * k + 1 = 24 + 4 * k := by omega
  rw [e] at t2
  simp (disch := first | assumption | exact mnl_i | exact mnl_r | exact mnl_n | exact mnl_0 | omega) only [↓reduceIte, E31_0, E31_12, E31_32, B31, kText, t1, hm, e, kA t2, nI_d, q_ll, hm1, pix_nI, q_add]
theorem S31_full (hk : k < 6) {m : Nat} (hm : I (23 + 4 * k) 4 = nI m) (hm1 : m = 160) (d : Nat) (tok : Int32) (P : MP) : mRun (d + 1) 31 [.ref (23 + 4 * k), .int tok] (mkH cSh I V L A) P = P none (mkH cSh I V L A) := by
  obtain ⟨t1, t2, t3, t4⟩ := c23 hk
  have e : 23 + 4 * k + 1 = 24 + 4 * k := by omega
  rw [e] at t2
  have hm2 : ¬ m < 160 := by omega
  have hm3 : m < 2 ^ 31 := by omega
  simp (disch := first | assumption | exact mnl_i | exact mnl_r | exact mnl_n | exact mnl_0 | omega) only [↓reduceIte, E31_0, E31_12, E31_32, B31, kText, t1, hm, e, kA t2, nI_d, q_ll, hm2]
theorem S31_ok (hk : k < 6) {i o : Nat} {c : List Nat} (h : ROK T k I A i c o) (hc : c.length < 160) (d tk : Nat) (P : MP) (hP : ∀ I' A', pS k I A I' A' → ROK T k I' A' i (c ++ [tk]) o → P none (mkH cSh I' V L A')) : mRun (d + 1) 31 [.ref (23 + 4 * k), .int (nI tk)] (mkH cSh I V L A) P := by
  obtain ⟨g1, g2, g3, g4, g5, g6⟩ := h
  rw [S31 hk g5 hc]
  have hne : 55 ≠ 23 + 4 * k := by omega
  refine hP _ _ ⟨fun b g hb hg => ?_, fun b hb => upA_n hb⟩ ⟨by rw [up2_a hne]; exact g1, by rw [up2_a hne]; exact g2, by rw [up2_a hne]; exact g3, by rw [up2_a hne]; exact g4, by rw [up2_s, List.length_append]; rfl, fun j hj => ?_⟩
  · rcases hg with hg | hg
    · exact up2_a hg
    · exact up2_f hg
  · rw [upA_s]
    rw [List.length_append] at hj
    by_cases e : j = c.length
    · subst e; rw [upd_s]; simp [List.getD_eq_getElem?_getD]
    · have hj2 : j < c.length := by simp at hj; omega
      rw [upd_n e, g6 j hj2]
      simp [List.getD_eq_getElem?_getD, List.getElem?_append_left hj2]
theorem S31_F (hk : k < 6) {fl : Nat} (h : RFL k I fl) (d : Nat) (tok : Int32) (P : MP) (hP : ∀ I' A', pS k I A I' A' → RFL k I' fl → P none (mkH cSh I' V L A')) : mRun (d + 1) 31 [.ref (23 + 4 * k), .int tok] (mkH cSh I V L A) P := by
  obtain ⟨h3, h5, hf, m, hm, hm1⟩ := h
  have hne : 55 ≠ 23 + 4 * k := by omega
  by_cases c : m < 160
  · rw [S31 hk hm1 c]
    refine hP _ _ ⟨fun b g hb hg => ?_, fun b hb => upA_n hb⟩ ⟨by rw [up2_a hne]; exact h3, by rw [up2_a hne]; exact h5, hf, m + 1, by omega, up2_s⟩
    rcases hg with hg | hg
    · exact up2_a hg
    · exact up2_f hg
  · rw [S31_full hk hm1 (by omega)]
    exact hP _ _ pS_refl ⟨h3, h5, hf, m, hm, hm1⟩
theorem S43_y {lv tk : Nat} (h3 : I 55 3 = nI tk) (hj : jn lv tk) (d : Nat) (P : MP) : mRun (d + 1) 43 [.ref 55, .int (nI lv)] (mkH cSh I V L A) P = P (some (.int 1)) (mkH cSh I V L A) := by
  rcases hj with ⟨rfl, rfl⟩ | ⟨rfl, rfl⟩ | ⟨rfl, rfl | rfl⟩ | ⟨rfl, rfl⟩
  all_goals simp (disch := first | assumption | exact mnl_i | exact mnl_r | exact mnl_n | exact mnl_0 | omega) only [↓reduceIte, E43_0, E43_28, E43_37, E43_41, E43_42, E43_43, E43_52, E43_56, E43_57, E43_58, E43_67, E43_76, E43_80, E43_81, E43_82, E43_91, E43_95, E43_96, B43, cShG, h3, q_eq, Nat.reduceEqDiff]
theorem S43_n {lv tk : Nat} (hlv : lv < 4) (h3 : I 55 3 = nI tk) (ht : tk < 2 ^ 31) (hj : ¬ jn lv tk) (d : Nat) (P : MP) : mRun (d + 1) 43 [.ref 55, .int (nI lv)] (mkH cSh I V L A) P = P (some (.int 0)) (mkH cSh I V L A) := by
  match lv, hlv, hj with
  | 0, _, hj =>
    have h : ¬ tk = 9 := fun z => hj (Or.inl ⟨rfl, z⟩)
    simp (disch := first | assumption | exact mnl_i | exact mnl_r | exact mnl_n | exact mnl_0 | omega) only [↓reduceIte, E43_0, E43_28, E43_37, E43_41, E43_42, E43_43, E43_52, E43_56, E43_57, E43_58, E43_67, E43_76, E43_80, E43_81, E43_82, E43_91, E43_95, E43_96, B43, cShG, h3, q_eq, Nat.reduceEqDiff, h]
  | 1, _, hj =>
    have h : ¬ tk = 10 := fun z => hj (Or.inr (Or.inl ⟨rfl, z⟩))
    simp (disch := first | assumption | exact mnl_i | exact mnl_r | exact mnl_n | exact mnl_0 | omega) only [↓reduceIte, E43_0, E43_28, E43_37, E43_41, E43_42, E43_43, E43_52, E43_56, E43_57, E43_58, E43_67, E43_76, E43_80, E43_81, E43_82, E43_91, E43_95, E43_96, B43, cShG, h3, q_eq, Nat.reduceEqDiff, h]
  | 2, _, hj =>
    have h : ¬ tk = 15 := fun z => hj (Or.inr (Or.inr (Or.inl ⟨rfl, Or.inl z⟩)))
    have h' : ¬ tk = 16 := fun z => hj (Or.inr (Or.inr (Or.inl ⟨rfl, Or.inr z⟩)))
    simp (disch := first | assumption | exact mnl_i | exact mnl_r | exact mnl_n | exact mnl_0 | omega) only [↓reduceIte, E43_0, E43_28, E43_37, E43_41, E43_42, E43_43, E43_52, E43_56, E43_57, E43_58, E43_67, E43_76, E43_80, E43_81, E43_82, E43_91, E43_95, E43_96, B43, cShG, h3, q_eq, Nat.reduceEqDiff, h, h']
  | 3, _, hj =>
    have h : ¬ tk = 17 := fun z => hj (Or.inr (Or.inr (Or.inr ⟨rfl, z⟩)))
    simp (disch := first | assumption | exact mnl_i | exact mnl_r | exact mnl_n | exact mnl_0 | omega) only [↓reduceIte, E43_0, E43_28, E43_37, E43_41, E43_42, E43_43, E43_52, E43_56, E43_57, E43_58, E43_67, E43_76, E43_80, E43_81, E43_82, E43_91, E43_95, E43_96, B43, cShG, h3, q_eq, Nat.reduceEqDiff, h]
theorem S47_y (hp : RPc T B cn n k V I A) {i o : Nat} {c : List Nat} (h : ROK T k I A i c o) (hi : i ≤ 500) (ho : o < 5) (d : Nat) (P : MP) (hP : ∀ I' A', pS k I A I' A' → ROK T k I' A' (i + 1) c (o + 1) → P (some (.int 1)) (mkH cSh I' V L A')) : mRun (d + 3) 47 [.ref 55] (mkH cSh I V L A) P := by
  obtain ⟨g1, g2, g3, g4, g5, g6⟩ := h
  have hk := hp.2.2.2.2.1
  have hp1 : RPc T B cn n k V (up2 I 55 4 (nI (o + 1))) A := RPc_S hp (pS_55 (fun b g hb => up2_a hb))
  have e2 : up2 I 55 4 (nI (o + 1)) 55 2 = nI i := by rw [up2_f (by decide)]; exact g1
  have ho2 : o < 2 ^ 31 := by omega
  simp (disch := first | assumption | exact mnl_i | exact mnl_r | exact mnl_n | exact mnl_0 | omega) only [↓reduceIte, tolS, E47_0, E47_14.1, E47_14.2.1, E47_14.2.2.1, E47_14.2.2.2.1, E47_14.2.2.2.2.1, E47_14.2.2.2.2.2.1, E47_14.2.2.2.2.2.2.1, E47_14.2.2.2.2.2.2.2.1, B47, cShG, cShP, g3, q_lt, ho, q_add]
  refine S39 hp1 e2 hi _ _ (fun I' q1 q2 q3 q4 q5 => ?_)
  simp (disch := first | assumption | exact mnl_i | exact mnl_r | exact mnl_n | exact mnl_0 | omega) only [↓reduceIte, tolN, E47_14.2.2.2.2.2.2.2.2.1, E47_14.2.2.2.2.2.2.2.2.2.1, E47_14.2.2.2.2.2.2.2.2.2.2.1, E47_14.2.2.2.2.2.2.2.2.2.2.2]
  refine hP I' A (pS_55 (fun b g hb => by rw [q1 b g hb, up2_a hb])) ⟨q2, q3, by rw [q4, up2_s], by rw [q5, up2_f (by decide)]; exact g4, ?_, g6⟩
  rw [q1 _ _ (by omega), up2_a (by omega)]
  exact g5
theorem S47_n (hp : RPc T B cn n k V I A) {i o : Nat} {c : List Nat} (h : ROK T k I A i c o) (hi : i ≤ 500) (hc : c.length ≤ 160) (ho : ¬ o < 5) (ho2 : o < 2 ^ 31) (d : Nat) (P : MP) (hP : ∀ I' A', pS k I A I' A' → RFL k I' (B i) → P (some (.int 0)) (mkH cSh I' V L A')) : mRun (d + 3) 47 [.ref 55] (mkH cSh I V L A) P := by
  obtain ⟨g1, g2, g3, g4, g5, g6⟩ := h
  simp (disch := first | assumption | exact mnl_i | exact mnl_r | exact mnl_n | exact mnl_0 | omega) only [↓reduceIte, tolS, E47_0, E47_8.1, E47_8.2.1, B47, cShG, cShP, g3, q_lt, ho]
  refine S40_new hp g1 g4 g5 hc hi _ _ (fun I' q1 q2 => ?_)
  simp (disch := first | assumption | exact mnl_i | exact mnl_r | exact mnl_n | exact mnl_0 | omega) only [↓reduceIte, tolN, E47_8.2.2.1, E47_8.2.2.2.1, E47_8.2.2.2.2.1, E47_8.2.2.2.2.2]
  exact hP I' A (pS_55 q1) q2
theorem S41_y (hp : RPc T B cn n k V I A) {i o : Nat} {c : List Nat} (h : ROK T k I A i c o) (hi : i ≤ 500) (d : Nat) (P : MP) (hP : ∀ I' A', pS k I A I' A' → ROK T k I' A' (i + 1) c o → P none (mkH cSh I' V L A')) : mRun (d + 3) 41 [.ref 55, .int (nI (T i))] (mkH cSh I V L A) P := by
  obtain ⟨g1, g2, g3, g4, g5, g6⟩ := h
  have hk := hp.2.2.2.2.1
  simp (disch := first | assumption | exact mnl_i | exact mnl_r | exact mnl_n | exact mnl_0 | omega) only [↓reduceIte, tolS, E41_0, E41_8.1, E41_8.2.1, B41, cShG, cShP, g2]
  refine S39 hp g1 hi _ _ (fun I' q1 q2 q3 q4 q5 => ?_)
  simp (disch := first | assumption | exact mnl_i | exact mnl_r | exact mnl_n | exact mnl_0 | omega) only [↓reduceIte, tolN, E41_8.2.2, E41_19]
  refine hP I' A (pS_55 q1) ⟨q2, q3, by rw [q4]; exact g3, by rw [q5]; exact g4, ?_, g6⟩
  rw [q1 _ _ (by omega)]
  exact g5
theorem S41_n (hp : RPc T B cn n k V I A) {i o : Nat} {c : List Nat} (h : ROK T k I A i c o) (hi : i ≤ 500) (hc : c.length ≤ 160) {due : Nat} (hd : due < 2 ^ 31) (hne : T i ≠ due) (d : Nat) (P : MP) (hP : ∀ I' A', pS k I A I' A' → RFL k I' (B i) → P none (mkH cSh I' V L A')) : mRun (d + 3) 41 [.ref 55, .int (nI due)] (mkH cSh I V L A) P := by
  obtain ⟨g1, g2, g3, g4, g5, g6⟩ := h
  have hT := hp.2.2.2.2.2.2.2.2.1 i
  have hT2 : T i < 2 ^ 31 := by omega
  have hne2 : ¬ T i = due := hne
  simp (disch := first | assumption | exact mnl_i | exact mnl_r | exact mnl_n | exact mnl_0 | omega) only [↓reduceIte, tolS, E41_0, E41_15.1, E41_15.2, B41, cShG, cShP, g2, q_ee, hne2]
  refine S40_new hp g1 g4 g5 hc hi _ _ (fun I' q1 q2 => ?_)
  simp (disch := first | assumption | exact mnl_i | exact mnl_r | exact mnl_n | exact mnl_0 | omega) only [↓reduceIte, tolN, E41_19]
  exact hP I' A (pS_55 q1) q2
theorem S41_F (hk : k < 6) {fl : Nat} (h : RFL k I fl) {due : Nat} (hd : due < 2 ^ 31) (hne : 21 ≠ due) (d : Nat) (P : MP) (hP : ∀ I' A', pS k I A I' A' → RFL k I' fl → P none (mkH cSh I' V L A')) : mRun (d + 3) 41 [.ref 55, .int (nI due)] (mkH cSh I V L A) P := by
  have g2 := h.1
  have hne2 : ¬ 21 = due := hne
  simp (disch := first | assumption | exact mnl_i | exact mnl_r | exact mnl_n | exact mnl_0 | omega) only [↓reduceIte, tolS, E41_0, E41_15.1, E41_15.2, B41, cShG, cShP, g2, q_ee, hne2]
  refine S40_old hk h _ _ (fun I' q1 q2 => ?_)
  simp (disch := first | assumption | exact mnl_i | exact mnl_r | exact mnl_n | exact mnl_0 | omega) only [↓reduceIte, tolN, E41_19]
  exact hP I' A (pS_55 q1) q2
end PS
