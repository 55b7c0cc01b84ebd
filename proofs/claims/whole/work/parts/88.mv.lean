/-! the reference: a text; both read alike -/
theorem SR_det {T : Nat → Nat} {i j k : Nat} {s s1 s2 : SYS} (h1 : SR T i s j s1) (h2 : SR T i s k s2) (n1 : sstep s1 (T j) = none) (n2 : sstep s2 (T k) = none) : j = k ∧ s1 = s2 := by
  obtain ⟨m, rfl, h1⟩ := h1
  obtain ⟨m', rfl, h2⟩ := h2
  have key : ∀ (a b : Nat) (t1 t2 : SYS), a < b → syN T a i s = some t1 → syN T b i s = some t2 → sstep t1 (T (i + a)) = none → False := by
    intro a b t1 t2 hab g1 g2 g3
    have := syN_add a (b - a) i s t1 g1
    rw [show a + (b - a) = b by omega, g2, show b - a = (b - a - 1) + 1 by omega] at this
    simp only [syN, g3] at this
    cases this
  rcases Nat.lt_trichotomy m m' with z | z | z
  · exact (key m m' s1 s2 z h1 h2 n1).elim
  · subst z
    rw [h1] at h2
    cases h2
    exact ⟨rfl, rfl⟩
  · exact (key m' m s2 s1 z h2 h1 n2).elim
theorem PART_det {T : Nat → Nat} {p i : Nat} {c : List Nat} {i2 i2' : Nat} {c2 c2' : List Nat} (h : PART T p i c i2 c2) (g : PART T p i c i2' c2') : i2 = i2' ∧ c2 = c2' := by
  obtain ⟨_, a, s, e, h1, h2, h3, h4, h5, _, _, h8⟩ := h
  obtain ⟨_, a', s', e', g1, g2, g3, g4, g5, _, _, g8⟩ := g
  obtain ⟨e1, e2⟩ := SR_det h1 g1 (sstep_no (by omega)) (sstep_no (by omega))
  subst e1; subst e2
  exact ⟨by omega, by rw [← h5, ← g5]⟩
theorem PART_fail {T : Nat → Nat} {p i f : Nat} {c : List Nat} {i2 : Nat} {c2 : List Nat} (h : PART T p i c i2 c2) (g : PFAIL T p i c f) : False := by
  obtain ⟨h0, a, s, e, h1, h2, h3, h4, h5, _, _, h8⟩ := h
  rcases g with ⟨g1, _⟩ | ⟨_, s', g1, g2, g3⟩
  · exact g1 h0
  · obtain ⟨e1, e2⟩ := SR_det h1 g1 (sstep_no (by omega)) g2
    subst e1; subst e2
    exact g3 ⟨h2, h3, h4⟩
theorem PFAIL_det {T : Nat → Nat} {p i f f' : Nat} {c : List Nat} (h : PFAIL T p i c f) (g : PFAIL T p i c f') : f = f' := by
  rcases h with ⟨h1, h2⟩ | ⟨h1, s, h2, h3⟩
  · rcases g with ⟨g1, g2⟩ | ⟨g1, _⟩
    · omega
    · exact absurd g1 h1
  · rcases g with ⟨g1, _⟩ | ⟨g1, s', g2, g3⟩
    · exact absurd h1 g1
    · exact (SR_det h2 g2 h3.1 g3.1).1
theorem TXok_det {T : Nat → Nat} {c1 c2 c3 d1 d2 d3 : List Nat} (h : TXok T c1 c2 c3) (g : TXok T d1 d2 d3) : c1 = d1 ∧ c2 = d2 ∧ c3 = d3 := by
  obtain ⟨i1, i2, i3, h1, h2, h3, h4⟩ := h
  obtain ⟨j1, j2, j3, g1, g2, g3, g4⟩ := g
  obtain ⟨e1, f1⟩ := PART_det h1 g1
  subst e1; subst f1
  obtain ⟨e2, f2⟩ := PART_det h2 g2
  subst e2; subst f2
  exact ⟨rfl, rfl, (PART_det h3 g3).2⟩
theorem TXok_no {T : Nat → Nat} {c1 c2 c3 : List Nat} {f : Nat} (h : TXok T c1 c2 c3) (g : TXno T f) : False := by
  obtain ⟨i1, i2, i3, h1, h2, h3, h4⟩ := h
  rcases g with g | ⟨j1, d1, g1, g | ⟨j2, d2, g2, g | ⟨j3, d3, g3, g4, _⟩⟩⟩
  · exact PART_fail h1 g
  · obtain ⟨e1, f1⟩ := PART_det h1 g1
    subst e1; subst f1
    exact PART_fail h2 g
  · obtain ⟨e1, f1⟩ := PART_det h1 g1
    subst e1; subst f1
    obtain ⟨e2, f2⟩ := PART_det h2 g2
    subst e2; subst f2
    exact PART_fail h3 g
  · obtain ⟨e1, f1⟩ := PART_det h1 g1
    subst e1; subst f1
    obtain ⟨e2, f2⟩ := PART_det h2 g2
    subst e2; subst f2
    obtain ⟨e3, f3⟩ := PART_det h3 g3
    subst e3
    exact g4 h4
theorem TXno_det {T : Nat → Nat} {f f' : Nat} (h : TXno T f) (g : TXno T f') : f = f' := by
  rcases h with h | ⟨i1, c1, h1, h | ⟨i2, c2, h2, h | ⟨i3, c3, h3, h4, h5⟩⟩⟩
  · rcases g with g | ⟨j1, d1, g1, _⟩
    · exact PFAIL_det h g
    · exact (PART_fail g1 h).elim
  · rcases g with g | ⟨j1, d1, g1, g⟩
    · exact (PART_fail h1 g).elim
    · obtain ⟨e1, f1⟩ := PART_det h1 g1
      subst e1; subst f1
      rcases g with g | ⟨j2, d2, g2, _⟩
      · exact PFAIL_det h g
      · exact (PART_fail g2 h).elim
  · rcases g with g | ⟨j1, d1, g1, g⟩
    · exact (PART_fail h1 g).elim
    · obtain ⟨e1, f1⟩ := PART_det h1 g1
      subst e1; subst f1
      rcases g with g | ⟨j2, d2, g2, g⟩
      · exact (PART_fail h2 g).elim
      · obtain ⟨e2, f2⟩ := PART_det h2 g2
        subst e2; subst f2
        rcases g with g | ⟨j3, d3, g3, _⟩
        · exact PFAIL_det h g
        · exact (PART_fail g3 h).elim
  · rcases g with g | ⟨j1, d1, g1, g⟩
    · exact (PART_fail h1 g).elim
    · obtain ⟨e1, f1⟩ := PART_det h1 g1
      subst e1; subst f1
      rcases g with g | ⟨j2, d2, g2, g⟩
      · exact (PART_fail h2 g).elim
      · obtain ⟨e2, f2⟩ := PART_det h2 g2
        subst e2; subst f2
        rcases g with g | ⟨j3, d3, g3, g4, g5⟩
        · exact (PART_fail h3 g).elim
        · obtain ⟨e3, f3⟩ := PART_det h3 g3
          omega
section MV
variable {n base : Nat} {b : Nat → Nat} {I A : TI} {V : TV} {L : Nat → Int64}
/-- what text() writes in the reference -/
def txS (base nt : Nat) (I A I' A' : TI) : Prop := (∀ f, f ≠ 10 → f ≠ 12 → (f < 16 ∨ 27 < f) → I' 0 f = I 0 f) ∧ (∀ b, b ≠ 9 → b ≠ 10 → b ≠ 11 → b ≠ 12 → A' b = A b) ∧ (∀ j, j < base → A' 11 j = A 11 j) ∧ ∀ j, j < 3 * nt → A' 9 j = A 9 j ∧ A' 10 j = A 10 j
theorem M142 {nt : Nat} (h12 : I 0 12 = nI nt) (hnt : nt < 6) (h16 : I 0 16 = nI base) (hb : base ≤ 160 * nt) (hT : MTP I A n b) (H : (∃ c1 c2 c3, TXok (lexT n b) c1 c2 c3) ∨ ∃ f, TXno (lexT n b) f) (d : Nat) (P : MP)
    (hy : ∀ I' A' L' c1 c2 c3, TXok (lexT n b) c1 c2 c3 → txS base nt I A I' A' → I' 0 10 = 0 → I' 0 12 = nI (nt + 1) → I' 0 16 = nI (base + c3.length) → (∀ j, j < c3.length → A' 11 (base + j) = trT (nI (c3.getD j 0))) → A' 9 (3 * nt) = nI base → A' 10 (3 * nt) = nI c1.length → A' 9 (3 * nt + 1) = nI (base + c1.length) → A' 10 (3 * nt + 1) = nI (c2.length - c1.length) → A' 9 (3 * nt + 2) = nI (base + c2.length) → A' 10 (3 * nt + 2) = nI (c3.length - c2.length) → P (some (.int (nI nt))) (mkH dSh I' V L' A'))
    (hn : ∀ I' A' L' f, TXno (lexT n b) f → txS base nt I A I' A' → I' 0 10 = 0 → I' 0 12 = nI nt → I' 0 16 = nI base → P (some (.int (-100 - nI (lexB n b f)))) (mkH dSh I' V L' A')) : mRun (d + 7) 142 [.ref 0] (mkH dSh I V L A) P := by
  have hn160 := hT.2.1
  have c6 : ¬ nt = 6 := by omega
  have k0 : ∀ i1 c1, PART (lexT n b) 0 0 [] i1 c1 → (∃ i2 c2, PART (lexT n b) 1 i1 c1 i2 c2) ∨ ∃ f, PFAIL (lexT n b) 1 i1 c1 f := by
    intro i1 c1 h1
    rcases H with ⟨d1, d2, d3, j1, j2, j3, g1, g2, g3, g4⟩ | ⟨f, g | ⟨j1, d1, g1, g | ⟨j2, d2, g2, _⟩⟩⟩
    · obtain ⟨e1, f1⟩ := PART_det h1 g1
      subst e1; subst f1
      exact Or.inl ⟨_, _, g2⟩
    · exact (PART_fail h1 g).elim
    · obtain ⟨e1, f1⟩ := PART_det h1 g1
      subst e1; subst f1
      exact Or.inr ⟨_, g⟩
    · obtain ⟨e1, f1⟩ := PART_det h1 g1
      subst e1; subst f1
      exact Or.inl ⟨_, _, g2⟩
  have k1 : ∀ i1 c1 i2 c2, PART (lexT n b) 0 0 [] i1 c1 → PART (lexT n b) 1 i1 c1 i2 c2 → (∃ i3 c3, PART (lexT n b) 2 i2 c2 i3 c3) ∨ ∃ f, PFAIL (lexT n b) 2 i2 c2 f := by
    intro i1 c1 i2 c2 h1 h2
    rcases H with ⟨d1, d2, d3, j1, j2, j3, g1, g2, g3, g4⟩ | ⟨f, g | ⟨j1, d1, g1, g | ⟨j2, d2, g2, g | ⟨j3, d3, g3, _⟩⟩⟩⟩
    · obtain ⟨e1, f1⟩ := PART_det h1 g1
      subst e1; subst f1
      obtain ⟨e2, f2⟩ := PART_det h2 g2
      subst e2; subst f2
      exact Or.inl ⟨_, _, g3⟩
    · exact (PART_fail h1 g).elim
    · obtain ⟨e1, f1⟩ := PART_det h1 g1
      subst e1; subst f1
      exact (PART_fail h2 g).elim
    · obtain ⟨e1, f1⟩ := PART_det h1 g1
      subst e1; subst f1
      obtain ⟨e2, f2⟩ := PART_det h2 g2
      subst e2; subst f2
      exact Or.inr ⟨_, g⟩
    · obtain ⟨e1, f1⟩ := PART_det h1 g1
      subst e1; subst f1
      obtain ⟨e2, f2⟩ := PART_det h2 g2
      subst e2; subst f2
      exact Or.inl ⟨_, _, g3⟩
  have k00 : (∃ i1 c1, PART (lexT n b) 0 0 [] i1 c1) ∨ ∃ f, PFAIL (lexT n b) 0 0 [] f := by
    rcases H with ⟨d1, d2, d3, j1, j2, j3, g1, g2, g3, g4⟩ | ⟨f, g | ⟨j1, d1, g1, g⟩⟩
    · exact Or.inl ⟨_, _, g1⟩
    · exact Or.inr ⟨_, g⟩
    · exact Or.inl ⟨_, _, g1⟩
  simp (disch := first | assumption | exact mnl_i | exact mnl_r | exact mnl_n | exact mnl_0 | omega) only [↓reduceIte, tolS, E142_0, E142_12.1, E142_12.2.1, E142_12.2.2.1, E142_12.2.2.2.1, E142_12.2.2.2.2.1, E142_12.2.2.2.2.2.1, E142_12.2.2.2.2.2.2.1, E142_12.2.2.2.2.2.2.2.1, B142, dShG, dShP, h12, q_eq, c6, h16]
  have hT1 : MTP (up2 I 0 18 0) A n b := ⟨by rw [up2_f (by decide)]; exact hT.1, hT.2⟩
  refine M131 hT1 (j := 0) (by omega) (by rw [up2_s]; rfl) _ _ (fun I1 L1 q1 q2 q3 q4 => ?_)
  have hTo1 : MTo n b I1 L1 0 := ⟨q2, q3, q4⟩
  have f1 : ∀ f, f ≠ 17 → f ≠ 18 → f ≠ 19 → f ≠ 20 → I1 0 f = I 0 f := fun f a1 a2 a3 a4 => by rw [q1 f a1 a2 a3 a4, up2_f a2]
  have hT2 : MTP I1 A n b := MTP_nx hT1 q1
  have h16a : I1 0 16 = nI base := by rw [f1 16 (by omega) (by omega) (by omega) (by omega)]; exact h16
  have h12a : I1 0 12 = nI nt := by rw [f1 12 (by omega) (by omega) (by omega) (by omega)]; exact h12
  have fail : ∀ (I2 A2 : TI) (L2 : Nat → Int64) (f : Nat), (∀ f, f < 16 ∨ 27 < f → I2 0 f = I1 0 f) → (∀ b, b ≠ 9 → b ≠ 10 → b ≠ 11 → b ≠ 12 → A2 b = A b) → (∀ j, j < base → A2 11 j = A 11 j) → (∀ j, j < 3 * nt → A2 9 j = A 9 j ∧ A2 10 j = A 10 j) → I2 0 17 = nI (lexB n b f) → TXno (lexT n b) f → mFr (d + 6) 142 91 [some (.ref 0), some (.int (nI base)), none] [] (mkH dSh I2 V L2 A2) P := by
    intro I2 A2 L2 f g1 g2 g3 g4 g5 g6
    simp (disch := first | assumption | exact mnl_i | exact mnl_r | exact mnl_n | exact mnl_0 | omega) only [↓reduceIte, tolS, E142_91, E142_92, E142_114, dShG, dShP, up2_f, g5]
    refine hn _ A2 L2 f g6 ⟨fun f' a1 a2 a3 => ?_, g2, g3, g4⟩ ?_ ?_ up2_s
    · rw [up2_f (by omega), up2_f a1, g1 f' a3, f1 f' (by omega) (by omega) (by omega) (by omega)]
    · rw [up2_f (by decide), up2_s]
    · rw [up2_f (by decide), up2_f (by decide), g1 12 (by omega)]; exact h12a
  have e3 : (3 : Int32) * nI nt = nI (3 * nt) := q_mul.2.2.1 nt
  simp (disch := first | assumption | exact mnl_i | exact mnl_r | exact mnl_n | exact mnl_0 | omega) only [↓reduceIte, tolN, tolS, E142_12.2.2.2.2.2.2.2.2.1, E142_12.2.2.2.2.2.2.2.2.2.1, E142_12.2.2.2.2.2.2.2.2.2.2.1, E142_12.2.2.2.2.2.2.2.2.2.2.2.1, E142_12.2.2.2.2.2.2.2.2.2.2.2.2.1, E142_12.2.2.2.2.2.2.2.2.2.2.2.2.2.1, E142_12.2.2.2.2.2.2.2.2.2.2.2.2.2.2.1, dShG, dShP, h12a, e3]
  refine M141 (p := 0) (i := 0) (c := []) (pi := 3 * nt) (base := base) (by omega) (by omega) (by omega) hT2 hTo1 ⟨by rw [h16a]; rfl, fun j hj => absurd hj (Nat.not_lt_zero _)⟩ (Nat.zero_le _) (Nat.zero_le _) rfl d _ (fun I2 A2 L2 i1 c1 p0 s2 t2 o2 cd2 l2 m2 r9 r10 => ?_) (fun I2 A2 L2 f p0 s2 g17 => ?_) k00
  · have h12b : I2 0 12 = nI nt := by rw [s2.1 12 (by omega)]; exact h12a
    simp (disch := first | assumption | exact mnl_i | exact mnl_r | exact mnl_n | exact mnl_0 | omega) only [↓reduceIte, tolN, tolS, E142_12.2.2.2.2.2.2.2.2.2.2.2.2.2.2.2, E142_42.1, E142_42.2.1, E142_42.2.2.1, E142_42.2.2.2.1, E142_42.2.2.2.2.1, E142_42.2.2.2.2.2.1, E142_42.2.2.2.2.2.2.1, E142_42.2.2.2.2.2.2.2.1, E142_42.2.2.2.2.2.2.2.2.1, dShG, dShP, h12b, e3, show ¬ (1 : Int32) = 0 by decide, q_add]
    refine M141 (p := 1) (i := i1) (c := c1) (pi := 3 * nt + 1) (base := base) (by omega) (by omega) (by omega) t2 o2 cd2 l2 m2 rfl d _ (fun I3 A3 L3 i2 c2 p1 s3 t3 o3 cd3 l3 m3 u9 u10 => ?_) (fun I3 A3 L3 f p1 s3 g17 => ?_) (k0 i1 c1 p0)
    · have h12c : I3 0 12 = nI nt := by rw [s3.1 12 (by omega)]; exact h12b
      simp (disch := first | assumption | exact mnl_i | exact mnl_r | exact mnl_n | exact mnl_0 | omega) only [↓reduceIte, tolN, tolS, E142_42.2.2.2.2.2.2.2.2.2, E142_60.1, E142_60.2.1, E142_60.2.2.1, E142_60.2.2.2.1, E142_60.2.2.2.2.1, E142_60.2.2.2.2.2.1, E142_60.2.2.2.2.2.2.1, E142_60.2.2.2.2.2.2.2.1, E142_60.2.2.2.2.2.2.2.2.1, dShG, dShP, h12c, e3, show ¬ (1 : Int32) = 0 by decide, q_add]
      refine M141 (p := 2) (i := i2) (c := c2) (pi := 3 * nt + 2) (base := base) (by omega) (by omega) (by omega) t3 o3 cd3 l3 m3 rfl d _ (fun I4 A4 L4 i3 c3 p2 s4 t4 o4 cd4 l4 m4 v9 v10 => ?_) (fun I4 A4 L4 f p2 s4 g17 => ?_) (k1 i1 c1 i2 c2 p0 p1)
      · have h12d : I4 0 12 = nI nt := by rw [s4.1 12 (by omega)]; exact h12c
        have hfr : ∀ f, f < 16 ∨ 27 < f → I4 0 f = I1 0 f := fun f hf => by rw [s4.1 f hf, s3.1 f hf, s2.1 f hf]
        have hrw : ∀ b', b' ≠ 9 → b' ≠ 10 → b' ≠ 11 → b' ≠ 12 → A4 b' = A b' := fun b' a1 a2 a3 a4 => by rw [s4.2.1 b' a1 a2 a3 a4, s3.2.1 b' a1 a2 a3 a4, s2.2.1 b' a1 a2 a3 a4]
        have hcd : ∀ j, j < base → A4 11 j = A 11 j := fun j hj => by rw [s4.2.2.1 j hj, s3.2.2.1 j hj, s2.2.2.1 j hj]
        have hbg : ∀ j, j < 3 * nt → A4 9 j = A 9 j ∧ A4 10 j = A 10 j := fun j hj => ⟨by rw [(s4.2.2.2 j (by omega)).1, (s3.2.2.2 j (by omega)).1, (s2.2.2.2 j (by omega)).1], by rw [(s4.2.2.2 j (by omega)).2, (s3.2.2.2 j (by omega)).2, (s2.2.2.2 j (by omega)).2]⟩
        have s101 := (mtk_s o4.2.2).2.2.2.2.1
        by_cases c20 : lexT n b i3 = 20
        · have e101 : I4 0 19 = 101 := s101.mpr c20
          have h12e : up2 I4 0 10 0 0 12 = nI nt := by rw [up2_f (by decide)]; exact h12d
          simp (disch := first | assumption | exact mnl_i | exact mnl_r | exact mnl_n | exact mnl_0 | omega) only [↓reduceIte, tolN, tolS, E142_60.2.2.2.2.2.2.2.2.2, E142_78, E142_87, E142_92, E142_102, dShG, dShP, e101, h12e, show ¬ (1 : Int32) = 0 by decide, q_add]
          refine hy _ A4 L4 c1 c2 c3 ⟨i1, i2, i3, p0, p1, p2, c20⟩ ⟨fun f' a1 a2 a3 => ?_, hrw, hcd, hbg⟩ (by rw [up2_f (by decide), up2_s]) up2_s (by rw [up2_f (by decide), up2_f (by decide)]; exact cd4.1) cd4.2 ?_ ?_ ?_ ?_ v9 v10
          · rw [up2_f a2, up2_f a1, hfr f' a3, f1 f' (by omega) (by omega) (by omega) (by omega)]
          · rw [(s4.2.2.2 _ (by omega)).1, (s3.2.2.2 _ (by omega)).1]; exact r9
          · rw [(s4.2.2.2 _ (by omega)).2, (s3.2.2.2 _ (by omega)).2]; exact r10
          · rw [(s4.2.2.2 _ (by omega)).1]; exact u9
          · rw [(s4.2.2.2 _ (by omega)).2]; exact u10
        · have e101 : ¬ I4 0 19 = 101 := fun z => c20 (s101.mp z)
          simp (disch := first | assumption | exact mnl_i | exact mnl_r | exact mnl_n | exact mnl_0 | omega) only [↓reduceIte, tolN, tolS, E142_60.2.2.2.2.2.2.2.2.2, E142_78, dShG, dShP, e101, show ¬ (1 : Int32) = 0 by decide]
          exact fail I4 A4 L4 i3 hfr hrw hcd hbg o4.1 (Or.inr ⟨i1, c1, p0, Or.inr ⟨i2, c2, p1, Or.inr ⟨i3, c3, p2, c20, rfl⟩⟩⟩)
      · simp (disch := first | assumption | exact mnl_i | exact mnl_r | exact mnl_n | exact mnl_0 | omega) only [↓reduceIte, tolN, tolS, E142_60.2.2.2.2.2.2.2.2.2]
        exact fail I4 A4 L4 f (fun f hf => by rw [s4.1 f hf, s3.1 f hf, s2.1 f hf]) (fun b' a1 a2 a3 a4 => by rw [s4.2.1 b' a1 a2 a3 a4, s3.2.1 b' a1 a2 a3 a4, s2.2.1 b' a1 a2 a3 a4]) (fun j hj => by rw [s4.2.2.1 j hj, s3.2.2.1 j hj, s2.2.2.1 j hj]) (fun j hj => ⟨by rw [(s4.2.2.2 j (by omega)).1, (s3.2.2.2 j (by omega)).1, (s2.2.2.2 j (by omega)).1], by rw [(s4.2.2.2 j (by omega)).2, (s3.2.2.2 j (by omega)).2, (s2.2.2.2 j (by omega)).2]⟩) g17 (Or.inr ⟨i1, c1, p0, Or.inr ⟨i2, c2, p1, Or.inl p2⟩⟩)
    · simp (disch := first | assumption | exact mnl_i | exact mnl_r | exact mnl_n | exact mnl_0 | omega) only [↓reduceIte, tolN, tolS, E142_42.2.2.2.2.2.2.2.2.2]
      exact fail I3 A3 L3 f (fun f hf => by rw [s3.1 f hf, s2.1 f hf]) (fun b' a1 a2 a3 a4 => by rw [s3.2.1 b' a1 a2 a3 a4, s2.2.1 b' a1 a2 a3 a4]) (fun j hj => by rw [s3.2.2.1 j hj, s2.2.2.1 j hj]) (fun j hj => ⟨by rw [(s3.2.2.2 j (by omega)).1, (s2.2.2.2 j (by omega)).1], by rw [(s3.2.2.2 j (by omega)).2, (s2.2.2.2 j (by omega)).2]⟩) g17 (Or.inr ⟨i1, c1, p0, Or.inl p1⟩)
  · simp (disch := first | assumption | exact mnl_i | exact mnl_r | exact mnl_n | exact mnl_0 | omega) only [↓reduceIte, tolN, tolS, E142_12.2.2.2.2.2.2.2.2.2.2.2.2.2.2.2]
    exact fail I2 A2 L2 f s2.1 s2.2.1 s2.2.2.1 (fun j hj => s2.2.2.2 j (by omega)) g17 (Or.inl p0)
end MV
