/-! the reference: a part; a text -/
section MT
variable {n base : Nat} {b : Nat → Nat} {I A : TI} {V : TV} {L : Nat → Int64}
theorem M131n {i : Nat} (hT : MTP I A n b) (hTo : MTo n b I L i) (d : Nat) (P : MP) (hP : ∀ I' L', nxS I I' → MTo n b I' L' (i + 1) → P none (mkH dSh I' V L' A)) : mRun (d + 2) 131 [.ref 0] (mkH dSh I V L A) P :=
  M131 hT (lexP_le (i + 1)) hTo.2.1 d P (fun I' L' q1 q2 q3 q4 => hP I' L' q1 ⟨q2, q3, q4⟩)
theorem M132_y {i w : Nat} (hT : MTP I A n b) (hTo : MTo n b I L i) (hw : w ≤ 11) (hi : lexT n b i = w) {key : Int64} (hk : key = Int64.ofNat (CWn.getD w 0)) (d : Nat) (P : MP) (hP : ∀ I' L', nxS I I' → MTo n b I' L' (i + 1) → P (some (.int 1)) (mkH dSh I' V L' A)) : mRun (d + 3) 132 [.ref 0, .long key] (mkH dSh I V L A) P := by
  have hm := hTo.2.2
  have e19 : I 0 19 = 119 := (mtk_s hm).2.2.2.2.2.2.2.2.2.mpr (by omega)
  have hwd := mtk_w hm (by omega)
  have ew : L 0 = key := by rw [hk, hwd.2 w (by omega)]; exact hi
  simp (disch := first | assumption | exact mnl_i | exact mnl_r | exact mnl_n | exact mnl_0 | omega) only [↓reduceIte, tolS, E132_0, E132_9, E132_20.1, E132_20.2.1, B132, dShG, e19, lcmp0, ew]
  refine M131n hT hTo _ _ (fun I1 L1 q1 q2 => ?_)
  simp (disch := first | assumption | exact mnl_i | exact mnl_r | exact mnl_n | exact mnl_0 | omega) only [↓reduceIte, tolN, tolS, E132_20.2.2.1, E132_20.2.2.2.1, E132_20.2.2.2.2.1, E132_20.2.2.2.2.2]
  exact hP I1 L1 q1 q2
theorem M132_n {i w : Nat} (hTo : MTo n b I L i) (hw : w ≤ 11) (hi : lexT n b i ≠ w) {key : Int64} (hk : key = Int64.ofNat (CWn.getD w 0)) (d : Nat) (P : MP) (hP : P (some (.int 0)) (mkH dSh I V L A)) : mRun (d + 3) 132 [.ref 0, .long key] (mkH dSh I V L A) P := by
  have hm := hTo.2.2
  by_cases c : lexT n b i ≤ 11
  · have e19 : I 0 19 = 119 := (mtk_s hm).2.2.2.2.2.2.2.2.2.mpr c
    have hwd := mtk_w hm c
    have ew : ¬ L 0 = key := by rw [hk, hwd.2 w (by omega)]; exact hi
    simp (disch := first | assumption | exact mnl_i | exact mnl_r | exact mnl_n | exact mnl_0 | omega) only [↓reduceIte, tolS, E132_0, E132_9, E132_18, B132, dShG, e19, lcmp0, ew]
    exact hP
  · have e19 : ¬ I 0 19 = 119 := fun z => c ((mtk_s hm).2.2.2.2.2.2.2.2.2.mp z)
    simp (disch := first | assumption | exact mnl_i | exact mnl_r | exact mnl_n | exact mnl_0 | omega) only [↓reduceIte, tolS, E132_0, E132_18, B132, dShG, e19]
    exact hP
theorem MPS_nx {i : Nat} {s : SYS} {I' A' : TI} {L' : Nat → Int64} (h : MPS n b base I' A' L i s) {I2 : TI} (q1 : nxS I' I2) (q2 : MTo n b I2 L' (i + 1)) : MPS n b base I2 A' L' (i + 1) s := by
  obtain ⟨h1, h2, h3, h4, h5, h6⟩ := h
  have fk : ∀ f, f ≠ 17 → f ≠ 18 → f ≠ 19 → f ≠ 20 → I2 0 f = I' 0 f := q1
  exact ⟨MTP_nx h1 q1, q2, ⟨by rw [fk 16 (by omega) (by omega) (by omega) (by omega)]; exact h3.1, h3.2⟩, ⟨by rw [fk 23 (by omega) (by omega) (by omega) (by omega)]; exact h4.1, h4.2.1, by rw [fk 24 (by omega) (by omega) (by omega) (by omega)]; exact h4.2.2.1, h4.2.2.2⟩, ⟨by rw [fk 25 (by omega) (by omega) (by omega) (by omega)]; exact h5.1, by rw [fk 26 (by omega) (by omega) (by omega) (by omega)]; exact h5.2.1, by rw [fk 27 (by omega) (by omega) (by omega) (by omega)]; exact h5.2.2⟩, h6⟩
/-- what a part may write -/
def ptS (base pi : Nat) (I A I' A' : TI) : Prop := (∀ f, f < 16 ∨ 27 < f → I' 0 f = I 0 f) ∧ (∀ b, b ≠ 9 → b ≠ 10 → b ≠ 11 → b ≠ 12 → A' b = A b) ∧ (∀ j, j < base → A' 11 j = A 11 j) ∧ ∀ j, j ≠ pi → A' 9 j = A 9 j ∧ A' 10 j = A 10 j
theorem M141_run (hb : base ≤ 2800) {s' : SYS} {I0 A0 : TI} (l1 l2 : Option Value) (l3 : Option Value) (d : Nat) (P : MP) : ∀ (m i : Nat) (s : SYS) (I A : TI) (L : Nat → Int64), syN (lexT n b) m i s = some s' → MPS n b base I A L i s → szS s ≤ i → i ≤ n → mpS base I0 A0 I A →
    (∀ I' A' L', mpS base I0 A0 I' A' → MPS n b base I' A' L' (i + m) s' → mFr (d + 5) 141 45 [some (.ref 0), l1, l2, l3] [] (mkH dSh I' V L' A') P) →
    mFr (d + 5) 141 45 [some (.ref 0), l1, l2, l3] [] (mkH dSh I V L A) P := by
  intro m
  induction m with
  | zero => intro i s I A L h1 h2 _ _ h3 hP; cases h1; exact hP I A L h3 h2
  | succ m ih =>
    intro i s I A L h1 h2 h3 h4 h5 hP
    have hn := h2.1.2.1
    simp only [syN] at h1
    split at h1
    · cases h1
    · rename_i s1 hs1
      have n14 : lexT n b i ≠ 14 := fun z => by rw [sstep_no (by omega)] at hs1; cases hs1
      have n20 : lexT n b i ≠ 20 := fun z => by rw [sstep_no (by omega)] at hs1; cases hs1
      have hlt : i < n := by
        rcases Nat.lt_or_ge i n with z | z
        · exact z
        · exact absurd (lex_end (lexB_n (n := n) (b := b)) i z).1 n20
      have s59 := (mtk_s h2.2.1.2.2).2.2.2.1
      have f26 := h2.2.2.2.2.1.2.1
      have e59 : ¬ I 0 19 = 59 := fun z => n14 (s59.mp z)
      have hsz1 := sstep_sz hs1
      have szd : s.1.length + s.2.1.length ≤ i := h3
      have go : mFr (d + 5) 141 61 [some (.ref 0), l1, l2, l3] [] (mkH dSh I V L A) P := by
        simp (disch := first | assumption | exact mnl_i | exact mnl_r | exact mnl_n | exact mnl_0 | omega) only [↓reduceIte, tolS, E141_61.1, E141_61.2.1, dShG]
        refine M140 h2 (by omega) (by omega) _ _ (fun s2 I1 A1 q1 q2 q3 => ?_) (fun I1 A1 q1 _ _ => by rw [hs1] at q1; cases q1)
        have e12 : s1 = s2 := by rw [hs1] at q1; cases q1; rfl
        rw [← e12] at q3
        simp (disch := first | assumption | exact mnl_i | exact mnl_r | exact mnl_n | exact mnl_0 | omega) only [↓reduceIte, tolS, E141_61.2.2, E141_70.1, E141_70.2.1, dShG, show ¬ (1 : Int32) = 0 by decide]
        refine M131n q3.1 q3.2.1 _ _ (fun I2 L2 p1 p2 => ?_)
        simp (disch := first | assumption | exact mnl_i | exact mnl_r | exact mnl_n | exact mnl_0 | omega) only [↓reduceIte, tolN, E141_70.2.2]
        exact ih (i + 1) s1 I2 A1 L2 h1 (MPS_nx q3 p1 p2) (by omega) (by omega) (mpS_trans h5 (mpS_trans q2 (mpS_nx p1))) (fun I' A' L' g1 g2 => hP I' A' L' g1 (by rw [show i + (m + 1) = i + 1 + m by omega]; exact g2))
      by_cases cb : s.2.2.2.1 = false
      · simp (disch := first | assumption | exact mnl_i | exact mnl_r | exact mnl_n | exact mnl_0 | omega) only [↓reduceIte, tolS, E141_45, dShG, f26, bI_0, cb]
        exact go
      · have cb0 : (s.2.2.2.1 = false) = False := eq_false cb
        simp (disch := first | assumption | exact mnl_i | exact mnl_r | exact mnl_n | exact mnl_0 | omega) only [↓reduceIte, tolS, E141_45, E141_52, dShG, f26, bI_0, cb0, e59]
        exact go
theorem M141 {p i pi : Nat} {c : List Nat} (hb : base ≤ 2000) (hp : p < 3) (hpi : pi < 18) (hT : MTP I A n b) (hTo : MTo n b I L i) (hCd : MCd base I A c) (hci : c.length ≤ i) (hin : i ≤ n) {key : Int64} (hk : key = Int64.ofNat (CWn.getD (6 + p) 0)) (d : Nat) (P : MP)
    (hy : ∀ I' A' L' i2 c2, PART (lexT n b) p i c i2 c2 → ptS base pi I A I' A' → MTP I' A' n b → MTo n b I' L' i2 → MCd base I' A' c2 → c2.length ≤ i2 → i2 ≤ n → A' 9 pi = nI (base + c.length) → A' 10 pi = nI (c2.length - c.length) → P (some (.int 1)) (mkH dSh I' V L' A'))
    (hn : ∀ I' A' L' f, PFAIL (lexT n b) p i c f → ptS base pi I A I' A' → I' 0 17 = nI (lexB n b f) → P (some (.int 0)) (mkH dSh I' V L' A'))
    (hor : (∃ i2 c2, PART (lexT n b) p i c i2 c2) ∨ ∃ f, PFAIL (lexT n b) p i c f) : mRun (d + 6) 141 [.ref 0, .int (nI pi), .long key] (mkH dSh I V L A) P := by
  have hn160 := hT.2.1
  have hF := lex_F (n := n) (b := b) hn160
  have ptrefl : ptS base pi I A I A := ⟨fun _ _ => rfl, fun _ _ _ _ _ => rfl, fun _ _ => rfl, fun _ _ => ⟨rfl, rfl⟩⟩
  by_cases cK : lexT n b i = 6 + p
  · have hlt : i < n := by
      rcases Nat.lt_or_ge i n with z | z
      · exact z
      · have := (lex_end (lexB_n (n := n) (b := b)) i z).1; omega
    simp (disch := first | assumption | exact mnl_i | exact mnl_r | exact mnl_n | exact mnl_0 | omega) only [↓reduceIte, tolS, E141_0.1, E141_0.2.1, E141_0.2.2.1, B141, dShG]
    refine M132_y hT hTo (by omega) cK hk _ _ (fun I1 L1 q1 q2 => ?_)
    have h16 : I1 0 16 = nI (base + c.length) := by rw [q1 16 (by omega) (by omega) (by omega) (by omega)]; exact hCd.1
    simp (disch := first | assumption | exact mnl_i | exact mnl_r | exact mnl_n | exact mnl_0 | omega) only [↓reduceIte, tolS, E141_0.2.2.2, E141_10, dShG, dShP, dShR, show ¬ (1 : Int32) = 0 by decide, h16, pix_nI]
    generalize hI2 : up2 (up2 (up2 (up2 (up2 I1 0 23 0) 0 24 0) 0 25 0) 0 26 0) 0 27 1 = I2
    generalize hA2 : upA A 9 (upd (A 9) pi (nI (base + c.length))) = A2
    have f2 : ∀ f, f ≠ 17 → f ≠ 18 → f ≠ 19 → f ≠ 20 → f < 23 ∨ 27 < f → I2 0 f = I 0 f := fun f f1 f2 f3 f4 f5 => by rw [← hI2, up2_f (by omega), up2_f (by omega), up2_f (by omega), up2_f (by omega), up2_f (by omega), q1 f f1 f2 f3 f4]
    have g2 : ∀ f, f < 23 → I2 0 f = I1 0 f := fun f f5 => by rw [← hI2, up2_f (by omega), up2_f (by omega), up2_f (by omega), up2_f (by omega), up2_f (by omega)]
    have a2 : ∀ b', b' ≠ 9 → A2 b' = A b' := fun b' h => by rw [← hA2, upA_n h]
    have a9 : A2 9 pi = nI (base + c.length) := by rw [← hA2, upA_s, upd_s]
    have a9n : ∀ j, j ≠ pi → A2 9 j = A 9 j := fun j hj => by rw [← hA2, upA_s, upd_n hj]
    have h0 : MPS n b base I2 A2 L1 (i + 1) (s0 c) := by
      refine ⟨⟨by rw [f2 10 (by omega) (by omega) (by omega) (by omega) (by omega)]; exact hT.1, hT.2.1, fun j hj => by rw [a2 8 (by omega)]; exact hT.2.2 j hj⟩, MTo_ly q2 (g2 17 (by omega)) (g2 18 (by omega)) (g2 19 (by omega)) (g2 20 (by omega)), ⟨by rw [g2 16 (by omega)]; exact h16, fun j hj => by rw [a2 11 (by omega)]; exact hCd.2 j hj⟩, ⟨?_, fun j hj => absurd hj (Nat.not_lt_zero _), ?_, fun x hx => by cases hx⟩, ⟨?_, ?_, ?_⟩, Nat.zero_le _⟩
      · rw [← hI2, up2_f (by decide), up2_f (by decide), up2_f (by decide), up2_f (by decide), up2_s]; rfl
      · rw [← hI2, up2_f (by decide), up2_f (by decide), up2_f (by decide), up2_s]; rfl
      · rw [← hI2, up2_f (by decide), up2_f (by decide), up2_s]; rfl
      · rw [← hI2, up2_f (by decide), up2_s]; rfl
      · rw [← hI2, up2_s]; rfl
    have pt2 : ∀ (I' A' : TI), mpS base I2 A2 I' A' → ptS base pi I A I' A' ∧ A' 9 = A2 9 ∧ A' 10 = A 10 := fun I' A' m => ⟨⟨fun f hf => by rw [m.1 f hf, f2 f (by omega) (by omega) (by omega) (by omega) (by omega)], fun b' b9 b10 b11 b12 => by rw [m.2.1 b' b11 b12, a2 b' b9], fun j hj => by rw [m.2.2 j hj, a2 11 (by omega)], fun j hj => ⟨by rw [m.2.1 9 (by omega) (by omega), a9n j hj], by rw [m.2.1 10 (by omega) (by omega), a2 10 (by omega)]⟩⟩, m.2.1 9 (by omega) (by omega), by rw [m.2.1 10 (by omega) (by omega), a2 10 (by omega)]⟩
    have hsz0 : szS (s0 c) ≤ i + 1 := by show c.length + 0 ≤ i + 1; omega
    have fails : ∀ (f : Nat) (s' : SYS), SR (lexT n b) (i + 1) (s0 c) f s' → bad s' (lexT n b f) → mFr (d + 5) 141 45 [some (.ref 0), some (.int (nI pi)), some (.long key), none] [] (mkH dSh I2 V L1 A2) P := by
      intro f s' hsr hbad
      obtain ⟨m, rfl, hm⟩ := id hsr
      have hfl : PFAIL (lexT n b) p i c (i + 1 + m) := Or.inr ⟨cK, s', hsr, hbad⟩
      have hsz := SR_sz hsr
      have hle : i + 1 + m ≤ n := SR_end (fun j hj => (hF.2.2.1 j hj).1) hsr (by omega)
      refine M141_run (by omega) _ _ _ d P m (i + 1) (s0 c) I2 A2 L1 hm h0 hsz0 (by omega) mpS_refl (fun I3 A3 L3 m3 h3 => ?_)
      obtain ⟨hb1, hb2⟩ := hbad
      have szd : s'.1.length + s'.2.1.length ≤ i + 1 + m := by unfold szS at hsz hsz0; omega
      have f26 := h3.2.2.2.2.1.2.1
      have s59 := (mtk_s h3.2.1.2.2).2.2.2.1
      have h17 := h3.2.1.1
      have go : mFr (d + 5) 141 61 [some (.ref 0), some (.int (nI pi)), some (.long key), none] [] (mkH dSh I3 V L3 A3) P := by
        simp (disch := first | assumption | exact mnl_i | exact mnl_r | exact mnl_n | exact mnl_0 | omega) only [↓reduceIte, tolS, E141_61.1, E141_61.2.1, dShG]
        refine M140 h3 (by omega) (by omega) _ _ (fun s2 I4 A4 q1 _ _ => by rw [hb1] at q1; cases q1) (fun I4 A4 _ q2 q3 => ?_)
        simp (disch := first | assumption | exact mnl_i | exact mnl_r | exact mnl_n | exact mnl_0 | omega) only [↓reduceIte, tolS, E141_61.2.2, E141_68]
        exact hn I4 A4 L3 (i + 1 + m) hfl (pt2 _ _ (mpS_trans m3 q2)).1 (by rw [q3]; exact h17)
      by_cases cb : s'.2.2.2.1 = false
      · simp (disch := first | assumption | exact mnl_i | exact mnl_r | exact mnl_n | exact mnl_0 | omega) only [↓reduceIte, tolS, E141_45, dShG, f26, bI_0, cb]
        exact go
      · have cb0 : (s'.2.2.2.1 = false) = False := eq_false cb
        by_cases c14 : lexT n b (i + 1 + m) = 14
        · have e59 : I3 0 19 = 59 := s59.mpr c14
          have cbt : s'.2.2.2.1 = true := by simpa using cb
          simp (disch := first | assumption | exact mnl_i | exact mnl_r | exact mnl_n | exact mnl_0 | omega) only [↓reduceIte, tolS, E141_45, E141_52, E141_77.1, E141_77.2.1, E141_77.2.2.1, dShG, f26, bI_0, cb0, e59]
          refine M135r (l := 1) (by omega) (by omega) (by omega) (by omega) h3.2.2.1 h3.2.2.2.1 _ _ (fun I4 A4 q1 q2 q3 => ?_)
          have hne : layr 1 s'.2.1 ≠ [] := fun z => hb2 ⟨cbt, c14, z⟩
          have hpos : (0 : Int32) < I4 0 23 := by
            rw [q3.1]
            have h9 : 0 < (layr 1 s'.2.1).length := List.length_pos_iff.mpr hne
            have h8 := layr_len 1 s'.2.1
            exact (nI_ltI (a := 0) (by omega) (by omega)).mpr h9
          simp (disch := first | assumption | exact mnl_i | exact mnl_r | exact mnl_n | exact mnl_0 | omega) only [↓reduceIte, tolN, tolS, E141_77.2.2.2.1, E141_77.2.2.2.2.1, E141_77.2.2.2.2.2, E141_89, dShG, hpos]
          exact hn I4 A4 L3 (i + 1 + m) hfl (pt2 _ _ (mpS_trans m3 (mpS_ly q1))).1 (by rw [q1.1 17 (by omega) (by omega) (by omega)]; exact h17)
        · have e59 : ¬ I3 0 19 = 59 := fun z => c14 (s59.mp z)
          simp (disch := first | assumption | exact mnl_i | exact mnl_r | exact mnl_n | exact mnl_0 | omega) only [↓reduceIte, tolS, E141_45, E141_52, dShG, f26, bI_0, cb0, e59]
          exact go
    rcases hor with ⟨i2, c2, hpart⟩ | ⟨f, hfail⟩
    · obtain ⟨_, i', s', e, hsr, hbh, h14, hlr, hcc, hce, hwf, hi2⟩ := id hpart
      obtain ⟨m, rfl, hm⟩ := id hsr
      have hsz := SR_sz hsr
      have hle : i + 1 + m ≤ n := SR_end (fun j hj => (hF.2.2.1 j hj).1) hsr (by omega)
      have hlt2 : i + 1 + m < n := by
        rcases Nat.lt_or_ge (i + 1 + m) n with z | z
        · exact z
        · have := (lex_end (lexB_n (n := n) (b := b)) _ z).1; omega
      refine M141_run (by omega) _ _ _ d P m (i + 1) (s0 c) I2 A2 L1 hm h0 hsz0 (by omega) mpS_refl (fun I3 A3 L3 m3 h3 => ?_)
      have szd : s'.1.length + s'.2.1.length ≤ i + 1 + m := by unfold szS at hsz hsz0; omega
      have f26 := h3.2.2.2.2.1.2.1
      have e59 : I3 0 19 = 59 := ((mtk_s h3.2.1.2.2).2.2.2.1).mpr h14
      have cb0 : (s'.2.2.2.1 = false) = False := by rw [hbh]; simp
      simp (disch := first | assumption | exact mnl_i | exact mnl_r | exact mnl_n | exact mnl_0 | omega) only [↓reduceIte, tolS, E141_45, E141_52, E141_77.1, E141_77.2.1, E141_77.2.2.1, dShG, f26, bI_0, cb0, e59]
      refine M135r (l := 1) (by omega) (by omega) (by omega) (by omega) h3.2.2.1 h3.2.2.2.1 _ _ (fun I4 A4 q1 q2 q3 => ?_)
      have h0' : I4 0 23 = 0 := by rw [q3.1, hlr]; rfl
      rw [hcc] at q2
      have h16' := q2.1
      have m4 := mpS_trans m3 (mpS_ly q1)
      obtain ⟨p4, a49, a410⟩ := pt2 _ _ m4
      have a49' : A4 9 pi = nI (base + c.length) := by rw [a49]; exact a9
      have hll := lay_len 1 s'.2.1
      have hc2 : c2.length ≤ i + 1 + m := by rw [← hcc, List.length_append]; omega
      have hc1 : c.length ≤ c2.length := by rw [hce, List.length_append]; omega
      have hsub : base + c2.length - (base + c.length) = c2.length - c.length := by omega
      have hle3 : base + c.length ≤ base + c2.length := by omega
      simp (disch := first | assumption | exact mnl_i | exact mnl_r | exact mnl_n | exact mnl_0 | omega) only [↓reduceIte, tolN, tolS, E141_77.2.2.2.1, E141_77.2.2.2.2.1, E141_77.2.2.2.2.2, E141_91.1, E141_91.2.1, E141_91.2.2.1, E141_91.2.2.2.1, E141_91.2.2.2.2.1, E141_91.2.2.2.2.2.1, E141_91.2.2.2.2.2.2.1, E141_91.2.2.2.2.2.2.2.1, E141_91.2.2.2.2.2.2.2.2.1, E141_91.2.2.2.2.2.2.2.2.2.1, E141_91.2.2.2.2.2.2.2.2.2.2.1, E141_91.2.2.2.2.2.2.2.2.2.2.2.1, E141_91.2.2.2.2.2.2.2.2.2.2.2.2.1, dShG, dShR, h0', show ¬ (0 : Int32) < 0 by decide, h16', pix_nI, a49', q_ss hle3, hsub]
      have hTo4 : MTo n b I4 L3 (i + 1 + m) := MTo_ly h3.2.1 (q1.1 17 (by omega) (by omega) (by omega)) (q1.1 18 (by omega) (by omega) (by omega)) (q1.1 19 (by omega) (by omega) (by omega)) (q1.1 20 (by omega) (by omega) (by omega))
      have hT4 := MTP_mp h3.1 (mpS_ly q1)
      have hT5 : MTP I4 (upA A4 10 (upd (A4 10) pi (nI (c2.length - c.length)))) n b := ⟨hT4.1, hT4.2.1, fun j hj => by rw [upA_n (by decide)]; exact hT4.2.2 j hj⟩
      refine M131n hT5 hTo4 _ _ (fun I5 L5 q5 q6 => ?_)
      simp (disch := first | assumption | exact mnl_i | exact mnl_r | exact mnl_n | exact mnl_0 | omega) only [↓reduceIte, tolN, tolS, E141_91.2.2.2.2.2.2.2.2.2.2.2.2.2.1, E141_91.2.2.2.2.2.2.2.2.2.2.2.2.2.2.1, E141_91.2.2.2.2.2.2.2.2.2.2.2.2.2.2.2.1, E141_91.2.2.2.2.2.2.2.2.2.2.2.2.2.2.2.2]
      refine hy I5 _ L5 i2 c2 hpart ⟨fun f hf => by rw [q5 f (by omega) (by omega) (by omega) (by omega)]; exact p4.1 f hf, fun b' b9 b10 b11 b12 => by rw [upA_n b10]; exact p4.2.1 b' b9 b10 b11 b12, fun j hj => by rw [upA_n (by decide)]; exact p4.2.2.1 j hj, fun j hj => ⟨by rw [upA_n (by decide)]; exact (p4.2.2.2 j hj).1, by rw [upA_s, upd_n hj]; exact (p4.2.2.2 j hj).2⟩⟩ (MTP_nx hT5 q5) (by rw [hi2]; exact q6) ⟨by rw [q5 16 (by omega) (by omega) (by omega) (by omega)]; exact h16', fun j hj => by rw [upA_n (by decide)]; exact q2.2 j hj⟩ (by omega) (by omega) (by rw [upA_n (by decide)]; exact a49') (by rw [upA_s, upd_s])
    · rcases hfail with ⟨h1, h2⟩ | ⟨h1, s', h2, h3⟩
      · exact absurd cK h1
      · exact fails f s' h2 h3
  · simp (disch := first | assumption | exact mnl_i | exact mnl_r | exact mnl_n | exact mnl_0 | omega) only [↓reduceIte, tolS, E141_0.1, E141_0.2.1, E141_0.2.2.1, B141, dShG]
    refine M132_n hTo (by omega) cK hk _ _ ?_
    simp (disch := first | assumption | exact mnl_i | exact mnl_r | exact mnl_n | exact mnl_0 | omega) only [↓reduceIte, tolS, E141_0.2.2.2, E141_8]
    exact hn I A L i (Or.inl ⟨cK, rfl⟩) ptrefl hTo.1
end MT
