/-! the reference: one, closes, goesOn -/
section MR
variable {n base : Nat} {b : Nat → Nat} {I A : TI} {V : TV} {L : Nat → Int64}
theorem nI7 : nI 7 = (7 : Int32) := rfl
theorem nI1 : nI 1 = (1 : Int32) := rfl
theorem sstep_nt {c ws : List Nat} {cm st : Bool} {t : Nat} (h1 : ¬ t ≤ 5) (h2 : ¬ 100 ≤ t) (h3 : ¬ t = 12) (h4 : ¬ t = 16) (h5 : ¬ (t = 11 ∧ st = true)) : sstep (c, ws, cm, false, st) t = none := by
  simp only [sstep]
  rw [if_neg (by omega), if_neg]
  rintro ⟨z | z | z, _⟩
  · exact h3 z
  · exact h4 z
  · exact h5 z
theorem M137 {i : Nat} {c ws : List Nat} {cm st : Bool} (h : MPS n b base I A L i (c, ws, cm, false, st)) (hz : base + c.length + ws.length + 2 < 3000) (hz2 : ws.length + 1 < 200) (d : Nat) (P : MP)
    (hy : ∀ s' I' A', sstep (c, ws, cm, false, st) (lexT n b i) = some s' → mpS base I A I' A' → MPS n b base I' A' L i s' → P (some (.int 1)) (mkH dSh I' V L A'))
    (hn : sstep (c, ws, cm, false, st) (lexT n b i) = none → P (some (.int 0)) (mkH dSh I V L A)) : mRun (d + 3) 137 [.ref 0, .int (bI st)] (mkH dSh I V L A) P := by
  obtain ⟨hT, hTo, (hCd : MCd base I A c), (hWt : MWt I A ws), ⟨(f25 : I 0 25 = bI cm), (f26 : I 0 26 = bI false), (f27 : I 0 27 = bI st)⟩, (hc5 : cnt ws ≤ 5)⟩ := h
  have hmk := hTo.2.2
  have hs := mtk_s hmk
  obtain ⟨s45, s40, s41, s59, s101, s42, s43, s60, s61, s119⟩ := hs
  have h16 := hCd.1
  have h24 := hWt.2.2.1
  have hk3 : base + c.length < 3000 := by omega
  have hlok := lexT_ok (n := n) (b := b) i
  generalize hti : lexT n b i = t at *
  have putA : ∀ (v : Int32), v = trT (nI t) → (t ≤ 5 ∨ 100 ≤ t) → ∀ (l1 l2 l3 : Option Value), mRun (d + 2) 133 [.ref 0, .int v] (mkH dSh I V L A) (fun v' h' => mFr (d + 2) 137 52 [some (.ref 0), l1, l2, l3] (v'.toList ++ []) h' P) := by
    intro v hv ht l1 l2 l3
    refine Eq.mpr (M133 h16 hk3 _ _ _) ?_
    simp (disch := first | assumption | exact mnl_i | exact mnl_r | exact mnl_n | exact mnl_0 | omega) only [↓reduceIte, tolN, tolS, E137_49.2.1, E137_49.2.2.1, E137_49.2.2.2.1, dShG]
    have hcd1 := MCd_up hCd t
    rw [← hv] at hcd1
    have hw1 : MWt (up2 I 0 16 (nI (base + c.length + 1))) (upA A 11 (upd (A 11) (base + c.length) v)) ws := ⟨by rw [up2_f (by decide)]; exact hWt.1, by rw [upA_n (by decide)]; exact hWt.2.1, by rw [up2_f (by decide)]; exact h24, hWt.2.2.2⟩
    refine M135r (l := 7) (by omega) (by omega) (base := base) (c := c ++ [t]) (ws := ws) (by omega) (by rw [List.length_append, List.length_singleton]; omega) hcd1 hw1 _ _ (fun I1 A1 q1 q2 q3 => ?_)
    simp (disch := first | assumption | exact mnl_i | exact mnl_r | exact mnl_n | exact mnl_0 | omega) only [↓reduceIte, tolN, tolS, E137_49.2.2.2.2.1, E137_49.2.2.2.2.2.1, E137_49.2.2.2.2.2.2.1, E137_49.2.2.2.2.2.2.2.1, E137_49.2.2.2.2.2.2.2.2.1, E137_49.2.2.2.2.2.2.2.2.2.1, E137_49.2.2.2.2.2.2.2.2.2.2, dShG, dShP]
    have hst : sstep (c, ws, cm, false, st) t = some (c ++ t :: layc 7 ws, layr 7 ws, cm, true, st) := by simp only [sstep, if_pos ht]
    have q0 : lyS base I A I1 A1 := lyS_trans ⟨fun f f1 f2 f3 => up2_f f1, fun b b1 b2 => upA_n b1, fun j hj => by rw [upA_s, upd_n (by omega)]⟩ q1
    have m0 : mpS base I A (up2 I1 0 26 1) A1 := mpS_trans (mpS_ly q0) (mpS_up (by omega))
    have fk : ∀ f, f ≠ 16 → f ≠ 23 → f ≠ 24 → f ≠ 26 → up2 I1 0 26 1 0 f = I 0 f := fun f f1 f2 f3 f4 => by rw [up2_f f4, q0.1 f f1 f2 f3]
    refine hy _ _ _ hst m0 ⟨MTP_mp hT m0, ⟨by rw [fk 17 (by omega) (by omega) (by omega) (by omega)]; exact hTo.1, by rw [fk 18 (by omega) (by omega) (by omega) (by omega)]; exact hTo.2.1, by rw [hti]; exact mtk_up hmk (fk 19 (by omega) (by omega) (by omega) (by omega)) (fk 20 (by omega) (by omega) (by omega) (by omega))⟩, ⟨?_, ?_⟩, ⟨by rw [up2_f (by decide)]; exact q3.1, q3.2.1, by rw [up2_f (by decide)]; exact q3.2.2.1, q3.2.2.2⟩, ⟨by rw [fk 25 (by omega) (by omega) (by omega) (by omega)]; exact f25, by rw [up2_s]; rfl, by rw [fk 27 (by omega) (by omega) (by omega) (by omega)]; exact f27⟩, ?_⟩
    · rw [up2_f (by decide)]
      have := q2.1
      rw [List.append_assoc, List.cons_append, List.nil_append] at this
      exact this
    · have := q2.2
      rw [List.append_assoc, List.cons_append, List.nil_append] at this
      exact this
    · have := cnt_layr 7 ws
      show cnt (layr 7 ws) ≤ 5
      omega
  have fin : ∀ (x : Nat) (cm' : Bool) (tkn : Int32) (l1 l2 l3 : Option Value) (I1 A1 : TI), wOk x → sstep (c, ws, cm, false, st) t = some (c, x :: ws, cm', false, decide (t ≠ 16)) → lyS base I A I1 A1 → MCd base I1 A1 c → MWt I1 A1 (x :: ws) → cnt (x :: ws) ≤ 5 → ∀ (I2 : TI), (∀ f, f ≠ 25 → I2 0 f = I1 0 f) → I2 0 25 = bI cm' → mFr (d + 2) 137 176 [some (.ref 0), l1, l2, l3] [] (mkH dSh I2 V L A1) P := by
    intro x cm' tkn l1 l2 l3 I1 A1 hx hst q1 q2 q3 q4 I2 e2 e25
    have e19 : (I2 0 19 = 45) = (t = 16) := by rw [e2 19 (by omega), q1.1 19 (by omega) (by omega) (by omega)]; exact s45
    have fk : ∀ f (v : Int32), f ≠ 16 → f ≠ 23 → f ≠ 24 → f ≠ 25 → f ≠ 27 → up2 I2 0 27 v 0 f = I 0 f := fun f v f1 f2 f3 f4 f5 => by rw [up2_f f5, e2 f f4, q1.1 f f1 f2 f3]
    have m1 : ∀ v, mpS base I A (up2 I2 0 27 v) A1 := fun v => ⟨fun f hf => by rw [up2_f (by omega), e2 f (by omega)]; exact (mpS_ly q1).1 f hf, q1.2.1, q1.2.2⟩
    have M : ∀ v : Int32, v = bI (decide (t ≠ 16)) → MPS n b base (up2 I2 0 27 v) A1 L i (c, x :: ws, cm', false, decide (t ≠ 16)) := by
      intro v hv
      refine ⟨MTP_mp hT (m1 v), ⟨by rw [fk 17 v (by omega) (by omega) (by omega) (by omega) (by omega)]; exact hTo.1, by rw [fk 18 v (by omega) (by omega) (by omega) (by omega) (by omega)]; exact hTo.2.1, by rw [hti]; exact mtk_up hmk (fk 19 v (by omega) (by omega) (by omega) (by omega) (by omega)) (fk 20 v (by omega) (by omega) (by omega) (by omega) (by omega))⟩, ⟨by rw [up2_f (by decide), e2 16 (by omega)]; exact q2.1, q2.2⟩, ⟨by rw [up2_f (by decide), e2 23 (by omega)]; exact q3.1, q3.2.1, by rw [up2_f (by decide), e2 24 (by omega)]; exact q3.2.2.1, q3.2.2.2⟩, ⟨by rw [up2_f (by decide)]; exact e25, by rw [fk 26 v (by omega) (by omega) (by omega) (by omega) (by omega)]; exact f26, by rw [up2_s]; exact hv⟩, q4⟩
    by_cases c16 : t = 16
    · simp (disch := first | assumption | exact mnl_i | exact mnl_r | exact mnl_n | exact mnl_0 | omega) only [↓reduceIte, tolN, tolS, E137_176, E137_190, E137_191, dShG, dShP, e19, c16]
      exact hy _ _ _ hst (m1 0) (M 0 (by rw [c16]; rfl))
    · simp (disch := first | assumption | exact mnl_i | exact mnl_r | exact mnl_n | exact mnl_0 | omega) only [↓reduceIte, tolN, tolS, E137_176, E137_186, E137_191, dShG, dShP, e19, c16]
      exact hy _ _ _ hst (m1 1) (M 1 (by rw [decide_eq_true (show t ≠ 16 from c16)]; rfl))
  have rest : ∀ (is : Bool), (is = true ↔ (t = 11 ∧ st = true)) → 6 ≤ t → t < 100 → mFr (d + 2) 137 94 [some (.ref 0), some (.int (bI st)), some (.int (-1)), none] [.int (bI is)] (mkH dSh I V L A) P := by
    intro is his h6 h100
    by_cases cgo : t = 12 ∨ t = 16 ∨ is = true
    · have go : mFr (d + 2) 137 117 [some (.ref 0), some (.int (bI st)), some (.int (-1)), some (.int (bI is))] [] (mkH dSh I V L A) P := by
        by_cases c5 : cnt ws = 5
        · have hno : sstep (c, ws, cm, false, st) t = none := by
            simp only [sstep]
            rw [if_neg (by omega), if_neg (fun z => by omega)]
          simp (disch := first | assumption | exact mnl_i | exact mnl_r | exact mnl_n | exact mnl_0 | omega) only [↓reduceIte, tolN, tolS, E137_117, E137_125, dShG, h24, q_eq, c5]
          exact hn hno
        · have hlt : cnt ws < 5 := by omega
          have hcond : (t = 12 ∨ t = 16 ∨ (t = 11 ∧ st = true)) ∧ cnt ws < 5 := ⟨by
            rcases cgo with z | z | z
            · exact Or.inl z
            · exact Or.inr (Or.inl z)
            · exact Or.inr (Or.inr (his.mp z)), hlt⟩
          by_cases c12 : t = 12
          · have hst : sstep (c, ws, cm, false, st) t = some (c, (if cm = true then 112 else 12) :: ws, false, false, decide (t ≠ 16)) := by
              simp only [sstep]
              rw [if_neg (by omega), if_pos hcond, if_pos c12, c12]; rfl
            have hx : wOk (if cm = true then 112 else 12) := by cases cm <;> simp [wOk]
            have hop : opn (if cm = true then 112 else 12) = 1 := by cases cm <;> decide
            have hpush : ∀ v : Int32, v = wtr (if cm = true then 112 else 12) → mFr (d + 2) 137 150 [some (.ref 0), some (.int (bI st)), some (.int (-1)), some (.int (bI is))] [.int v, .ref 0] (mkH dSh I V L A) P := by
              intro v hv
              rw [hv]
              simp (disch := first | assumption | exact mnl_i | exact mnl_r | exact mnl_n | exact mnl_0 | omega) only [↓reduceIte, tolN, tolS, E137_150.1, dShG]
              refine M136 (by omega) hCd hWt hx _ _ (fun I1 A1 q1 q2 q3 => ?_)
              simp (disch := first | assumption | exact mnl_i | exact mnl_r | exact mnl_n | exact mnl_0 | omega) only [↓reduceIte, tolN, tolS, E137_150.2.1, E137_150.2.2.1, E137_150.2.2.2.1, E137_150.2.2.2.2, dShG, dShP]
              exact fin _ false 0 _ _ _ I1 A1 hx hst q1 q2 q3 (by rw [cnt, hop]; omega) _ (fun f hf => up2_f hf) up2_s
            simp (disch := first | assumption | exact mnl_i | exact mnl_r | exact mnl_n | exact mnl_0 | omega) only [↓reduceIte, tolN, tolS, E137_117, E137_127, E137_136, dShG, h24, q_eq, c5, s40, c12, f25, bI_0]
            cases cm
            · simp (disch := first | assumption | exact mnl_i | exact mnl_r | exact mnl_n | exact mnl_0 | omega) only [↓reduceIte, tolN, tolS, E137_149]
              exact hpush _ rfl
            · simp (disch := first | assumption | exact mnl_i | exact mnl_r | exact mnl_n | exact mnl_0 | omega) only [↓reduceIte, tolN, tolS, E137_144, show ¬ true = false by decide]
              exact hpush _ rfl
          · by_cases c16 : t = 16
            · have hst : sstep (c, ws, cm, false, st) t = some (c, 22 :: ws, cm, false, decide (t ≠ 16)) := by
                simp only [sstep]
                rw [if_neg (by omega), if_pos hcond, if_neg c12, if_pos c16, c16]; rfl
              have hisf : is = false := by
                cases is
                · rfl
                · exact absurd (his.mp rfl).1 (by omega)
              have hx : wOk 22 := by simp [wOk]
              simp (disch := first | assumption | exact mnl_i | exact mnl_r | exact mnl_n | exact mnl_0 | omega) only [↓reduceIte, tolN, tolS, E137_117, E137_127, E137_161, E137_171, dShG, h24, q_eq, c5, s40, c12, hisf, bI_0]
              rw [show (14 : Int32) = wtr 22 from rfl]
              simp (disch := first | assumption | exact mnl_i | exact mnl_r | exact mnl_n | exact mnl_0 | omega) only [↓reduceIte, tolN, tolS, E137_173, dShG]
              refine M136 (by omega) hCd hWt hx _ _ (fun I1 A1 q1 q2 q3 => ?_)
              simp only [tolN]
              exact fin _ cm 0 _ _ _ I1 A1 hx hst q1 q2 q3 (by show 1 + cnt ws ≤ 5; omega) _ (fun f hf => rfl) (by rw [q1.1 25 (by omega) (by omega) (by omega)]; exact f25)
            · have hist : is = true := by
                rcases cgo with z | z | z
                · exact absurd z c12
                · exact absurd z c16
                · exact z
              have h11 := (his.mp hist).1
              have hst : sstep (c, ws, cm, false, st) t = some (c, 11 :: ws, cm, false, decide (t ≠ 16)) := by
                simp only [sstep]
                rw [if_neg (by omega), if_pos hcond, if_neg c12, if_neg c16, decide_eq_true (show t ≠ 16 from c16)]
              have hx : wOk 11 := by simp [wOk]
              simp (disch := first | assumption | exact mnl_i | exact mnl_r | exact mnl_n | exact mnl_0 | omega) only [↓reduceIte, tolN, tolS, E137_117, E137_127, E137_161, E137_166, dShG, h24, q_eq, c5, s40, c12, hist, bI_0, show ¬ true = false by decide]
              rw [show (13 : Int32) = wtr 11 from rfl]
              simp (disch := first | assumption | exact mnl_i | exact mnl_r | exact mnl_n | exact mnl_0 | omega) only [↓reduceIte, tolN, tolS, E137_173, dShG]
              refine M136 (by omega) hCd hWt hx _ _ (fun I1 A1 q1 q2 q3 => ?_)
              simp only [tolN]
              exact fin _ cm 0 _ _ _ I1 A1 hx hst q1 q2 q3 (by show 1 + cnt ws ≤ 5; omega) _ (fun f hf => rfl) (by rw [q1.1 25 (by omega) (by omega) (by omega)]; exact f25)
      by_cases ci : is = true
      · simp (disch := first | assumption | exact mnl_i | exact mnl_r | exact mnl_n | exact mnl_0 | omega) only [↓reduceIte, tolN, tolS, E137_94, bI_0, ci, show ¬ true = false by decide]
        rw [ci] at go
        exact go
      · have ci2 : is = false := by simpa using ci
        by_cases c16 : t = 16
        · simp (disch := first | assumption | exact mnl_i | exact mnl_r | exact mnl_n | exact mnl_0 | omega) only [↓reduceIte, tolN, tolS, E137_94, E137_99, dShG, bI_0, ci2, s45, c16]
          rw [ci2] at go
          exact go
        · have c12 : t = 12 := by
            rcases cgo with z | z | z
            · exact z
            · exact absurd z c16
            · exact absurd z ci
          simp (disch := first | assumption | exact mnl_i | exact mnl_r | exact mnl_n | exact mnl_0 | omega) only [↓reduceIte, tolN, tolS, E137_94, E137_99, E137_108, dShG, bI_0, ci2, s45, c16, s40, c12]
          rw [ci2] at go
          exact go
    · have n12 : ¬ t = 12 := fun z => cgo (Or.inl z)
      have n16 : ¬ t = 16 := fun z => cgo (Or.inr (Or.inl z))
      have nis : is = false := by
        cases is
        · rfl
        · exact absurd (Or.inr (Or.inr rfl)) cgo
      have hno := sstep_nt (c := c) (ws := ws) (cm := cm) (st := st) (t := t) (by omega) (by omega) n12 n16 (fun z => by have := his.mpr z; rw [nis] at this; cases this)
      simp (disch := first | assumption | exact mnl_i | exact mnl_r | exact mnl_n | exact mnl_0 | omega) only [↓reduceIte, tolN, tolS, E137_94, E137_99, E137_108, E137_125, dShG, bI_0, nis, s45, n16, s40, n12]
      exact hn hno
  rcases mtk_v hmk with ⟨g1, g2⟩ | ⟨g1, g2, g3, g4⟩ | ⟨g1, g2, g3⟩
  · have hwd := mtk_w hmk g1
    by_cases c5 : t ≤ 5
    · have hnm : namT t = nI t := by unfold namT; rw [if_pos c5]
      have hne : ¬ nI t = -1 := nI_m1 (by omega)
      simp (disch := first | assumption | exact mnl_i | exact mnl_r | exact mnl_n | exact mnl_0 | omega) only [↓reduceIte, tolS, E137_0, E137_9, E137_17, E137_27, E137_32, E137_48, E137_49.1, B137, dShG, g2, M129 hwd, hnm, hne, show ¬ (119 : Int32) = 48 by decide]
      exact putA _ (trT_nam t c5).symm (Or.inl c5) _ _ _
    · have hnm : namT t = -1 := by unfold namT; rw [if_neg c5]
      have h6 : 6 ≤ t := by omega
      have h100 : t < 100 := by omega
      obtain ⟨w0, w1, w2, w3, w4, w5, w6, w7, w8, w9, w10, w11⟩ := wdOf_c hwd
      simp (disch := first | assumption | exact mnl_i | exact mnl_r | exact mnl_n | exact mnl_0 | omega) only [↓reduceIte, tolS, E137_0, E137_9, E137_17, E137_27, B137, dShG, g2, M129 hwd, hnm, show ¬ (119 : Int32) = 48 by decide]
      by_cases cst : st = false
      · simp (disch := first | assumption | exact mnl_i | exact mnl_r | exact mnl_n | exact mnl_0 | omega) only [↓reduceIte, tolS, E137_65, E137_93, bI_0, cst]
        have := rest false ⟨(fun z => by cases z), (fun z => by rw [cst] at z; cases z.2)⟩ h6 h100
        rw [cst] at this
        exact this
      · have cst2 : st = true := by simpa using cst
        have cst0 : (st = false) = False := eq_false cst
        by_cases c11 : t = 11
        · simp (disch := first | assumption | exact mnl_i | exact mnl_r | exact mnl_n | exact mnl_0 | omega) only [↓reduceIte, tolS, E137_65, E137_69, E137_78, E137_89, dShG, bI_0, cst0, g2, lcmp0, w11, c11]
          exact rest true ⟨fun _ => ⟨c11, cst2⟩, fun _ => rfl⟩ h6 h100
        · simp (disch := first | assumption | exact mnl_i | exact mnl_r | exact mnl_n | exact mnl_0 | omega) only [↓reduceIte, tolS, E137_65, E137_69, E137_78, E137_93, dShG, bI_0, cst0, g2, lcmp0, w11, c11]
          exact rest false ⟨(fun z => by cases z), (fun z => absurd z.1 c11)⟩ h6 h100
  · have h6 : 6 ≤ t := by omega
    have h100 : t < 100 := by omega
    have r0 := rest false ⟨(fun z => by cases z), (fun z => by omega)⟩ h6 h100
    simp (disch := first | assumption | exact mnl_i | exact mnl_r | exact mnl_n | exact mnl_0 | omega) only [↓reduceIte, tolS, E137_0, E137_16, E137_17, E137_27, B137, dShG, g3, g4]
    by_cases cst : st = false
    · simp (disch := first | assumption | exact mnl_i | exact mnl_r | exact mnl_n | exact mnl_0 | omega) only [↓reduceIte, tolS, E137_65, E137_93, bI_0, cst]
      rw [cst] at r0
      exact r0
    · have cst0 : (st = false) = False := eq_false cst
      simp (disch := first | assumption | exact mnl_i | exact mnl_r | exact mnl_n | exact mnl_0 | omega) only [↓reduceIte, tolS, E137_65, E137_69, E137_93, dShG, bI_0, cst0, g3]
      exact r0
  · have e1 : (15 : Int32) + nI (t - 100) = nI (15 + (t - 100)) := nI_add 15 _
    simp (disch := first | assumption | exact mnl_i | exact mnl_r | exact mnl_n | exact mnl_0 | omega) only [↓reduceIte, tolS, E137_0, E137_16, E137_17, E137_32, E137_38, E137_49.1, B137, dShG, g2, g3, e1, show ¬ (48 : Int32) = 119 by decide]
    refine putA _ ?_ (Or.inr g1) _ _ _
    have := trT_num (n := t - 100) (by omega)
    rw [show 100 + (t - 100) = t by omega] at this
    exact this.symm
end MR
