/-! the reference: a step of its reader -/
def bI (x : Bool) : Int32 := if x = true then 1 else 0
theorem bI_0 (x : Bool) : (bI x = 0) = (x = false) := by cases x <;> simp [bI]
theorem mtk_v {I : TI} {w : Int64} {t : Nat} (h : mtk I w t) : (t ≤ 11 ∧ I 0 19 = 119) ∨ (12 ≤ t ∧ t ≤ 21 ∧ ¬ I 0 19 = 119 ∧ ¬ I 0 19 = 48) ∨ (100 ≤ t ∧ I 0 19 = 48 ∧ I 0 20 = nI (t - 100)) := by
  rcases h with ⟨a, h, _⟩ | ⟨a, h⟩ | ⟨a, h⟩ | ⟨a, h⟩ | ⟨a, h⟩ | ⟨a, h⟩ | ⟨a, h⟩ | ⟨a, h⟩ | ⟨a, h⟩ | ⟨a, h⟩ | ⟨a, h⟩ | ⟨a, h, g⟩
  · exact Or.inl ⟨a, h⟩
  all_goals first | exact Or.inr (Or.inr ⟨a, h, g⟩) | exact Or.inr (Or.inl ⟨by omega, by omega, by rw [h]; decide, by rw [h]; decide⟩)
theorem mtk_s {I : TI} {w : Int64} {t : Nat} (h : mtk I w t) : ((I 0 19 = 45) = (t = 16)) ∧ ((I 0 19 = 40) = (t = 12)) ∧ ((I 0 19 = 41) = (t = 13)) ∧ ((I 0 19 = 59) = (t = 14)) ∧ ((I 0 19 = 101) = (t = 20)) ∧ ((I 0 19 = 42) = (t = 17)) ∧ ((I 0 19 = 43) = (t = 15)) ∧ ((I 0 19 = 60) = (t = 18)) ∧ ((I 0 19 = 61) = (t = 19)) ∧ ((I 0 19 = 119) = (t ≤ 11)) := by
  have key : ∀ (v : Int32) (t' : Nat), I 0 19 = v → t = t' → (((v = 45) = (t' = 16)) ∧ ((v = 40) = (t' = 12)) ∧ ((v = 41) = (t' = 13)) ∧ ((v = 59) = (t' = 14)) ∧ ((v = 101) = (t' = 20)) ∧ ((v = 42) = (t' = 17)) ∧ ((v = 43) = (t' = 15)) ∧ ((v = 60) = (t' = 18)) ∧ ((v = 61) = (t' = 19)) ∧ ((v = 119) = (t' ≤ 11))) → ((I 0 19 = 45) = (t = 16)) ∧ ((I 0 19 = 40) = (t = 12)) ∧ ((I 0 19 = 41) = (t = 13)) ∧ ((I 0 19 = 59) = (t = 14)) ∧ ((I 0 19 = 101) = (t = 20)) ∧ ((I 0 19 = 42) = (t = 17)) ∧ ((I 0 19 = 43) = (t = 15)) ∧ ((I 0 19 = 60) = (t = 18)) ∧ ((I 0 19 = 61) = (t = 19)) ∧ ((I 0 19 = 119) = (t ≤ 11)) := by
    intro v t' e1 e2 h
    rw [e1, e2]; exact h
  have ff : ∀ {p q : Prop}, ¬ p → ¬ q → p = q := fun h g => propext ⟨fun z => absurd z h, fun z => absurd z g⟩
  have tt : ∀ {p q : Prop}, p → q → p = q := fun h g => propext ⟨fun _ => g, fun _ => h⟩
  rcases h with ⟨a, h, _⟩ | ⟨a, h⟩ | ⟨a, h⟩ | ⟨a, h⟩ | ⟨a, h⟩ | ⟨a, h⟩ | ⟨a, h⟩ | ⟨a, h⟩ | ⟨a, h⟩ | ⟨a, h⟩ | ⟨a, h⟩ | ⟨a, h, g⟩
  · rw [h]
    exact ⟨ff (by decide) (by omega), ff (by decide) (by omega), ff (by decide) (by omega), ff (by decide) (by omega), ff (by decide) (by omega), ff (by decide) (by omega), ff (by decide) (by omega), ff (by decide) (by omega), ff (by decide) (by omega), tt rfl a⟩
  any_goals exact key _ _ h a (by refine ⟨?_, ?_, ?_, ?_, ?_, ?_, ?_, ?_, ?_, ?_⟩ <;> first | exact ff (by decide) (by decide) | exact tt (by decide) (by decide))
  · rw [h]
    exact ⟨ff (by decide) (by omega), ff (by decide) (by omega), ff (by decide) (by omega), ff (by decide) (by omega), ff (by decide) (by omega), ff (by decide) (by omega), ff (by decide) (by omega), ff (by decide) (by omega), ff (by decide) (by omega), ff (by decide) (by omega)⟩
theorem mtk_w {I : TI} {w : Int64} {t : Nat} (h : mtk I w t) (ht : t ≤ 11) : wdOf w t := by
  rcases h with ⟨a, _, g⟩ | ⟨a, _⟩ | ⟨a, _⟩ | ⟨a, _⟩ | ⟨a, _⟩ | ⟨a, _⟩ | ⟨a, _⟩ | ⟨a, _⟩ | ⟨a, _⟩ | ⟨a, _⟩ | ⟨a, _⟩ | ⟨a, _, _⟩
  · exact wdOf_of ht g
  all_goals omega
theorem mtk_up {I : TI} {w : Int64} {t : Nat} (h : mtk I w t) {I' : TI} (h19 : I' 0 19 = I 0 19) (h20 : I' 0 20 = I 0 20) : mtk I' w t := by
  unfold mtk at h ⊢
  rw [h19, h20]
  exact h
def MFl (I : TI) (cm bh st : Bool) : Prop := I 0 25 = bI cm ∧ I 0 26 = bI bh ∧ I 0 27 = bI st
def MPS (n : Nat) (b : Nat → Nat) (base : Nat) (I A : TI) (L : Nat → Int64) (i : Nat) (s : SYS) : Prop := MTP I A n b ∧ MTo n b I L i ∧ MCd base I A s.1 ∧ MWt I A s.2.1 ∧ MFl I s.2.2.1 s.2.2.2.1 s.2.2.2.2 ∧ cnt s.2.1 ≤ 5
theorem cnt_layr (l : Nat) : ∀ ws, cnt (layr l ws) ≤ cnt ws := by
  intro ws
  induction ws with
  | nil => exact Nat.le_refl _
  | cons x w ih =>
    simp only [layr, cnt]
    split
    · omega
    · simp only [cnt]; omega
theorem layr_len (l : Nat) (ws : List Nat) : (layr l ws).length ≤ ws.length := by have := lay_len l ws; omega
theorem layr_mem {l : Nat} : ∀ {ws : List Nat} {x : Nat}, x ∈ layr l ws → x ∈ ws := by
  intro ws
  induction ws with
  | nil => intro x h; exact h
  | cons y w ih =>
    intro x h
    simp only [layr] at h
    split at h
    · exact List.mem_cons_of_mem _ (ih h)
    · exact h
section MQ
variable {n base : Nat} {b : Nat → Nat} {I A : TI} {V : TV} {L : Nat → Int64}
theorem M135r {l : Nat} (hl : 1 ≤ l) (hl2 : l ≤ 7) {c ws : List Nat} (h1 : ws.length < 200) (h2 : base + c.length + ws.length < 3000) (hc : MCd base I A c) (hw : MWt I A ws) (d : Nat) (P : MP)
    (hP : ∀ I' A', lyS base I A I' A' → MCd base I' A' (c ++ layc l ws) → MWt I' A' (layr l ws) → P none (mkH dSh I' V L A')) : mRun (d + 2) 135 [.ref 0, .int (nI l)] (mkH dSh I V L A) P := by
  rw [B135]
  exact M135 hl hl2 d P ws c I A h1 h2 hc hw hP
theorem M136 {c ws : List Nat} (h1 : ws.length < 200) (hc : MCd base I A c) (hw : MWt I A ws) {x : Nat} (hx : wOk x) (d : Nat) (P : MP)
    (hP : ∀ I' A', lyS base I A I' A' → MCd base I' A' c → MWt I' A' (x :: ws) → P none (mkH dSh I' V L A')) : mRun (d + 2) 136 [.ref 0, .int (wtr x)] (mkH dSh I V L A) P := by
  obtain ⟨w1, w2, w3, w4⟩ := hw
  have hnr := wtr_not x hx
  have hst : stk (upA A 12 (upd (A 12) ws.length (wtr x)) 12) ((x :: ws).map wtr) := by
    rw [upA_s]
    have := stk_push (v := wtr x) w2
    rw [List.length_map] at this
    exact this
  have hmem : ∀ y, y ∈ x :: ws → wOk y := fun y hy => by
    rcases List.mem_cons.mp hy with z | z
    · rw [z]; exact hx
    · exact w4 y z
  have e24 : up2 I 0 23 (nI (ws.length + 1)) 0 24 = nI (cnt ws) := by rw [up2_f (by decide)]; exact w3
  have hcd : ∀ I2 : TI, I2 0 16 = I 0 16 → MCd base I2 (upA A 12 (upd (A 12) ws.length (wtr x))) c := fun I2 h => ⟨by rw [h]; exact hc.1, fun j hj => by rw [upA_n (by decide)]; exact hc.2 j hj⟩
  have go : opn x = 1 → mFr (d + 1) 136 36 [some (.ref 0), some (.int (wtr x))] [] (mkH dSh (up2 I 0 23 (nI (ws.length + 1))) V L (upA A 12 (upd (A 12) ws.length (wtr x)))) P := by
    intro hop
    simp (disch := first | assumption | exact mnl_i | exact mnl_r | exact mnl_n | exact mnl_0 | omega) only [↓reduceIte, tolS, E136_36, E136_46, dShG, dShP, e24, q_add]
    refine hP _ _ ⟨fun f f1 f2 f3 => by rw [up2_f f3, up2_f f2], fun b b1 b2 => upA_n b2, fun j hj => by rw [upA_n (by decide)]⟩ (hcd _ (by rw [up2_f (by decide), up2_f (by decide)])) ⟨by rw [up2_f (by decide), up2_s]; rfl, hst, ?_, hmem⟩
    rw [up2_s, cnt, hop, Nat.add_comm]
  by_cases c13 : wtr x = 13
  · have hop : opn x = 1 := by unfold opn; rw [if_pos (Or.inr (Or.inl (hnr.1.mp c13)))]
    have go := go hop
    rw [c13] at go ⊢
    simp (disch := first | assumption | exact mnl_i | exact mnl_r | exact mnl_n | exact mnl_0 | omega) only [↓reduceIte, tolS, E136_0, B136, dShG, dShP, dShR, w1, q_add, pix_nI]
    exact go
  · by_cases c14 : wtr x = 14
    · have hop : opn x = 1 := by unfold opn; rw [if_pos (Or.inr (Or.inr (hnr.2.1.mp c14)))]
      have go := go hop
      rw [c14] at go ⊢
      simp (disch := first | assumption | exact mnl_i | exact mnl_r | exact mnl_n | exact mnl_0 | omega) only [↓reduceIte, tolS, E136_0, E136_23, B136, dShG, dShP, dShR, w1, q_add, pix_nI, show ¬ (14 : Int32) = 13 by decide]
      exact go
    · have hrk : rk x < 2 ^ 31 := by have := rk_cases x; omega
      by_cases c0 : rk x = 0
      · have hop : opn x = 1 := by unfold opn; rw [if_pos (Or.inl c0)]
        simp (disch := first | assumption | exact mnl_i | exact mnl_r | exact mnl_n | exact mnl_0 | omega) only [↓reduceIte, tolS, E136_0, E136_23, E136_29, B136, dShG, dShP, dShR, w1, q_add, pix_nI, c13, c14, M134 hx, q_eq, c0]
        exact go hop
      · have hop : opn x = 0 := by
          unfold opn
          rw [if_neg]
          rintro (z | z | z)
          · exact c0 z
          · exact c13 (hnr.1.mpr z)
          · exact c14 (hnr.2.1.mpr z)
        simp (disch := first | assumption | exact mnl_i | exact mnl_r | exact mnl_n | exact mnl_0 | omega) only [↓reduceIte, tolS, E136_0, E136_23, E136_29, E136_46, B136, dShG, dShP, dShR, w1, q_add, pix_nI, c13, c14, M134 hx, q_eq, c0]
        refine hP _ _ ⟨fun f f1 f2 f3 => by rw [up2_f f2], fun b b1 b2 => upA_n b2, fun j hj => by rw [upA_n (by decide)]⟩ (hcd _ (by rw [up2_f (by decide)])) ⟨by rw [up2_s]; rfl, hst, ?_, hmem⟩
        rw [e24, cnt, hop, Nat.zero_add]
theorem MTP_mp {I' A' : TI} (h : MTP I A n b) (s : mpS base I A I' A') : MTP I' A' n b := ⟨by rw [s.1 10 (by omega)]; exact h.1, h.2.1, fun i hi => by rw [s.2.1 8 (by omega) (by omega)]; exact h.2.2 i hi⟩
theorem MTo_ly {I' : TI} {i : Nat} (h : MTo n b I L i) (h17 : I' 0 17 = I 0 17) (h18 : I' 0 18 = I 0 18) (h19 : I' 0 19 = I 0 19) (h20 : I' 0 20 = I 0 20) : MTo n b I' L i := ⟨by rw [h17]; exact h.1, by rw [h18]; exact h.2.1, mtk_up h.2.2 h19 h20⟩
theorem M138 {i : Nat} {cm : Bool} (h : mtk I (L 0) i) (hcm : I 0 25 = bI cm) (d : Nat) (P : MP) : mRun (d + 1) 138 [.ref 0] (mkH dSh I V L A) P = P (some (.int (if sgn cm i = 0 then -1 else wtr (sgn cm i)))) (mkH dSh I V L A) := by
  have hs := mtk_s h
  obtain ⟨s45, s40, s41, s59, s101, s42, s43, s60, s61, s119⟩ := hs
  by_cases c17 : i = 17
  · subst c17
    have e : I 0 19 = 42 := s42.mpr rfl
    rw [show sgn cm 17 = 17 from rfl]
    simp (disch := first | assumption | exact mnl_i | exact mnl_r | exact mnl_n | exact mnl_0 | omega) only [↓reduceIte, tolS, E138_0, E138_64, B138, dShG, e]
    rfl
  by_cases c15 : i = 15
  · subst c15
    have e : I 0 19 = 43 := s43.mpr rfl
    rw [show sgn cm 15 = 15 from rfl]
    simp (disch := first | assumption | exact mnl_i | exact mnl_r | exact mnl_n | exact mnl_0 | omega) only [↓reduceIte, tolS, E138_0, E138_67, B138, dShG, e, show ¬ (43 : Int32) = 42 by decide]
    rfl
  by_cases c16 : i = 16
  · subst c16
    have e : I 0 19 = 45 := s45.mpr rfl
    rw [show sgn cm 16 = 16 from rfl]
    simp (disch := first | assumption | exact mnl_i | exact mnl_r | exact mnl_n | exact mnl_0 | omega) only [↓reduceIte, tolS, E138_0, E138_70, B138, dShG, e, show ¬ (45 : Int32) = 42 by decide, show ¬ (45 : Int32) = 43 by decide]
    rfl
  by_cases c18 : i = 18
  · subst c18
    have e : I 0 19 = 60 := s60.mpr rfl
    cases cm
    · rw [show sgn false 18 = 18 from rfl]
      simp (disch := first | assumption | exact mnl_i | exact mnl_r | exact mnl_n | exact mnl_0 | omega) only [↓reduceIte, tolS, E138_0, E138_73, E138_84, E138_86, B138, dShG, e, show ¬ (60 : Int32) = 42 by decide, show ¬ (60 : Int32) = 43 by decide, show ¬ (60 : Int32) = 45 by decide, hcm, show bI false = 0 from rfl]
      rfl
    · rw [show sgn true 18 = 0 from rfl]
      simp (disch := first | assumption | exact mnl_i | exact mnl_r | exact mnl_n | exact mnl_0 | omega) only [↓reduceIte, tolS, E138_0, E138_73, E138_80, E138_86, B138, dShG, e, show ¬ (60 : Int32) = 42 by decide, show ¬ (60 : Int32) = 43 by decide, show ¬ (60 : Int32) = 45 by decide, hcm, show ¬ bI true = 0 by decide]
  by_cases c19 : i = 19
  · subst c19
    have e : I 0 19 = 61 := s61.mpr rfl
    cases cm
    · rw [show sgn false 19 = 19 from rfl]
      simp (disch := first | assumption | exact mnl_i | exact mnl_r | exact mnl_n | exact mnl_0 | omega) only [↓reduceIte, tolS, E138_0, E138_87, E138_98, E138_100, B138, dShG, e, show ¬ (61 : Int32) = 42 by decide, show ¬ (61 : Int32) = 43 by decide, show ¬ (61 : Int32) = 45 by decide, show ¬ (61 : Int32) = 60 by decide, hcm, show bI false = 0 from rfl]
      rfl
    · rw [show sgn true 19 = 0 from rfl]
      simp (disch := first | assumption | exact mnl_i | exact mnl_r | exact mnl_n | exact mnl_0 | omega) only [↓reduceIte, tolS, E138_0, E138_87, E138_94, E138_100, B138, dShG, e, show ¬ (61 : Int32) = 42 by decide, show ¬ (61 : Int32) = 43 by decide, show ¬ (61 : Int32) = 45 by decide, show ¬ (61 : Int32) = 60 by decide, hcm, show ¬ bI true = 0 by decide]
  by_cases c11 : i ≤ 11
  · have e : I 0 19 = 119 := s119.mpr c11
    obtain ⟨w0, w1, w2, w3, w4, w5, w6, w7, w8, w9, w10, w11⟩ := wdOf_c (mtk_w h c11)
    by_cases c10 : i = 10
    · subst c10
      rw [show sgn cm 10 = 10 from rfl]
      simp (disch := first | assumption | exact mnl_i | exact mnl_r | exact mnl_n | exact mnl_0 | omega) only [↓reduceIte, tolS, E138_0, E138_101, E138_112, E138_134, B138, dShG, e, show ¬ (119 : Int32) = 42 by decide, show ¬ (119 : Int32) = 43 by decide, show ¬ (119 : Int32) = 45 by decide, show ¬ (119 : Int32) = 60 by decide, show ¬ (119 : Int32) = 61 by decide, lcmp0, w10]
      rfl
    by_cases c9 : i = 9
    · subst c9
      rw [show sgn cm 9 = 9 from rfl]
      simp (disch := first | assumption | exact mnl_i | exact mnl_r | exact mnl_n | exact mnl_0 | omega) only [↓reduceIte, tolS, E138_0, E138_101, E138_117, E138_128, E138_134, B138, dShG, e, show ¬ (119 : Int32) = 42 by decide, show ¬ (119 : Int32) = 43 by decide, show ¬ (119 : Int32) = 45 by decide, show ¬ (119 : Int32) = 60 by decide, show ¬ (119 : Int32) = 61 by decide, lcmp0, w10, w9, Nat.reduceEqDiff]
      rfl
    have e0 : sgn cm i = 0 := by
      unfold sgn
      rw [if_neg (by omega), if_neg (fun z => by omega)]
    rw [if_pos e0]
    simp (disch := first | assumption | exact mnl_i | exact mnl_r | exact mnl_n | exact mnl_0 | omega) only [↓reduceIte, tolS, E138_0, E138_101, E138_117, E138_133, E138_134, B138, dShG, e, show ¬ (119 : Int32) = 42 by decide, show ¬ (119 : Int32) = 43 by decide, show ¬ (119 : Int32) = 45 by decide, show ¬ (119 : Int32) = 60 by decide, show ¬ (119 : Int32) = 61 by decide, lcmp0, w10, w9, c10, c9]
  · have e0 : sgn cm i = 0 := by
      unfold sgn
      rw [if_neg (by omega), if_neg (fun z => by omega)]
    rw [if_pos e0]
    simp (disch := first | assumption | exact mnl_i | exact mnl_r | exact mnl_n | exact mnl_0 | omega) only [↓reduceIte, tolS, E138_0, E138_135, B138, dShG, s42, s43, s45, s60, s61, s119, c17, c15, c16, c18, c19, c11]
end MQ
