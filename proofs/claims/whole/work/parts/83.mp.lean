/-! the reference: what waits, what is coded -/
def wtr (x : Nat) : Int32 := if x = 12 then -1 else if x = 112 then -2 else trT (nI x)
/-- what may wait -/
def wOk (x : Nat) : Prop := x = 9 ∨ x = 10 ∨ x = 11 ∨ x = 15 ∨ x = 16 ∨ x = 17 ∨ x = 18 ∨ x = 19 ∨ x = 22 ∨ x = 12 ∨ x = 112
def MCd (base : Nat) (I A : TI) (c : List Nat) : Prop := I 0 16 = nI (base + c.length) ∧ ∀ j, j < c.length → A 11 (base + j) = trT (nI (c.getD j 0))
def MWt (I A : TI) (ws : List Nat) : Prop := I 0 23 = nI ws.length ∧ stk (A 12) (ws.map wtr) ∧ I 0 24 = nI (cnt ws) ∧ ∀ x, x ∈ ws → wOk x
/-- what the reader may write: its fields and rows, the code from base on -/
def mpS (base : Nat) (I A I' A' : TI) : Prop := (∀ f, f < 16 ∨ 27 < f → I' 0 f = I 0 f) ∧ (∀ b, b ≠ 11 → b ≠ 12 → A' b = A b) ∧ ∀ j, j < base → A' 11 j = A 11 j
/-- what lays and push may write -/
def lyS (base : Nat) (I A I' A' : TI) : Prop := (∀ f, f ≠ 16 → f ≠ 23 → f ≠ 24 → I' 0 f = I 0 f) ∧ (∀ b, b ≠ 11 → b ≠ 12 → A' b = A b) ∧ ∀ j, j < base → A' 11 j = A 11 j
theorem lyS_refl {base : Nat} {I A : TI} : lyS base I A I A := ⟨fun _ _ _ _ => rfl, fun _ _ _ => rfl, fun _ _ => rfl⟩
theorem lyS_trans {base : Nat} {I A I1 A1 I2 A2 : TI} (h : lyS base I A I1 A1) (g : lyS base I1 A1 I2 A2) : lyS base I A I2 A2 := ⟨fun f x y z => by rw [g.1 f x y z, h.1 f x y z], fun b x y => by rw [g.2.1 b x y, h.2.1 b x y], fun j hj => by rw [g.2.2 j hj, h.2.2 j hj]⟩
theorem mpS_refl {base : Nat} {I A : TI} : mpS base I A I A := ⟨fun _ _ => rfl, fun _ _ _ => rfl, fun _ _ => rfl⟩
theorem mpS_trans {base : Nat} {I A I1 A1 I2 A2 : TI} (h : mpS base I A I1 A1) (g : mpS base I1 A1 I2 A2) : mpS base I A I2 A2 := ⟨fun f x => by rw [g.1 f x, h.1 f x], fun b x y => by rw [g.2.1 b x y, h.2.1 b x y], fun j hj => by rw [g.2.2 j hj, h.2.2 j hj]⟩
theorem mpS_ly {base : Nat} {I A I' A' : TI} (h : lyS base I A I' A') : mpS base I A I' A' := ⟨fun f x => h.1 f (by omega) (by omega) (by omega), h.2.1, h.2.2⟩
theorem mpS_nx {base : Nat} {I A I' : TI} (h : nxS I I') : mpS base I A I' A := ⟨fun f x => h f (by omega) (by omega) (by omega) (by omega), fun _ _ _ => rfl, fun _ _ => rfl⟩
theorem mpS_up {base : Nat} {I A : TI} {f : Nat} {v : Int32} (hf : 16 ≤ f ∧ f ≤ 27) : mpS base I A (up2 I 0 f v) A := ⟨fun g hg => up2_f (by omega), fun _ _ _ => rfl, fun _ _ => rfl⟩
theorem wtr_rk : ∀ x, wOk x → (rk x = 0 ∧ (wtr x = -1 ∨ wtr x = -2)) ∨ (rk x = 1 ∧ wtr x = 12) ∨ (rk x = 2 ∧ wtr x = 11) ∨ (rk x = 3 ∧ wtr x = 13) ∨ (rk x = 4 ∧ (wtr x = 9 ∨ wtr x = 10)) ∨ (rk x = 5 ∧ (wtr x = 6 ∨ wtr x = 7)) ∨ (rk x = 6 ∧ wtr x = 8) ∨ (rk x = 7 ∧ wtr x = 14) := by
  intro x h
  rcases h with rfl | rfl | rfl | rfl | rfl | rfl | rfl | rfl | rfl | rfl | rfl <;> decide
theorem wtr_not : ∀ x, wOk x → (wtr x = 13 ↔ x = 11) ∧ (wtr x = 14 ↔ x = 22) ∧ (wtr x = -2 ↔ x = 112) := by
  intro x h
  rcases h with rfl | rfl | rfl | rfl | rfl | rfl | rfl | rfl | rfl | rfl | rfl <;> decide
theorem wtr_tr : ∀ x, wOk x → 1 ≤ rk x → wtr x = trT (nI x) := by
  intro x h
  rcases h with rfl | rfl | rfl | rfl | rfl | rfl | rfl | rfl | rfl | rfl | rfl <;> decide
section MPa
variable {I A : TI} {V : TV} {L : Nat → Int64}
theorem M133 {k : Nat} (hk : I 0 16 = nI k) (hk3 : k < 3000) (d : Nat) (v : Int32) (P : MP) : mRun (d + 1) 133 [.ref 0, .int v] (mkH dSh I V L A) P = P none (mkH dSh (up2 I 0 16 (nI (k + 1))) V L (upA A 11 (upd (A 11) k v))) := by
  simp (disch := first | assumption | exact mnl_i | exact mnl_r | exact mnl_n | exact mnl_0 | omega) only [↓reduceIte, tolS, E133_0, B133, dShG, dShP, dShR, hk, q_add, pix_nI]
theorem M134 {x : Nat} (hx : wOk x) (d : Nat) (h : MH) (P : MP) : mRun (d + 1) 134 [.int (wtr x)] h P = P (some (.int (nI (rk x)))) h := by
  rcases wtr_rk x hx with ⟨e1, e2⟩ | ⟨e1, e2⟩ | ⟨e1, e2⟩ | ⟨e1, e2⟩ | ⟨e1, e2⟩ | ⟨e1, e2⟩ | ⟨e1, e2⟩ | ⟨e1, e2⟩
  · rw [e1]
    rcases e2 with e2 | e2 <;> rw [e2]
    · simp (disch := first | assumption | exact mnl_i | exact mnl_r | exact mnl_n | exact mnl_0 | omega) only [↓reduceIte, E134_0, E134_52, E134_54, E134_56, E134_58, E134_60, E134_62, E134_65, E134_68, B134, show ¬ (-1 : Int32) = 6 by decide, show ¬ (-1 : Int32) = 7 by decide, show ¬ (-1 : Int32) = 8 by decide, show ¬ (-1 : Int32) = 9 by decide, show ¬ (-1 : Int32) = 10 by decide, show ¬ (-1 : Int32) = 11 by decide, show ¬ (-1 : Int32) = 12 by decide, show ¬ (-1 : Int32) = 13 by decide, show ¬ (-1 : Int32) = 14 by decide]
      rfl
    · simp (disch := first | assumption | exact mnl_i | exact mnl_r | exact mnl_n | exact mnl_0 | omega) only [↓reduceIte, E134_0, E134_52, E134_54, E134_56, E134_58, E134_60, E134_62, E134_65, E134_68, B134, show ¬ (-2 : Int32) = 6 by decide, show ¬ (-2 : Int32) = 7 by decide, show ¬ (-2 : Int32) = 8 by decide, show ¬ (-2 : Int32) = 9 by decide, show ¬ (-2 : Int32) = 10 by decide, show ¬ (-2 : Int32) = 11 by decide, show ¬ (-2 : Int32) = 12 by decide, show ¬ (-2 : Int32) = 13 by decide, show ¬ (-2 : Int32) = 14 by decide]
      rfl
  · rw [e1, e2]
    simp (disch := first | assumption | exact mnl_i | exact mnl_r | exact mnl_n | exact mnl_0 | omega) only [↓reduceIte, E134_0, E134_52, E134_54, E134_56, E134_58, E134_60, E134_62, E134_65, E134_68, B134, show ¬ (12 : Int32) = 6 by decide, show ¬ (12 : Int32) = 7 by decide, show ¬ (12 : Int32) = 8 by decide, show ¬ (12 : Int32) = 9 by decide, show ¬ (12 : Int32) = 10 by decide, show ¬ (12 : Int32) = 11 by decide]
    rfl
  · rw [e1, e2]
    simp (disch := first | assumption | exact mnl_i | exact mnl_r | exact mnl_n | exact mnl_0 | omega) only [↓reduceIte, E134_0, E134_52, E134_54, E134_56, E134_58, E134_60, E134_62, E134_65, E134_68, B134, show ¬ (11 : Int32) = 6 by decide, show ¬ (11 : Int32) = 7 by decide, show ¬ (11 : Int32) = 8 by decide, show ¬ (11 : Int32) = 9 by decide, show ¬ (11 : Int32) = 10 by decide]
    rfl
  · rw [e1, e2]
    simp (disch := first | assumption | exact mnl_i | exact mnl_r | exact mnl_n | exact mnl_0 | omega) only [↓reduceIte, E134_0, E134_52, E134_54, E134_56, E134_58, E134_60, E134_62, E134_65, E134_68, B134, show ¬ (13 : Int32) = 6 by decide, show ¬ (13 : Int32) = 7 by decide, show ¬ (13 : Int32) = 8 by decide, show ¬ (13 : Int32) = 9 by decide, show ¬ (13 : Int32) = 10 by decide, show ¬ (13 : Int32) = 11 by decide, show ¬ (13 : Int32) = 12 by decide]
    rfl
  · rw [e1]
    rcases e2 with e2 | e2 <;> rw [e2]
    · simp (disch := first | assumption | exact mnl_i | exact mnl_r | exact mnl_n | exact mnl_0 | omega) only [↓reduceIte, E134_0, E134_52, E134_54, E134_56, E134_58, E134_60, E134_62, E134_65, E134_68, B134, show ¬ (9 : Int32) = 6 by decide, show ¬ (9 : Int32) = 7 by decide, show ¬ (9 : Int32) = 8 by decide]
      rfl
    · simp (disch := first | assumption | exact mnl_i | exact mnl_r | exact mnl_n | exact mnl_0 | omega) only [↓reduceIte, E134_0, E134_52, E134_54, E134_56, E134_58, E134_60, E134_62, E134_65, E134_68, B134, show ¬ (10 : Int32) = 6 by decide, show ¬ (10 : Int32) = 7 by decide, show ¬ (10 : Int32) = 8 by decide, show ¬ (10 : Int32) = 9 by decide]
      rfl
  · rw [e1]
    rcases e2 with e2 | e2 <;> rw [e2]
    · simp (disch := first | assumption | exact mnl_i | exact mnl_r | exact mnl_n | exact mnl_0 | omega) only [↓reduceIte, E134_0, E134_52, E134_54, E134_56, E134_58, E134_60, E134_62, E134_65, E134_68, B134]
      rfl
    · simp (disch := first | assumption | exact mnl_i | exact mnl_r | exact mnl_n | exact mnl_0 | omega) only [↓reduceIte, E134_0, E134_52, E134_54, E134_56, E134_58, E134_60, E134_62, E134_65, E134_68, B134, show ¬ (7 : Int32) = 6 by decide]
      rfl
  · rw [e1, e2]
    simp (disch := first | assumption | exact mnl_i | exact mnl_r | exact mnl_n | exact mnl_0 | omega) only [↓reduceIte, E134_0, E134_52, E134_54, E134_56, E134_58, E134_60, E134_62, E134_65, E134_68, B134, show ¬ (8 : Int32) = 6 by decide, show ¬ (8 : Int32) = 7 by decide]
    rfl
  · rw [e1, e2]
    simp (disch := first | assumption | exact mnl_i | exact mnl_r | exact mnl_n | exact mnl_0 | omega) only [↓reduceIte, E134_0, E134_52, E134_54, E134_56, E134_58, E134_60, E134_62, E134_65, E134_68, B134, show ¬ (14 : Int32) = 6 by decide, show ¬ (14 : Int32) = 7 by decide, show ¬ (14 : Int32) = 8 by decide, show ¬ (14 : Int32) = 9 by decide, show ¬ (14 : Int32) = 10 by decide, show ¬ (14 : Int32) = 11 by decide, show ¬ (14 : Int32) = 12 by decide, show ¬ (14 : Int32) = 13 by decide]
    rfl
theorem MCd_up {base : Nat} {c : List Nat} (h : MCd base I A c) (x : Nat) : MCd base (up2 I 0 16 (nI (base + c.length + 1))) (upA A 11 (upd (A 11) (base + c.length) (trT (nI x)))) (c ++ [x]) := by
  refine ⟨by rw [up2_s, List.length_append]; rfl, fun j hj => ?_⟩
  rw [List.length_append] at hj
  rw [upA_s]
  by_cases e : j = c.length
  · subst e; rw [upd_s]; simp [List.getD_eq_getElem?_getD]
  · have hj2 : j < c.length := by simp at hj; omega
    rw [upd_n (by omega), h.2 j hj2]
    simp [List.getD_eq_getElem?_getD, List.getElem?_append_left hj2]
theorem M135 {base l : Nat} (hl : 1 ≤ l) (hl2 : l ≤ 7) (d : Nat) (P : MP) : ∀ (ws c : List Nat) (I A : TI), ws.length < 200 → base + c.length + ws.length < 3000 → MCd base I A c → MWt I A ws →
    (∀ I' A', lyS base I A I' A' → MCd base I' A' (c ++ layc l ws) → MWt I' A' (layr l ws) → P none (mkH dSh I' V L A')) → mFr (d + 1) 135 0 [some (.ref 0), some (.int (nI l))] [] (mkH dSh I V L A) P := by
  intro ws
  induction ws with
  | nil =>
    intro c I A h1 h2 hc hw hP
    have h23 : I 0 23 = 0 := hw.1
    simp (disch := first | assumption | exact mnl_i | exact mnl_r | exact mnl_n | exact mnl_0 | omega) only [↓reduceIte, E135_0, E135_89, dShG, h23, show ¬ (0 : Int32) < 0 by decide]
    refine hP I A lyS_refl ?_ hw
    simp only [layc, List.append_nil]
    exact hc
  | cons x w ih =>
    intro c I A h1 h2 hc hw hP
    obtain ⟨w1, w2, w3, w4⟩ := hw
    rw [List.length_cons] at h1 h2 w1
    have hx := w4 x (List.mem_cons_self ..)
    have htop : A 12 w.length = wtr x := by
      have := stk_top (s := w.map wtr) (v := wtr x) w2
      rw [List.length_map] at this
      exact this
    have hw200 : w.length < 200 := by omega
    have hw200b : w.length < 2 ^ 31 := by omega
    have hpos : (0 : Int32) < nI (w.length + 1) := (nI_ltI (a := 0) (by omega) (by omega)).mpr (by omega)
    have hsub : nI (w.length + 1) - 1 = nI w.length := q_sub.1 (w.length + 1) (by omega)
    by_cases cr : rk x < l
    · have hP := hP I A lyS_refl (by simp only [layc, if_neg (show ¬ l ≤ rk x by omega), List.append_nil]; exact hc) (by simp only [layr, if_neg (show ¬ l ≤ rk x by omega)]; exact ⟨w1, w2, w3, w4⟩)
      have hrk : rk x < 2 ^ 31 := by omega
      simp (disch := first | assumption | exact mnl_i | exact mnl_r | exact mnl_n | exact mnl_0 | omega) only [↓reduceIte, tolS, E135_0, E135_7, E135_89, dShG, dShR, w1, hpos, hsub, pix_nI, htop, M134 hx, q_ll, cr]
      exact hP
    · have crl : l ≤ rk x := by omega
      have hrk : rk x < 2 ^ 31 := by have := rk_cases x; omega
      have hcn : cnt (x :: w) = opn x + cnt w := rfl
      rw [hcn] at w3
      have hk3 : base + c.length < 3000 := by omega
      have h16 := hc.1
      have hnr := wtr_not x hx
      simp only [layc, layr, if_pos crl] at hP
      have hP' : ∀ I' A', lyS base I A I' A' → MCd base I' A' (c ++ [x] ++ layc l w) → MWt I' A' (layr l w) → P none (mkH dSh I' V L A') := by
        intro I' A' q1 q2 q3
        rw [List.append_assoc] at q2
        exact hP I' A' q1 q2 q3
      have e16 : up2 I 0 23 (nI w.length) 0 16 = nI (base + c.length) := by rw [up2_f (by decide)]; exact h16
      have hcd : MCd base (up2 (up2 I 0 23 (nI w.length)) 0 16 (nI (base + c.length + 1))) (upA A 11 (upd (A 11) (base + c.length) (wtr x))) (c ++ [x]) := by
        rw [wtr_tr x hx (by omega)]
        exact MCd_up (I := up2 I 0 23 (nI w.length)) ⟨e16, hc.2⟩ x
      have hst : stk (upA A 11 (upd (A 11) (base + c.length) (wtr x)) 12) (w.map wtr) := by rw [upA_n (by decide)]; exact stk_tail w2
      have hw4 : ∀ y, y ∈ w → wOk y := fun y hy => w4 y (List.mem_cons_of_mem _ hy)
      have hly : lyS base I A (up2 (up2 I 0 23 (nI w.length)) 0 16 (nI (base + c.length + 1))) (upA A 11 (upd (A 11) (base + c.length) (wtr x))) := ⟨fun f f1 f2 f3 => by rw [up2_f f1, up2_f f2], fun b b1 b2 => upA_n b1, fun j hj => by rw [upA_s, upd_n (by omega)]⟩
      have g12 : upA A 11 (upd (A 11) (base + c.length) (wtr x)) 12 w.length = wtr x := by rw [upA_n (by decide)]; exact htop
      have g23 : up2 (up2 I 0 23 (nI w.length)) 0 16 (nI (base + c.length + 1)) 0 23 = nI w.length := by rw [up2_f (by decide), up2_s]
      have g24 : up2 (up2 I 0 23 (nI w.length)) 0 16 (nI (base + c.length + 1)) 0 24 = nI (opn x + cnt w) := by rw [up2_f (by decide), up2_f (by decide)]; exact w3
      simp (disch := first | assumption | exact mnl_i | exact mnl_r | exact mnl_n | exact mnl_0 | omega) only [↓reduceIte, tolS, E135_0, E135_7, dShG, dShR, w1, hpos, hsub, pix_nI, htop, M134 hx, q_ll, cr]
      by_cases c11 : wtr x = 13 ∨ wtr x = 14
      · have hop : opn x = 1 := by
          unfold opn
          rw [if_pos]
          rcases c11 with z | z
          · exact Or.inr (Or.inl (hnr.1.mp z))
          · exact Or.inr (Or.inr (hnr.2.1.mp z))
        rw [hop] at g24
        have gs : nI (1 + cnt w) - 1 = nI (cnt w) := (q_sub.1 (1 + cnt w) (by omega)).trans (by rw [show 1 + cnt w - 1 = cnt w by omega])
        have go : mFr (d + 1) 135 76 [some (.ref 0), some (.int (nI l))] [] (mkH dSh (up2 (up2 I 0 23 (nI w.length)) 0 16 (nI (base + c.length + 1))) V L (upA A 11 (upd (A 11) (base + c.length) (wtr x)))) P := by
          simp (disch := first | assumption | exact mnl_i | exact mnl_r | exact mnl_n | exact mnl_0 | omega) only [↓reduceIte, tolS, E135_76, dShG, dShP, g24, gs]
          refine ih (c ++ [x]) _ _ (by omega) (by rw [List.length_append, List.length_singleton]; omega) ?_ ⟨by rw [up2_f (by decide)]; exact g23, hst, up2_s, hw4⟩ (fun I' A' q1 q2 q3 => hP' I' A' (lyS_trans (lyS_trans hly ⟨fun f f1 f2 f3 => up2_f f3, fun _ _ _ => rfl, fun _ _ => rfl⟩) q1) q2 q3)
          exact ⟨by rw [up2_f (by decide)]; exact hcd.1, hcd.2⟩
        simp (disch := first | assumption | exact mnl_i | exact mnl_r | exact mnl_n | exact mnl_0 | omega) only [↓reduceIte, tolS, tolN, E135_25.1, E135_25.2.1, E135_25.2.2.1, E135_25.2.2.2.1, E135_25.2.2.2.2.1, E135_25.2.2.2.2.2.1, E135_25.2.2.2.2.2.2.1, E135_25.2.2.2.2.2.2.2.1, E135_25.2.2.2.2.2.2.2.2.1, E135_25.2.2.2.2.2.2.2.2.2.1, E135_25.2.2.2.2.2.2.2.2.2.2.1, E135_25.2.2.2.2.2.2.2.2.2.2.2.1, E135_25.2.2.2.2.2.2.2.2.2.2.2.2.1, dShG, dShP, dShR, w1, hsub, up2_s, pix_nI, htop, M133 e16 hk3]
        by_cases c13 : wtr x = 13
        · have g12' := g12.trans c13
          simp (disch := first | assumption | exact mnl_i | exact mnl_r | exact mnl_n | exact mnl_0 | omega) only [↓reduceIte, tolS, tolN, E135_25.2.2.2.2.2.2.2.2.2.2.2.2.2.1, E135_25.2.2.2.2.2.2.2.2.2.2.2.2.2.2.1, E135_25.2.2.2.2.2.2.2.2.2.2.2.2.2.2.2.1, E135_25.2.2.2.2.2.2.2.2.2.2.2.2.2.2.2.2.1, E135_25.2.2.2.2.2.2.2.2.2.2.2.2.2.2.2.2.2.1, E135_25.2.2.2.2.2.2.2.2.2.2.2.2.2.2.2.2.2.2.1, E135_25.2.2.2.2.2.2.2.2.2.2.2.2.2.2.2.2.2.2.2, dShG, dShP, dShR, g23, pix_nI, g12']
          exact go
        · have c14 : wtr x = 14 := by rcases c11 with z | z
                                      · exact absurd z c13
                                      · exact z
          have g12' := g12.trans c14
          simp (disch := first | assumption | exact mnl_i | exact mnl_r | exact mnl_n | exact mnl_0 | omega) only [↓reduceIte, tolS, tolN, E135_25.2.2.2.2.2.2.2.2.2.2.2.2.2.1, E135_25.2.2.2.2.2.2.2.2.2.2.2.2.2.2.1, E135_25.2.2.2.2.2.2.2.2.2.2.2.2.2.2.2.1, E135_25.2.2.2.2.2.2.2.2.2.2.2.2.2.2.2.2.1, E135_25.2.2.2.2.2.2.2.2.2.2.2.2.2.2.2.2.2.1, E135_25.2.2.2.2.2.2.2.2.2.2.2.2.2.2.2.2.2.2.1, E135_25.2.2.2.2.2.2.2.2.2.2.2.2.2.2.2.2.2.2.2, E135_62, dShG, dShP, dShR, g23, pix_nI, g12', show ¬ (14 : Int32) = 13 by decide]
          exact go
      · have n13 : ¬ wtr x = 13 := fun z => c11 (Or.inl z)
        have n14 : ¬ wtr x = 14 := fun z => c11 (Or.inr z)
        have hop : opn x = 0 := by
          unfold opn
          rw [if_neg]
          rintro (z | z | z)
          · omega
          · exact n13 (hnr.1.mpr z)
          · exact n14 (hnr.2.1.mpr z)
        rw [hop, Nat.zero_add] at g24
        simp (disch := first | assumption | exact mnl_i | exact mnl_r | exact mnl_n | exact mnl_0 | omega) only [↓reduceIte, tolS, tolN, E135_25.1, E135_25.2.1, E135_25.2.2.1, E135_25.2.2.2.1, E135_25.2.2.2.2.1, E135_25.2.2.2.2.2.1, E135_25.2.2.2.2.2.2.1, E135_25.2.2.2.2.2.2.2.1, E135_25.2.2.2.2.2.2.2.2.1, E135_25.2.2.2.2.2.2.2.2.2.1, E135_25.2.2.2.2.2.2.2.2.2.2.1, E135_25.2.2.2.2.2.2.2.2.2.2.2.1, E135_25.2.2.2.2.2.2.2.2.2.2.2.2.1, dShG, dShP, dShR, w1, hsub, up2_s, pix_nI, htop, M133 e16 hk3]
        simp (disch := first | assumption | exact mnl_i | exact mnl_r | exact mnl_n | exact mnl_0 | omega) only [↓reduceIte, tolS, tolN, E135_25.2.2.2.2.2.2.2.2.2.2.2.2.2.1, E135_25.2.2.2.2.2.2.2.2.2.2.2.2.2.2.1, E135_25.2.2.2.2.2.2.2.2.2.2.2.2.2.2.2.1, E135_25.2.2.2.2.2.2.2.2.2.2.2.2.2.2.2.2.1, E135_25.2.2.2.2.2.2.2.2.2.2.2.2.2.2.2.2.2.1, E135_25.2.2.2.2.2.2.2.2.2.2.2.2.2.2.2.2.2.2.1, E135_25.2.2.2.2.2.2.2.2.2.2.2.2.2.2.2.2.2.2.2, E135_62, dShG, dShP, dShR, g23, pix_nI, g12, n13, n14]
        exact ih (c ++ [x]) _ _ (by omega) (by rw [List.length_append, List.length_singleton]; omega) hcd ⟨g23, hst, g24, hw4⟩ (fun I' A' q1 q2 q3 => hP' I' A' (lyS_trans hly q1) q2 q3)
end MPa
