/-! THE STATE that class and reference share: many riders R, thoughts th, a day, the rule rl; nt texts W; the tape n, b; the image; the sheets -/
abbrev TI : Type := Nat → Nat → Int32
abbrev TV : Type := Nat → Nat → Nat
def FG (nt many : Nat) (R : Nat → Nat → Nat) (th : Nat → Nat) (day rl : Nat) : Prop := many ≤ 5 ∧ (∀ j, j < many → rOk (R j)) ∧ day ≤ 999 ∧ (∀ p, p < 24 → th p ≤ 9) ∧ rl < nt ∧ nt ≤ 6
def CG (I : TI) (V : TV) (A : TI) (many : Nat) (R : Nat → Nat → Nat) (th : Nat → Nat) (day rl : Nat) : Prop :=
  I 4 1 = nI many ∧ (∀ j, j < many → ∀ f, f < 6 → I (6 + 1 * j) f = nI (R j f)) ∧ I 59 1 = nI day ∧ (∀ p, p < 24 → A 60 p = nI (th p)) ∧ V 59 2 = 23 + 4 * rl
def CT (I A : TI) (nt : Nat) (W : Nat → Nat → List Int32) : Prop := I 0 3 = nI nt ∧ (∀ i, i < nt → txt A (23 + 4 * i) (W i)) ∧ ∀ i, i < 6 → I (23 + 4 * i) 0 = nI i
def MGm (I A : TI) (many : Nat) (R : Nat → Nat → Nat) (th : Nat → Nat) (day rl : Nat) : Prop :=
  I 0 2 = nI many ∧ (∀ j, j < many → ∀ f, f < 6 → A (2 + f) j = nI (R j f)) ∧ I 0 0 = nI day ∧ (∀ p, p < 24 → A 1 p = nI (th p)) ∧ I 0 9 = nI rl
def mtc (A : TI) (i : Nat) (W : Nat → List Int32) (cd : Nat) : Prop := ∀ p, p < 3 → ∃ bg, A 9 (3 * i + p) = nI bg ∧ A 10 (3 * i + p) = nI (W p).length ∧ bg + (W p).length ≤ cd ∧ (∀ j, j < (W p).length → A 11 (bg + j) = trT ((W p).getD j 0)) ∧ wf (W p) 0 ∧ (W p).length ≤ 160
def MT (I A : TI) (nt : Nat) (W : Nat → Nat → List Int32) : Prop := I 0 12 = nI nt ∧ ∃ cd, I 0 16 = nI cd ∧ cd ≤ 160 * nt ∧ ∀ i, i < nt → mtc A i (W i) cd
def CX (I A : TI) (n : Nat) (b : Nat → Nat) : Prop := I 2 1 = nI n ∧ ∀ i, i < n → A 3 i = nI (b i)
def MX (I A : TI) (n : Nat) (b : Nat → Nat) : Prop := I 0 10 = nI n ∧ ∀ i, i < n → A 8 i = nI (b i)
def FX (n : Nat) (b : Nat → Nat) : Prop := n ≤ 160 ∧ ∀ i, i < n → b i ≤ 255
def CK (I : TI) (V : TV) (A : TI) (kp im : Nat) (R : Nat → Nat → Nat) (th : Nat → Nat) (day rl : Nat) : Prop := I 0 8 = nI kp ∧
  (kp = 1 → I 11 1 = nI im ∧ (∀ j, j < im → ∀ f, f < 6 → I (13 + 1 * j) f = nI (R j f)) ∧ I 61 1 = nI day ∧ (∀ p, p < 24 → A 62 p = nI (th p)) ∧ V 61 2 = 23 + 4 * rl)
def MK (I A : TI) (kp im : Nat) (R : Nat → Nat → Nat) (th : Nat → Nat) (day rl : Nat) : Prop := I 0 40 = nI kp ∧
  (kp = 1 → I 0 41 = nI im ∧ I 0 42 = nI day ∧ I 0 43 = nI rl ∧ (∀ p, p < 24 → A 18 p = nI (th p)) ∧ ∀ j, j < im → ∀ f, f < 5 → A 19 (5 * f + j) = nI (R j (f + 1)))
def FK (nt many : Nat) (R : Nat → Nat → Nat) (kp im : Nat) (iR : Nat → Nat → Nat) (th : Nat → Nat) (day rl : Nat) : Prop := kp ≤ 1 ∧ (kp = 1 → im ≤ many ∧ (∀ j, j < im → iR j 0 = R j 0) ∧ FG nt im iR th day rl)
def CHs (I A : TI) (so : Nat → Int32) (sz : Nat → Nat) (ce : Nat → Nat → Int32) : Prop := ∀ s, s < 4 → I (47 + 2 * s) 1 = so s ∧ I (47 + 2 * s) 2 = nI (sz s) ∧ ∀ i, i < 40 → A (48 + 2 * s) i = ce s i
def MHs (A : TI) (so : Nat → Int32) (sz : Nat → Nat) (ce : Nat → Nat → Int32) : Prop := ∀ s, s < 4 → A 20 s = so s ∧ A 21 s = nI (sz s) ∧ ∀ i, i < 40 → A 22 (40 * s + i) = ce s i
def FH (so : Nat → Int32) (sz : Nat → Nat) : Prop := ∀ s, s < 4 → (so s = -1 ∨ so s = 0 ∨ so s = 1 ∨ so s = 2) ∧ sz s ≤ 40
/-- what is told of tape, image, sheets -/
abbrev TE : Type := (Nat × (Nat → Nat)) × (Nat × Nat × (Nat → Nat → Nat) × (Nat → Nat) × Nat × Nat) × ((Nat → Int32) × (Nat → Nat) × (Nat → Nat → Int32))
def CE (I : TI) (V : TV) (A : TI) (e : TE) : Prop := CX I A e.1.1 e.1.2 ∧ CK I V A e.2.1.1 e.2.1.2.1 e.2.1.2.2.1 e.2.1.2.2.2.1 e.2.1.2.2.2.2.1 e.2.1.2.2.2.2.2 ∧ CHs I A e.2.2.1 e.2.2.2.1 e.2.2.2.2
def ME (I A : TI) (e : TE) : Prop := MX I A e.1.1 e.1.2 ∧ MK I A e.2.1.1 e.2.1.2.1 e.2.1.2.2.1 e.2.1.2.2.2.1 e.2.1.2.2.2.2.1 e.2.1.2.2.2.2.2 ∧ MHs A e.2.2.1 e.2.2.2.1 e.2.2.2.2
def FE (nt many : Nat) (R : Nat → Nat → Nat) (e : TE) : Prop := FX e.1.1 e.1.2 ∧ FK nt many R e.2.1.1 e.2.1.2.1 e.2.1.2.2.1 e.2.1.2.2.2.1 e.2.1.2.2.2.2.1 e.2.1.2.2.2.2.2 ∧ FH e.2.2.1 e.2.2.2.1
/-- both heaps hold the same -/
def REL (hC hM : MH) : Prop := ∃ I V L A I' V' L' A' nt W many R th day rl e, hC = mkH cSh I V L A ∧ hM = mkH dSh I' V' L' A' ∧ FG nt many R th day rl ∧ FE nt many R e ∧ CG I V A many R th day rl ∧ CT I A nt W ∧ CE I V A e ∧ MGm I' A' many R th day rl ∧ MT I' A' nt W ∧ ME I' A' e
/-- what thought may write: in the class, in the reference -/
def scI (b : Nat) : Prop := b = 19 ∨ b = 20 ∨ b = 63
def scA (b : Nat) : Prop := b = 21 ∨ b = 22 ∨ b = 64 ∨ (25 ≤ b ∧ b ≤ 45 ∧ b % 4 = 1)
def cS (I : TI) (V : TV) (A : TI) (I' : TI) (V' : TV) (A' : TI) : Prop := (∀ b g, ¬ scI b → I' b g = I b g) ∧ (∀ b g, b ≠ 63 → V' b g = V b g) ∧ ∀ b, ¬ scA b → A' b = A b
def mSx (I A I' A' : TI) : Prop := (∀ f, f < 30 ∨ 36 < f → I' 0 f = I 0 f) ∧ ∀ b, ¬ (13 ≤ b ∧ b ≤ 17) → A' b = A b
theorem cS_refl {I : TI} {V : TV} {A : TI} : cS I V A I V A := ⟨fun _ _ _ => rfl, fun _ _ _ => rfl, fun _ _ => rfl⟩
theorem cS_trans {I : TI} {V : TV} {A I1 : TI} {V1 : TV} {A1 I2 : TI} {V2 : TV} {A2 : TI} (h : cS I V A I1 V1 A1) (g : cS I1 V1 A1 I2 V2 A2) : cS I V A I2 V2 A2 :=
  ⟨fun b f k => by rw [g.1 b f k, h.1 b f k], fun b f k => by rw [g.2.1 b f k, h.2.1 b f k], fun b k => by rw [g.2.2 b k, h.2.2 b k]⟩
theorem mSx_refl {I A : TI} : mSx I A I A := ⟨fun _ _ => rfl, fun _ _ => rfl⟩
theorem mSx_trans {I A I1 A1 I2 A2 : TI} (h : mSx I A I1 A1) (g : mSx I1 A1 I2 A2) : mSx I A I2 A2 := ⟨fun f k => by rw [g.1 f k, h.1 f k], fun b k => by rw [g.2 b k, h.2 b k]⟩
theorem FE_R {nt many : Nat} {R R' : Nat → Nat → Nat} {e : TE} (h : FE nt many R e) (hk : ∀ j, j < many → R' j 0 = R j 0) : FE nt many R' e := by
  obtain ⟨h1, ⟨h2, h3⟩, h4⟩ := h
  exact ⟨h1, ⟨h2, fun z => ⟨(h3 z).1, fun j hj => by rw [hk j (by have := (h3 z).1; omega)]; exact (h3 z).2.1 j hj, (h3 z).2.2⟩⟩, h4⟩
section S1
variable {I I' : TI} {V V' : TV} {A A' : TI} {nt many day rl : Nat} {R : Nat → Nat → Nat} {th : Nat → Nat} {W : Nat → Nat → List Int32} {e : TE}
theorem CG_S (h : CG I V A many R th day rl) (hm : many ≤ 5) (s : cS I V A I' V' A') : CG I' V' A' many R th day rl := by
  obtain ⟨h1, h2, h3, h4, h5⟩ := h
  refine ⟨by rw [s.1 4 1 (by unfold scI; omega)]; exact h1, fun j hj f hf => by rw [s.1 _ f (by unfold scI; omega)]; exact h2 j hj f hf, by rw [s.1 59 1 (by unfold scI; omega)]; exact h3, fun p hp => by rw [s.2.2 60 (by unfold scA; omega)]; exact h4 p hp, by rw [s.2.1 59 2 (by omega)]; exact h5⟩
theorem CT_S (h : CT I A nt W) (hn : nt ≤ 6) (s : cS I V A I' V' A') : CT I' A' nt W := by
  obtain ⟨h1, h2, h3⟩ := h
  refine ⟨by rw [s.1 0 3 (by unfold scI; omega)]; exact h1, fun i hi => ?_, fun i hi => by rw [s.1 _ 0 (by unfold scI; omega)]; exact h3 i hi⟩
  have := h2 i hi
  unfold txt at this ⊢
  rw [s.2.2 (23 + 4 * i + 3) (by unfold scA; omega), s.2.2 (23 + 4 * i + 1) (by unfold scA; omega)]
  exact this
theorem CE_S (h : CE I V A e) (hk : FE nt many R e) (s : cS I V A I' V' A') : CE I' V' A' e := by
  obtain ⟨⟨h1, h2⟩, ⟨h3, h4⟩, h5⟩ := h
  refine ⟨⟨by rw [s.1 2 1 (by unfold scI; omega)]; exact h1, fun i hi => by rw [s.2.2 3 (by unfold scA; omega)]; exact h2 i hi⟩, ⟨by rw [s.1 0 8 (by unfold scI; omega)]; exact h3, fun z => ?_⟩, fun i hi => ?_⟩
  · obtain ⟨g1, g2, g3, g4, g5⟩ := h4 z
    have hm := (hk.2.1.2 z).2.2.1
    refine ⟨by rw [s.1 11 1 (by unfold scI; omega)]; exact g1, fun j hj f hf => by rw [s.1 _ f (by unfold scI; omega)]; exact g2 j hj f hf, by rw [s.1 61 1 (by unfold scI; omega)]; exact g3, fun p hp => by rw [s.2.2 62 (by unfold scA; omega)]; exact g4 p hp, by rw [s.2.1 61 2 (by omega)]; exact g5⟩
  · rw [s.1 _ 1 (by unfold scI; omega), s.1 _ 2 (by unfold scI; omega), s.2.2 _ (by unfold scA; omega)]
    exact h5 i hi
theorem MG_S (h : MGm I A many R th day rl) (s : mSx I A I' A') : MGm I' A' many R th day rl := by
  obtain ⟨h1, h2, h3, h4, h5⟩ := h
  refine ⟨by rw [s.1 2 (by omega)]; exact h1, fun j hj f hf => by rw [s.2 _ (by omega)]; exact h2 j hj f hf, by rw [s.1 0 (by omega)]; exact h3, fun p hp => by rw [s.2 1 (by omega)]; exact h4 p hp, by rw [s.1 9 (by omega)]; exact h5⟩
theorem MT_S (h : MT I A nt W) (s : mSx I A I' A') : MT I' A' nt W := by
  obtain ⟨h1, cd, h2, h3, h4⟩ := h
  refine ⟨by rw [s.1 12 (by omega)]; exact h1, cd, by rw [s.1 16 (by omega)]; exact h2, h3, fun i hi => ?_⟩
  have := h4 i hi
  unfold mtc at this ⊢
  rw [s.2 9 (by omega), s.2 10 (by omega), s.2 11 (by omega)]
  exact this
theorem ME_S (h : ME I A e) (s : mSx I A I' A') : ME I' A' e := by
  obtain ⟨⟨h1, h2⟩, ⟨h3, h4⟩, h5⟩ := h
  refine ⟨⟨by rw [s.1 10 (by omega)]; exact h1, fun i hi => by rw [s.2 8 (by omega)]; exact h2 i hi⟩, ⟨by rw [s.1 40 (by omega)]; exact h3, fun z => ?_⟩, fun i hi => ?_⟩
  · rw [s.1 41 (by omega), s.1 42 (by omega), s.1 43 (by omega), s.2 18 (by omega), s.2 19 (by omega)]
    exact h4 z
  · rw [s.2 20 (by omega), s.2 21 (by omega), s.2 22 (by omega)]
    exact h5 i hi
theorem c6j {j : Nat} (h : j < 5) : cSh[6 + 1 * j]? = some sRider := by
  match j, h with
  | 0, _ => rfl
  | 1, _ => rfl
  | 2, _ => rfl
  | 3, _ => rfl
  | 4, _ => rfl
theorem c23 {i : Nat} (h : i < 6) : cSh[23 + 4 * i]? = some sText ∧ cSh[23 + 4 * i + 1]? = some (sArr 160) ∧ cSh[23 + 4 * i + 2]? = some (sArr 160) ∧ cSh[23 + 4 * i + 3]? = some (sArr 3) := by
  match i, h with
  | 0, _ => exact ⟨rfl, rfl, rfl, rfl⟩
  | 1, _ => exact ⟨rfl, rfl, rfl, rfl⟩
  | 2, _ => exact ⟨rfl, rfl, rfl, rfl⟩
  | 3, _ => exact ⟨rfl, rfl, rfl, rfl⟩
  | 4, _ => exact ⟨rfl, rfl, rfl, rfl⟩
  | 5, _ => exact ⟨rfl, rfl, rfl, rfl⟩
/-- a rider at a, the true road -/
theorem WR_at (g : FG nt many R th day rl) (h : CG I V A many R th day rl) (ht : CT I A nt W) {a : Nat} (ha : cSh[a]? = some sRider) {r : Nat → Nat} (hr : ∀ f, f < 6 → I a f = nI (r f)) (hk : rOk r) : WR I V A a 59 (23 + 4 * rl) (W rl) th day r := by
  obtain ⟨g1, g2, g3, g4, g5, g6⟩ := g
  obtain ⟨h1, h2, h3, h4, h5⟩ := h
  obtain ⟨t1, t2, t3, t4⟩ := c23 (i := rl) (by omega)
  have hne : a ≠ 59 := fun z => by rw [z] at ha; cases ha
  exact ⟨⟨ha, rfl, rfl, t1, t2, t3, t4, by omega, hne⟩, h5, ht.2.1 rl g5, hr, h3, h4, hk, g3, g4⟩
theorem WR_of (g : FG nt many R th day rl) (h : CG I V A many R th day rl) (ht : CT I A nt W) {j : Nat} (hj : j < many) : WR I V A (6 + 1 * j) 59 (23 + 4 * rl) (W rl) th day (R j) :=
  WR_at g h ht (c6j (by have := g.1; omega)) (fun f hf => h.2.1 j hj f hf) (g.2.1 j hj)
theorem mtx_of {i cd : Nat} {w : Nat → List Int32} (h : mtc A i w cd) (hc : cd ≤ 3000) : mtx A i w := by
  intro p hp
  obtain ⟨bg, h1, h2, h3, h4, h5, h6⟩ := h p hp
  exact ⟨bg, h1, h2, by omega, h4, h5, h6⟩
theorem WM_of (g : FG nt many R th day rl) (h : MGm I A many R th day rl) (ht : MT I A nt W) {j : Nat} (hj : j < many) : WM I A j rl (W rl) th day (R j) := by
  obtain ⟨g1, g2, g3, g4, g5, g6⟩ := g
  obtain ⟨h1, h2, h3, h4, h5⟩ := h
  obtain ⟨t1, cd, t2, t3, t4⟩ := ht
  exact ⟨by omega, h5, by omega, mtx_of (t4 rl g5) (by omega), ⟨h2 j hj 0 (by omega), h2 j hj 1 (by omega), h2 j hj 2 (by omega), h2 j hj 3 (by omega), h2 j hj 4 (by omega), h2 j hj 5 (by omega)⟩, h3, h4, g2 j hj, g3, g4⟩
/-- the same answer, and the heaps hold the same -/
def JQ (v : Option Value) (h : MH) (v' : Option Value) (h' : MH) : Prop := v = v' ∧ REL h h'
/-- a call on both -/
def JR (d k k' : Nat) (as : List Value) (hC hM : MH) : Prop := mRun d k (.ref 0 :: as) hC (fun v h => mRun d k' (.ref 0 :: as) hM (fun v' h' => JQ v h v' h'))
theorem JR_end {L L' : Nat → Int64} {V2 : TV} {v : Option Value} (g : FG nt many R th day rl) (f : FE nt many R e) (c1 : CG I V A many R th day rl) (c2 : CT I A nt W) (c3 : CE I V A e) (m1 : MGm I' A' many R th day rl) (m2 : MT I' A' nt W) (m3 : ME I' A' e) :
    JQ v (mkH cSh I V L A) v (mkH dSh I' V2 L' A') := ⟨rfl, I, V, L, A, I', V2, L', A', nt, W, many, R, th, day, rl, e, rfl, rfl, g, f, c1, c2, c3, m1, m2, m3⟩
/-- the same, behind thought -/
theorem JR_S {L1 L1' : Nat → Int64} {I1 I1' : TI} {V1 V2 : TV} {A1 A1' : TI} {v : Option Value} (g : FG nt many R th day rl) (f : FE nt many R e) (c1 : CG I V A many R th day rl) (c2 : CT I A nt W) (c3 : CE I V A e) (m1 : MGm I' A' many R th day rl) (m2 : MT I' A' nt W) (m3 : ME I' A' e) (s : cS I V A I1 V1 A1) (s' : mSx I' A' I1' A1') :
    JQ v (mkH cSh I1 V1 L1 A1) v (mkH dSh I1' V2 L1' A1') := JR_end g f (CG_S c1 g.1 s) (CT_S c2 g.2.2.2.2.2 s) (CE_S c3 f s) (MG_S m1 s') (MT_S m2 s') (ME_S m3 s')
end S1
theorem up_loop {α : Type} (n : Nat) (F Inv : Nat → α → Prop) (hstep : ∀ k s, k < n → Inv k s → (∀ s', Inv (k + 1) s' → F (k + 1) s') → F k s) (hexit : ∀ s, Inv n s → F n s) : ∀ s, Inv 0 s → F 0 s := by
  have key : ∀ m k s, k + m = n → Inv k s → F k s := by
    intro m
    induction m with
    | zero => intro k s hk hi; have : k = n := by omega
              subst this; exact hexit s hi
    | succ m ih => intro k s hk hi; exact hstep k s (by omega) hi (fun s' hs' => ih (k + 1) s' (by omega) hs')
  exact fun s hs => key n 0 s (by omega) hs
