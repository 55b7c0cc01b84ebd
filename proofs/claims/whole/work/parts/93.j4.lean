/-! sheets on both sides; taken -/
def upF {α : Type} (f : Nat → α) (j : Nat) (v : α) : Nat → α := fun s => if s = j then v else f s
theorem c47 {s : Nat} (h : s < 4) : cSh[47 + 2 * s]? = some sSheet ∧ cSh[48 + 2 * s]? = some (sArr 40) := by
  match s, h with
  | 0, _ => exact ⟨rfl, rfl⟩
  | 1, _ => exact ⟨rfl, rfl⟩
  | 2, _ => exact ⟨rfl, rfl⟩
  | 3, _ => exact ⟨rfl, rfl⟩
section J4
variable {I I' A A' : TI} {V V' : TV} {L L' : Nat → Int64} {nt many day rl : Nat} {R : Nat → Nat → Nat} {th : Nat → Nat} {W : Nat → Nat → List Int32} {e : TE}
theorem S112_in {j : Nat} (hj : j < 4) (d : Nat) (P : MP) : mRun (d + 1) 112 [.ref 0, .int (nI j)] (mkH cSh I V L A) P = P (some (.ref (47 + 2 * j))) (mkH cSh I V L A) := by
  simp (disch := first | assumption | exact mnl_i | exact mnl_r | exact mnl_n | exact mnl_0 | omega) only [↓reduceIte, E112_0, E112_4, E112_13, E112_22, E112_23, B112, cShG, cShR, q_neg, nI_d, q_ll, hj, pix_nI]
theorem S112_out {i : Int32} (hi : i < 0 ∨ ∃ j, 4 ≤ j ∧ j < 2 ^ 31 ∧ i = nI j) (d : Nat) (P : MP) : mRun (d + 1) 112 [.ref 0, .int i] (mkH cSh I V L A) P = P (some .null) (mkH cSh I V L A) := by
  rcases hi with hi | ⟨j, hj, hj2, rfl⟩
  · simp (disch := first | assumption | exact mnl_i | exact mnl_r | exact mnl_n | exact mnl_0 | omega) only [↓reduceIte, E112_0, E112_4, E112_13, E112_22, E112_23, B112, cShG, cShR, hi]
  · have h2 : ¬ j < 4 := by omega
    simp (disch := first | assumption | exact mnl_i | exact mnl_r | exact mnl_n | exact mnl_0 | omega) only [↓reduceIte, E112_0, E112_4, E112_13, E112_22, E112_23, B112, cShG, cShR, q_neg, nI_d, q_ll, h2]
theorem S22 {j : Nat} (hj : j < 4) (so n : Int32) (d : Nat) (P : MP) (hP : ∀ A', (∀ b, b ≠ 48 + 2 * j → A' b = A b) → (∀ i, i < 40 → A' (48 + 2 * j) i = 0) → P none (mkH cSh (up2 (up2 I (47 + 2 * j) 1 so) (47 + 2 * j) 2 n) V L A')) : mRun (d + 1) 22 [.ref (47 + 2 * j), .int so, .int n] (mkH cSh I V L A) P := by
  obtain ⟨t1, t2⟩ := c47 hj
  have e : 47 + 2 * j + 1 = 48 + 2 * j := by omega
  simp (disch := first | assumption | exact mnl_i | exact mnl_r | exact mnl_n | exact mnl_0 | omega) only [↓reduceIte, tolS, E22_0, B22, kSheet]
  refine up_loop 40 (fun k (A1 : TI) => mFr d 22 12 [some (.ref (47 + 2 * j)), some (.int so), some (.int n), some (.int (nI k))] [] (mkH cSh (up2 (up2 I (47 + 2 * j) 1 so) (47 + 2 * j) 2 n) V L A1) P) (fun k A1 => (∀ b, b ≠ 48 + 2 * j → A1 b = A b) ∧ ∀ i, i < k → A1 (48 + 2 * j) i = 0) (fun k A1 hk hi ih => ?_) (fun A1 hi => ?_) A ⟨fun _ _ => rfl, fun i hi => absurd hi (Nat.not_lt_zero _)⟩
  · have ih := ih (upA A1 (48 + 2 * j) (upd (A1 (48 + 2 * j)) k 0)) ⟨fun b hb => by rw [upA_n hb]; exact hi.1 b hb, fun i hik => by
      rw [upA_s]
      by_cases c : i = k
      · rw [c, upd_s]
      · rw [upd_n c]; exact hi.2 i (by omega)⟩
    simp (disch := first | assumption | exact mnl_i | exact mnl_r | exact mnl_n | exact mnl_0 | omega) only [↓reduceIte, tolS, E22_12, kSheet, e, kA t2, nI_d, q_ll, hk]
    simp (disch := first | assumption | exact mnl_i | exact mnl_r | exact mnl_n | exact mnl_0 | omega) only [E22_21, kSheet, e, kA t2, pix_nI, q_add]
    exact ih
  · have c : ¬ 40 < 40 := by omega
    simp (disch := first | assumption | exact mnl_i | exact mnl_r | exact mnl_n | exact mnl_0 | omega) only [↓reduceIte, tolS, E22_12, E22_34, kSheet, e, kA t2, nI_d, q_ll, c]
    exact hP A1 hi.1 hi.2
theorem CHs_up {so : Nat → Int32} {sz : Nat → Nat} {ce : Nat → Nat → Int32} (h : CHs I A so sz ce) {j n : Nat} {v : Int32} {c : Nat → Int32} (fI : ∀ b g, b ≠ 47 + 2 * j → 47 ≤ b ∧ b ≤ 53 → I' b g = I b g) (fA : ∀ b, b ≠ 48 + 2 * j → 48 ≤ b ∧ b ≤ 54 → A' b = A b) (h1 : I' (47 + 2 * j) 1 = v) (h2 : I' (47 + 2 * j) 2 = nI n) (h3 : ∀ i, i < 40 → A' (48 + 2 * j) i = c i) : CHs I' A' (upF so j v) (upF sz j n) (upF ce j c) := by
  intro s hs
  unfold upF
  by_cases e : s = j
  · rw [if_pos e, if_pos e, if_pos e, e]; exact ⟨h1, h2, h3⟩
  · rw [if_neg e, if_neg e, if_neg e, fI _ 1 (by omega) (by omega), fI _ 2 (by omega) (by omega), fA _ (by omega) (by omega)]
    exact h s hs
theorem MHs_up {so : Nat → Int32} {sz : Nat → Nat} {ce : Nat → Nat → Int32} (h : MHs A so sz ce) {j n : Nat} {v : Int32} {c : Nat → Int32} (f1 : ∀ s, s ≠ j → A' 20 s = A 20 s) (f2 : ∀ s, s ≠ j → A' 21 s = A 21 s) (f3 : ∀ q, ¬ (40 * j ≤ q ∧ q < 40 * j + 40) → A' 22 q = A 22 q) (h1 : A' 20 j = v) (h2 : A' 21 j = nI n) (h3 : ∀ i, i < 40 → A' 22 (40 * j + i) = c i) : MHs A' (upF so j v) (upF sz j n) (upF ce j c) := by
  intro s hs
  unfold upF
  by_cases e : s = j
  · rw [if_pos e, if_pos e, if_pos e, e]; exact ⟨h1, h2, h3⟩
  · rw [if_neg e, if_neg e, if_neg e, f1 s e, f2 s e]
    obtain ⟨g1, g2, g3⟩ := h s hs
    refine ⟨g1, g2, fun i hi => ?_⟩
    rw [f3 _ (by omega)]
    exact g3 i hi
theorem M118_in {j : Nat} (hj : j < 4) (d : Nat) (h : MH) (P : MP) : mRun (d + 2) 118 [.int (nI j)] h P = P (some (.int 1)) h := by
  have w := fun d h P => M114_in (y := 3) (n := 3) (j := j) rfl (by omega) (by omega) d h P
  simp (disch := first | assumption | exact mnl_i | exact mnl_r | exact mnl_n | exact mnl_0 | omega) only [↓reduceIte, tolS, E118_0, B118, w]
theorem M118_out {i : Int32} (hi : i < 0 ∨ ∃ j, 4 ≤ j ∧ j < 2 ^ 31 ∧ i = nI j) (d : Nat) (h : MH) (P : MP) : mRun (d + 2) 118 [.int i] h P = P (some (.int 0)) h := by
  have w := fun d h P => M114_out (y := 3) (n := 3) (x := i) rfl hi d h P
  simp (disch := first | assumption | exact mnl_i | exact mnl_r | exact mnl_n | exact mnl_0 | omega) only [↓reduceIte, tolS, E118_0, B118, w]
def setE (e : TE) (j n : Nat) (v : Int32) (c : Nat → Int32) : TE := (e.1, e.2.1, (upF e.2.2.1 j v, upF e.2.2.2.1 j n, upF e.2.2.2.2 j c))
theorem FB_set {j n : Nat} {v : Int32} {c : Nat → Int32} (hF : FB nt many R th day rl e) (hv : v = -1 ∨ v = 0 ∨ v = 1 ∨ v = 2) (hn : n ≤ 40) : FB nt many R th day rl (setE e j n v c) := by
  refine ⟨hF.1, hF.2.1, hF.2.2.1, fun s hs => ?_⟩
  show (upF e.2.2.1 j v s = -1 ∨ upF e.2.2.1 j v s = 0 ∨ upF e.2.2.1 j v s = 1 ∨ upF e.2.2.1 j v s = 2) ∧ upF e.2.2.2.1 j n s ≤ 40
  unfold upF
  by_cases es : s = j
  · rw [if_pos es, if_pos es]; exact ⟨hv, hn⟩
  · rw [if_neg es, if_neg es]; exact hF.2.2.2 s hs
/-- a sheet changes, and no more -/
theorem CB_set {j n : Nat} {v : Int32} {c : Nat → Int32} (hF : FB nt many R th day rl e) (h : CB I V A nt W many R th day rl e) (hj : j < 4) (fI : ∀ b g, b ≠ 47 + 2 * j → I' b g = I b g) (fA : ∀ b, b ≠ 48 + 2 * j → A' b = A b) (h1 : I' (47 + 2 * j) 1 = v) (h2 : I' (47 + 2 * j) 2 = nI n) (h3 : ∀ i, i < 40 → A' (48 + 2 * j) i = c i) : CB I' V A' nt W many R th day rl (setE e j n v c) :=
  ⟨CG_fr h.1 hF.1.1 (fun b g hb => fI b g (by omega)) rfl (fA 60 (by omega)), CT_fr h.2.1 hF.1.2.2.2.2.2 (fI 0 3 (by omega)) (fun i hi => fI _ 0 (by omega)) (fun b hb _ => fA b (by omega)), ⟨⟨by rw [fI 2 1 (by omega)]; exact h.2.2.1.1, by rw [fA 3 (by omega)]; exact h.2.2.1.2⟩, CK_fr h.2.2.2.1 (FK_im hF.2.2.1) (fI 0 8 (by omega)) (fun b g hb => fI b g (by omega)) rfl (fA 62 (by omega)), CHs_up h.2.2.2.2 (fun b g hb _ => fI b g hb) (fun b hb _ => fA b hb) h1 h2 h3⟩⟩
theorem MB_set {j n : Nat} {v : Int32} {c : Nat → Int32} (h : MB I A nt W many R th day rl e) (fI : ∀ f, f < 30 ∨ 36 < f → I' 0 f = I 0 f) (fA : ∀ b, b ≠ 13 → b ≠ 14 → b ≠ 20 → b ≠ 21 → b ≠ 22 → A' b = A b) (f1 : ∀ s, s ≠ j → A' 20 s = A 20 s) (f2 : ∀ s, s ≠ j → A' 21 s = A 21 s) (f3 : ∀ q, ¬ (40 * j ≤ q ∧ q < 40 * j + 40) → A' 22 q = A 22 q) (h1 : A' 20 j = v) (h2 : A' 21 j = nI n) (h3 : ∀ i, i < 40 → A' 22 (40 * j + i) = c i) : MB I' A' nt W many R th day rl (setE e j n v c) :=
  ⟨MG_fr h.1 (fun f hf => fI f (by omega)) (fun b hb => fA b (by omega) (by omega) (by omega) (by omega) (by omega)), MT_fr h.2.1 (fI 12 (by omega)) (fI 16 (by omega)) (fun b hb => fA b (by omega) (by omega) (by omega) (by omega) (by omega)), ⟨⟨by rw [fI 10 (by omega)]; exact h.2.2.1.1, by rw [fA 8 (by omega) (by omega) (by omega) (by omega) (by omega)]; exact h.2.2.1.2⟩, MK_fr h.2.2.2.1 (fun f hf => fI f (by omega)) (fA 18 (by omega) (by omega) (by omega) (by omega) (by omega)) (fA 19 (by omega) (by omega) (by omega) (by omega) (by omega)), MHs_up h.2.2.2.2 f1 f2 f3 h1 h2 h3⟩⟩
/-- the reference's sheet(), what it lays -/
theorem M187_lay {j : Nat} (hj : j < 4) (so n : Int32) (v : Int32) (d : Nat) (P : MP) (hP : ∀ A', (∀ b, b ≠ 20 → b ≠ 21 → b ≠ 22 → A' b = A b) → (A' 20 = upd (A 20) j so) → (A' 21 = upd (A 21) j v) → (∀ i, i < 40 → A' 22 (40 * j + i) = 0) → (∀ q, ¬ (40 * j ≤ q ∧ q < 40 * j + 40) → A' 22 q = A 22 q) → P (some (.int 1)) (mkH dSh I V L A')) :
    mFr d 187 64 [some (.ref 0), some (.int (nI j)), some (.int so), some (.int n), none] [.int v, .int (nI j), .ref 21] (mkH dSh I V L (upA A 20 (upd (A 20) j so))) P := by
  simp (disch := first | assumption | exact mnl_i | exact mnl_r | exact mnl_n | exact mnl_0 | omega) only [↓reduceIte, tolS, E187_64, dShG, dShR, pix_nI, upA_n]
  refine up_loop 40 (fun k (A1 : TI) => mFr d 187 68 [some (.ref 0), some (.int (nI j)), some (.int so), some (.int n), some (.int (nI k))] [] (mkH dSh I V L A1) P) (fun k A1 => (∀ b, b ≠ 22 → A1 b = upA (upA A 20 (upd (A 20) j so)) 21 (upd (A 21) j v) b) ∧ (∀ i, i < k → A1 22 (40 * j + i) = 0) ∧ ∀ q, ¬ (40 * j ≤ q ∧ q < 40 * j + 40) → A1 22 q = A 22 q) (fun k A1 hk hi ih => ?_) (fun A1 hi => ?_) _ ⟨fun _ _ => rfl, fun i hi => absurd hi (Nat.not_lt_zero _), fun q _ => by rw [upA_n (by decide), upA_n (by decide)]⟩
  · have hx : 40 * j + k < 160 := by omega
    have ih := ih (upA A1 22 (upd (A1 22) (40 * j + k) 0)) ⟨fun b hb => by rw [upA_n hb]; exact hi.1 b hb, fun i hik => by
      rw [upA_s]
      by_cases c : i = k
      · rw [c, upd_s]
      · rw [upd_n (by omega)]; exact hi.2.1 i (by omega), fun q hq => by rw [upA_s, upd_n (by omega)]; exact hi.2.2 q hq⟩
    simp (disch := first | assumption | exact mnl_i | exact mnl_r | exact mnl_n | exact mnl_0 | omega) only [↓reduceIte, tolS, E187_68, q_lt, hk]
    simp (disch := first | assumption | exact mnl_i | exact mnl_r | exact mnl_n | exact mnl_0 | omega) only [E187_75, dShG, dShR, q_mul, q_aa, pix_nI, q_add]
    exact ih
  · have c : ¬ 40 < 40 := by omega
    simp (disch := first | assumption | exact mnl_i | exact mnl_r | exact mnl_n | exact mnl_0 | omega) only [↓reduceIte, tolS, E187_68, E187_94, q_lt, c]
    exact hP A1 (fun b h1 h2 h3 => by rw [hi.1 b h3, upA_n h2, upA_n h1]) (by rw [hi.1 20 (by omega), upA_n (by omega), upA_s]) (by rw [hi.1 21 (by omega), upA_s]) hi.2.1 hi.2.2
theorem so3 (so : Int32) : so = -1 ∨ (∃ k, k < 3 ∧ so = nI k) ∨ so < -1 ∨ (¬ so < -1 ∧ (2 : Int32) < so) := by
  by_cases h : so = -1
  · exact Or.inl h
  · by_cases h2 : so < -1
    · exact Or.inr (Or.inr (Or.inl h2))
    · rcases i32_ix so 3 with ⟨k, hk, _, e⟩ | hn | ⟨k, hk, hk2, e⟩
      · exact Or.inr (Or.inl ⟨k, hk, e⟩)
      · exfalso
        rw [i32_lt] at hn h2
        have e0 : (0 : Int32).toInt = 0 := by decide
        have e1 : (-1 : Int32).toInt = -1 := by decide
        exact h (Int32.toInt_inj.mp (by omega))
      · refine Or.inr (Or.inr (Or.inr ⟨h2, ?_⟩))
        rw [e]
        exact (nI_ltI (a := 2) (b := k) (by omega) hk2).mpr (by omega)
theorem J106 {hC hM : MH} (h : REL hC hM) (d : Nat) (x so n : Int32) : JR (d + 90) 106 187 [.int x, .int so, .int n] hC hM := by
  obtain ⟨I, V, L, A, I', V', L', A', nt, W, many, R, th, day, rl, e, ec, em, hF, hc, hm⟩ := REL_B h
  rw [ec, em]
  unfold JR
  rcases i32_ix x 4 with ⟨j, hj, hj2, rfl⟩ | ho
  · have hlt : 47 + 2 * j < 900 := by omega
    have ht1 := (c47 hj).1
    rcases so3 so with rfl | ⟨k, hk, rfl⟩ | h1 | ⟨h1, h2⟩
    · simp (disch := first | assumption | exact mnl_i | exact mnl_r | exact mnl_n | exact mnl_0 | omega) only [↓reduceIte, tolS, E106_0, E106_12, E106_17, E106_25, E106_30.1, E106_30.2.1, E106_30.2.2.1, E106_30.2.2.2.1, E106_30.2.2.2.2.1, B106, cShG, kSheet, S112_in hj, hlt, show ¬ (-1 : Int32) < -1 by decide, show ¬ (2 : Int32) < -1 by decide]
      refine S22 hj _ _ _ _ (fun A1 q1 q2 => ?_)
      simp (disch := first | assumption | exact mnl_i | exact mnl_r | exact mnl_n | exact mnl_0 | omega) only [↓reduceIte, tolN, tolS, E106_30.2.2.2.2.2.1, E106_30.2.2.2.2.2.2]
      simp (disch := first | assumption | exact mnl_i | exact mnl_r | exact mnl_n | exact mnl_0 | omega) only [↓reduceIte, tolS, E187_0, E187_7, E187_19, E187_30, E187_43, E187_59, B187, dShG, dShR, M118_in hj, M114p, n10, show ¬ (-1 : Int32) < -1 by decide, show ¬ (2 : Int32) < -1 by decide, show (-1 : Int32) < 0 by decide, pix_nI, upA_n]
      refine M187_lay hj _ _ 0 _ _ (fun A2 p1 p2 p3 p4 p5 => ?_)
      exact JR_B (e := setE e j 0 (-1) (fun _ => 0)) (FB_set hF (Or.inl rfl) (by omega)) (CB_set hF hc hj (fun b g hb => by rw [up2_a hb, up2_a hb]) q1 (by rw [up2_f (by decide), up2_s]) (by rw [up2_s]; rfl) q2) (MB_set hm (fun _ _ => rfl) (fun b _ _ h3 h4 h5 => p1 b h3 h4 h5) (fun s hs => by rw [p2, upd_n hs]) (fun s hs => by rw [p3, upd_n hs]) p5 (by rw [p2, upd_s]) (by rw [p3, upd_s]; rfl) p4)
    · have hk1 : ¬ nI k < -1 := by
        rw [i32_lt, nI_toInt (by omega)]
        have e1 : (-1 : Int32).toInt = -1 := by decide
        omega
      have hk2 : ¬ 2 < k := by omega
      have hkm : ¬ nI k = -1 := nI_m1 (by omega)
      rcases i32_ix n 41 with ⟨q, hq, hq2, rfl⟩ | hn | ⟨q, hq, hq2, rfl⟩
      · have hq40 : ¬ 40 < q := by omega
        simp (disch := first | assumption | exact mnl_i | exact mnl_r | exact mnl_n | exact mnl_0 | omega) only [↓reduceIte, tolS, E106_0, E106_12, E106_17, E106_25, E106_39, E106_48, E106_55.1, E106_55.2.1, E106_55.2.2.1, E106_55.2.2.2.1, E106_55.2.2.2.2.1, B106, cShG, kSheet, S112_in hj, hlt, hk1, q_gt, hk2, hkm, hq40, q_neg]
        refine S22 hj _ _ _ _ (fun A1 q1 q2 => ?_)
        simp (disch := first | assumption | exact mnl_i | exact mnl_r | exact mnl_n | exact mnl_0 | omega) only [↓reduceIte, tolN, tolS, E106_55.2.2.2.2.2.1, E106_55.2.2.2.2.2.2]
        simp (disch := first | assumption | exact mnl_i | exact mnl_r | exact mnl_n | exact mnl_0 | omega) only [↓reduceIte, tolS, E187_0, E187_7, E187_19, E187_23, E187_30, E187_34, E187_43, E187_63, B187, dShG, dShR, M118_in hj, M114p, n10, hk1, q_gt, hk2, hkm, hq40, q_neg, pix_nI, upA_n]
        refine M187_lay hj _ _ _ _ _ (fun A2 p1 p2 p3 p4 p5 => ?_)
        have hkk : nI k = -1 ∨ nI k = 0 ∨ nI k = 1 ∨ nI k = 2 := by
          match k, hk with
          | 0, _ => exact Or.inr (Or.inl rfl)
          | 1, _ => exact Or.inr (Or.inr (Or.inl rfl))
          | 2, _ => exact Or.inr (Or.inr (Or.inr rfl))
        exact JR_B (e := setE e j q (nI k) (fun _ => 0)) (FB_set hF hkk (by omega)) (CB_set hF hc hj (fun b g hb => by rw [up2_a hb, up2_a hb]) q1 (by rw [up2_f (by decide), up2_s]) (by rw [up2_s]) q2) (MB_set hm (fun _ _ => rfl) (fun b _ _ h3 h4 h5 => p1 b h3 h4 h5) (fun s hs => by rw [p2, upd_n hs]) (fun s hs => by rw [p3, upd_n hs]) p5 (by rw [p2, upd_s]) (by rw [p3, upd_s]) p4)
      · have h40 : ¬ (40 : Int32) < n := by
          rw [i32_lt] at hn ⊢
          have e0 : (0 : Int32).toInt = 0 := by decide
          have e1 : (40 : Int32).toInt = 40 := by decide
          omega
        simp (disch := first | assumption | exact mnl_i | exact mnl_r | exact mnl_n | exact mnl_0 | omega) only [↓reduceIte, tolS, E106_0, E106_12, E106_17, E106_25, E106_39, E106_48, E106_52, B106, cShG, S112_in hj, hlt, hk1, q_gt, hk2, hkm, h40, hn]
        simp (disch := first | assumption | exact mnl_i | exact mnl_r | exact mnl_n | exact mnl_0 | omega) only [↓reduceIte, tolS, E187_0, E187_7, E187_19, E187_23, E187_27, B187, dShG, dShR, M118_in hj, M114p, n10, hk1, q_gt, hk2, hkm, q_neg, hn]
        exact JR_B hF hc hm
      · have hq40 : 40 < q := by omega
        simp (disch := first | assumption | exact mnl_i | exact mnl_r | exact mnl_n | exact mnl_0 | omega) only [↓reduceIte, tolS, E106_0, E106_12, E106_17, E106_25, E106_39, E106_45, B106, cShG, S112_in hj, hlt, hk1, q_gt, hk2, hkm, hq40]
        simp (disch := first | assumption | exact mnl_i | exact mnl_r | exact mnl_n | exact mnl_0 | omega) only [↓reduceIte, tolS, E187_0, E187_7, E187_19, E187_23, E187_30, E187_34, E187_40, B187, dShG, dShR, M118_in hj, M114p, n10, hk1, q_gt, hk2, hkm, q_neg, hq40]
        exact JR_B hF hc hm
    · simp (disch := first | assumption | exact mnl_i | exact mnl_r | exact mnl_n | exact mnl_0 | omega) only [↓reduceIte, tolS, E106_0, E106_12, E106_22, B106, cShG, S112_in hj, hlt, h1]
      simp (disch := first | assumption | exact mnl_i | exact mnl_r | exact mnl_n | exact mnl_0 | omega) only [↓reduceIte, tolS, E187_0, E187_7, E187_16, B187, dShG, dShR, M118_in hj, M114p, n10, h1]
      exact JR_B hF hc hm
    · simp (disch := first | assumption | exact mnl_i | exact mnl_r | exact mnl_n | exact mnl_0 | omega) only [↓reduceIte, tolS, E106_0, E106_12, E106_17, E106_22, B106, cShG, S112_in hj, hlt, h1, h2]
      simp (disch := first | assumption | exact mnl_i | exact mnl_r | exact mnl_n | exact mnl_0 | omega) only [↓reduceIte, tolS, E187_0, E187_7, E187_16, B187, dShG, dShR, M118_in hj, M114p, n10, h1, h2]
      exact JR_B hF hc hm
  · simp (disch := first | assumption | exact mnl_i | exact mnl_r | exact mnl_n | exact mnl_0 | omega) only [↓reduceIte, tolS, E106_0, E106_22, B106, cShG, S112_out ho]
    simp (disch := first | assumption | exact mnl_i | exact mnl_r | exact mnl_n | exact mnl_0 | omega) only [↓reduceIte, tolS, E187_0, E187_16, B187, dShG, dShR, M118_out ho]
    exact JR_B hF hc hm
end J4
