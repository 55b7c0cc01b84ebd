/-! the class's grammar, each part of it held to the stack of what waits -/
def fol (lo t : Nat) (cm : Bool) : Prop := lo ≤ rk t → t ≠ 11 → t ≠ 22 → (t = 18 ∨ t = 19) ∧ cm = true
theorem rk_inv (t : Nat) : rk t = (if t = 9 then 1 else if t = 10 then 2 else if t = 11 then 3 else if t = 18 ∨ t = 19 then 4 else if t = 15 ∨ t = 16 then 5 else if t = 17 then 6 else if t = 22 then 7 else 0) := rfl
theorem rk_cases (t : Nat) : (t = 9 ∧ rk t = 1) ∨ (t = 10 ∧ rk t = 2) ∨ (t = 11 ∧ rk t = 3) ∨ ((t = 18 ∨ t = 19) ∧ rk t = 4) ∨ ((t = 15 ∨ t = 16) ∧ rk t = 5) ∨ (t = 17 ∧ rk t = 6) ∨ (t = 22 ∧ rk t = 7) ∨ (rk t = 0 ∧ t ≠ 9 ∧ t ≠ 10 ∧ t ≠ 11 ∧ t ≠ 18 ∧ t ≠ 19 ∧ t ≠ 15 ∧ t ≠ 16 ∧ t ≠ 17 ∧ t ≠ 22) := by
  unfold rk
  repeat' split
  all_goals omega
theorem sgn_fol {t : Nat} {cm : Bool} (h : fol 1 t cm) : sgn cm t = 0 := by
  have e := rk_cases t
  unfold fol at h
  have h1 : ¬ (t = 17 ∨ t = 15 ∨ t = 16 ∨ t = 9 ∨ t = 10) := by
    intro z
    have e1 : 1 ≤ rk t := by omega
    have e2 : t ≠ 11 := by omega
    have e3 : t ≠ 22 := by omega
    have := (h e1 e2 e3).1
    omega
  unfold sgn
  rw [if_neg h1]
  by_cases z : (t = 18 ∨ t = 19) ∧ cm = false
  · have g1 := z.1
    have e1 : 1 ≤ rk t := by omega
    have e2 : t ≠ 11 := by omega
    have e3 : t ≠ 22 := by omega
    have := h e1 e2 e3
    rw [z.2] at this
    cases this.2
  · rw [if_neg z]
section PN
variable {T B : Nat → Nat} {cn n k : Nat} {V : TV} {L : Nat → Int64}
def SPx (T B : Nat → Nat) (cn n k : Nat) (V : TV) (L : Nat → Int64) (kk : Nat) (as : List Value) (o lo hb : Nat) (nn : Bool) (K : Nat) : Prop :=
  ∀ D, K ≤ D → ∀ (I A : TI) (i : Nat) (c ws : List Nat) (cm st : Bool) (P : MP), RPc T B cn n k V I A → ROK T k I A i c o → cnt ws = o → c.length + ws.length ≤ i → i ≤ cn → hdk ws < hb → (nn = true → cm = false ∧ st = true) → (nn = false → st = true → T i ≠ 11) →
    (∀ I' A' i' c' e p cm' st', pS k I A I' A' → ROK T k I' A' i' (c ++ e) o → SR T i (c, ws, cm, false, st) i' (c', p ++ ws, cm', true, st') → c ++ e = c' ++ p → (∀ x, x ∈ p → lo ≤ rk x) → wfx e → fol lo (T i') cm' → (nn = false → cm' = cm) → i < i' → P none (mkH cSh I' V L A')) →
    (∀ I' A' f s', pS k I A I' A' → RFL k I' (B f) → SR T i (c, ws, cm, false, st) f s' → bad s' (T f) → P none (mkH cSh I' V L A')) →
    mRun D kk (.ref 55 :: as) (mkH cSh I V L A) P
def SPs (T B : Nat → Nat) (cn n k : Nat) (V : TV) (L : Nat → Int64) (o : Nat) (K : Nat) : Prop :=
  ∀ D, K ≤ D → ∀ (I A : TI) (i : Nat) (c ws : List Nat) (cm st : Bool) (P : MP), RPc T B cn n k V I A → ROK T k I A i c o → cnt ws = o → c.length + ws.length ≤ i → i ≤ cn → (st = true → T i ≠ 11) →
    (∀ I' A' i' e st', pS k I A I' A' → ROK T k I' A' i' (c ++ e) o → SR T i (c, ws, cm, false, st) i' (c ++ e ++ layc 7 ws, layr 7 ws, cm, true, st') → wfx e → i < i' → P none (mkH cSh I' V L A')) →
    (∀ I' A' f s', pS k I A I' A' → RFL k I' (B f) → SR T i (c, ws, cm, false, st) f s' → bad s' (T f) → P none (mkH cSh I' V L A')) →
    mRun D 46 [.ref 55] (mkH cSh I V L A) P
def FPx (k : Nat) (V : TV) (L : Nat → Int64) (kk : Nat) (as : List Value) (K : Nat) : Prop :=
  ∀ D, K ≤ D → ∀ (I A : TI) (fl : Nat) (P : MP), RFL k I fl → (∀ I' A', pS k I A I' A' → RFL k I' fl → P none (mkH cSh I' V L A')) → mRun D kk (.ref 55 :: as) (mkH cSh I V L A) P
theorem F46 (hk : k < 6) : FPx k V L 46 [] 3 := by
  intro D hD I A fl P h hP
  obtain ⟨d, rfl⟩ : ∃ d, D = d + 3 := ⟨D - 3, by omega⟩
  have h3 : I 55 3 = 21 := h.1
  simp (disch := first | assumption | exact mnl_i | exact mnl_r | exact mnl_n | exact mnl_0 | omega) only [↓reduceIte, tolS, E46_0, E46_9, E46_35, E46_77, E46_117.1, E46_117.2, B46, cShG, h3, show (21 : Int32) < 100 by decide, show (5 : Int32) < 21 by decide, show ¬ (21 : Int32) = 16 by decide, show ¬ (21 : Int32) = 12 by decide]
  refine S40_old hk h _ _ (fun I' q1 q2 => ?_)
  simp (disch := first | assumption | exact mnl_i | exact mnl_r | exact mnl_n | exact mnl_0 | omega) only [↓reduceIte, tolN, E46_121]
  exact hP I' A (pS_55 q1) q2
theorem F44_3 (hk : k < 6) {K : Nat} (H : FPx k V L 46 [] K) : FPx k V L 44 [.int (nI 3)] (K + 1) := by
  intro D hD I A fl P h hP
  obtain ⟨d, rfl⟩ : ∃ d, D = d + 1 := ⟨D - 1, by omega⟩
  simp (disch := first | assumption | exact mnl_i | exact mnl_r | exact mnl_n | exact mnl_0 | omega) only [↓reduceIte, tolS, E44_0, E44_51.1, E44_51.2, B44, cShG, show ¬ nI 3 = 0 by decide, show ¬ nI 3 = 1 by decide, show ¬ nI 3 = 2 by decide]
  refine H d (by omega) I A fl _ h (fun I' A' q1 q2 => ?_)
  simp (disch := first | assumption | exact mnl_i | exact mnl_r | exact mnl_n | exact mnl_0 | omega) only [↓reduceIte, tolN, E44_55]
  exact hP I' A' q1 q2
theorem F44_2 (hk : k < 6) {K : Nat} (H : FPx k V L 42 [.int (nI 3)] K) : FPx k V L 44 [.int (nI 2)] (K + 1) := by
  intro D hD I A fl P h hP
  obtain ⟨d, rfl⟩ : ∃ d, D = d + 1 := ⟨D - 1, by omega⟩
  simp (disch := first | assumption | exact mnl_i | exact mnl_r | exact mnl_n | exact mnl_0 | omega) only [↓reduceIte, tolS, E44_0, E44_43.1, E44_43.2.1, E44_43.2.2.1, B44, cShG, show ¬ nI 2 = 0 by decide, show ¬ nI 2 = 1 by decide, show nI 2 = 2 from rfl]
  refine H d (by omega) I A fl _ h (fun I' A' q1 q2 => ?_)
  simp (disch := first | assumption | exact mnl_i | exact mnl_r | exact mnl_n | exact mnl_0 | omega) only [↓reduceIte, tolN, E44_43.2.2.2, E44_55]
  exact hP I' A' q1 q2
theorem F44_1 (hk : k < 6) {K : Nat} (H : FPx k V L 45 [] K) : FPx k V L 44 [.int (nI 1)] (K + 1) := by
  intro D hD I A fl P h hP
  obtain ⟨d, rfl⟩ : ∃ d, D = d + 1 := ⟨D - 1, by omega⟩
  simp (disch := first | assumption | exact mnl_i | exact mnl_r | exact mnl_n | exact mnl_0 | omega) only [↓reduceIte, tolS, E44_0, E44_36.1, E44_36.2.1, B44, cShG, show ¬ nI 1 = 0 by decide, show nI 1 = 1 from rfl]
  refine H d (by omega) I A fl _ h (fun I' A' q1 q2 => ?_)
  simp (disch := first | assumption | exact mnl_i | exact mnl_r | exact mnl_n | exact mnl_0 | omega) only [↓reduceIte, tolN, E44_36.2.2, E44_55]
  exact hP I' A' q1 q2
theorem F44_0 (hk : k < 6) {K : Nat} (H : FPx k V L 42 [.int (nI 1)] K) : FPx k V L 44 [.int (nI 0)] (K + 1) := by
  intro D hD I A fl P h hP
  obtain ⟨d, rfl⟩ : ∃ d, D = d + 1 := ⟨D - 1, by omega⟩
  simp (disch := first | assumption | exact mnl_i | exact mnl_r | exact mnl_n | exact mnl_0 | omega) only [↓reduceIte, tolS, E44_0, E44_28.1, E44_28.2.1, E44_28.2.2.1, B44, cShG, show nI 0 = 0 from rfl]
  refine H d (by omega) I A fl _ h (fun I' A' q1 q2 => ?_)
  simp (disch := first | assumption | exact mnl_i | exact mnl_r | exact mnl_n | exact mnl_0 | omega) only [↓reduceIte, tolN, E44_28.2.2.2, E44_55]
  exact hP I' A' q1 q2
theorem jn_21 (lv : Nat) : ¬ jn lv 21 := by unfold jn; omega
theorem F42 (hk : k < 6) {lv K : Nat} (hlv : lv < 4) (hK : 3 ≤ K) (H : FPx k V L 44 [.int (nI lv)] K) : FPx k V L 42 [.int (nI lv)] (K + 1) := by
  intro D hD I A fl P h hP
  obtain ⟨d, rfl⟩ : ∃ d, D = (d + 1) + 1 := ⟨D - 2, by omega⟩
  simp (disch := first | assumption | exact mnl_i | exact mnl_r | exact mnl_n | exact mnl_0 | omega) only [↓reduceIte, tolS, E42_0.1, E42_0.2.1, E42_0.2.2.1, B42, cShG]
  refine H (d + 1) (by omega) I A fl _ h (fun I' A' q1 q2 => ?_)
  have h3 := q2.1
  simp (disch := first | assumption | exact mnl_i | exact mnl_r | exact mnl_n | exact mnl_0 | omega) only [↓reduceIte, tolN, tolS, E42_0.2.2.2.1, E42_0.2.2.2.2, E42_7, E42_14, E42_50, cShG, show (0 : Int32) < 160 by decide, S43_n hlv h3 (by decide) (jn_21 lv)]
  exact hP I' A' q1 q2
theorem F45 (hk : k < 6) {K : Nat} (H : FPx k V L 42 [.int (nI 2)] K) : FPx k V L 45 [] (K + 1) := by
  intro D hD I A fl P h hP
  obtain ⟨d, rfl⟩ : ∃ d, D = d + 1 := ⟨D - 1, by omega⟩
  have h3 : I 55 3 = 21 := h.1
  simp (disch := first | assumption | exact mnl_i | exact mnl_r | exact mnl_n | exact mnl_0 | omega) only [↓reduceIte, tolS, E45_0, E45_40.1, E45_40.2.1, E45_40.2.2.1, B45, cShG, h3, show ¬ (21 : Int32) = 11 by decide]
  refine H d (by omega) I A fl _ h (fun I' A' q1 q2 => ?_)
  have h3 : I' 55 3 = 21 := q2.1
  simp (disch := first | assumption | exact mnl_i | exact mnl_r | exact mnl_n | exact mnl_0 | omega) only [↓reduceIte, tolN, E45_40.2.2.2.1, E45_40.2.2.2.2.1, E45_40.2.2.2.2.2.1, E45_40.2.2.2.2.2.2, E45_54, E45_85, cShG, h3, show ¬ (21 : Int32) = 18 by decide, show ¬ (21 : Int32) = 19 by decide]
  exact hP I' A' q1 q2
theorem F42_3 (hk : k < 6) : FPx k V L 42 [.int (nI 3)] 5 := F42 hk (by omega) (by omega) (F44_3 hk (F46 hk))
theorem F42_2 (hk : k < 6) : FPx k V L 42 [.int (nI 2)] 7 := F42 hk (by omega) (by omega) (F44_2 hk (F42_3 hk))
theorem F42_1 (hk : k < 6) : FPx k V L 42 [.int (nI 1)] 10 := F42 hk (by omega) (by omega) (F44_1 hk (F45 hk (F42_2 hk)))
theorem F42_0 (hk : k < 6) : FPx k V L 42 [.int (nI 0)] 12 := F42 hk (by omega) (by omega) (F44_0 hk (F42_1 hk))
theorem X44_0 {o lo hb K : Nat} {nn : Bool} (H : SPx T B cn n k V L 42 [.int (nI 1)] o lo hb nn K) : SPx T B cn n k V L 44 [.int (nI 0)] o lo hb nn (K + 1) := by
  intro D hD I A i c ws cm st P a1 a2 a3 a4 a5 a6 a7 a8 hok hf
  obtain ⟨d, rfl⟩ : ∃ d, D = d + 1 := ⟨D - 1, by omega⟩
  simp (disch := first | assumption | exact mnl_i | exact mnl_r | exact mnl_n | exact mnl_0 | omega) only [↓reduceIte, tolS, E44_0, E44_28.1, E44_28.2.1, E44_28.2.2.1, B44, cShG, show nI 0 = 0 from rfl]
  refine H d (by omega) I A i c ws cm st _ a1 a2 a3 a4 a5 a6 a7 a8 (fun I' A' i' c' e p cm' st' b1 b2 b3 b4 b5 b6 b7 b8 b9 => ?_) (fun I' A' f s' b1 b2 b3 b4 => ?_)
  · simp (disch := first | assumption | exact mnl_i | exact mnl_r | exact mnl_n | exact mnl_0 | omega) only [↓reduceIte, tolN, E44_28.2.2.2, E44_55]
    exact hok I' A' i' c' e p cm' st' b1 b2 b3 b4 b5 b6 b7 b8 b9
  · simp (disch := first | assumption | exact mnl_i | exact mnl_r | exact mnl_n | exact mnl_0 | omega) only [↓reduceIte, tolN, E44_28.2.2.2, E44_55]
    exact hf I' A' f s' b1 b2 b3 b4
theorem X44_1 {o lo hb K : Nat} {nn : Bool} (H : SPx T B cn n k V L 45 [] o lo hb nn K) : SPx T B cn n k V L 44 [.int (nI 1)] o lo hb nn (K + 1) := by
  intro D hD I A i c ws cm st P a1 a2 a3 a4 a5 a6 a7 a8 hok hf
  obtain ⟨d, rfl⟩ : ∃ d, D = d + 1 := ⟨D - 1, by omega⟩
  simp (disch := first | assumption | exact mnl_i | exact mnl_r | exact mnl_n | exact mnl_0 | omega) only [↓reduceIte, tolS, E44_0, E44_36.1, E44_36.2.1, B44, cShG, show ¬ nI 1 = 0 by decide, show nI 1 = 1 from rfl]
  refine H d (by omega) I A i c ws cm st _ a1 a2 a3 a4 a5 a6 a7 a8 (fun I' A' i' c' e p cm' st' b1 b2 b3 b4 b5 b6 b7 b8 b9 => ?_) (fun I' A' f s' b1 b2 b3 b4 => ?_)
  · simp (disch := first | assumption | exact mnl_i | exact mnl_r | exact mnl_n | exact mnl_0 | omega) only [↓reduceIte, tolN, E44_36.2.2, E44_55]
    exact hok I' A' i' c' e p cm' st' b1 b2 b3 b4 b5 b6 b7 b8 b9
  · simp (disch := first | assumption | exact mnl_i | exact mnl_r | exact mnl_n | exact mnl_0 | omega) only [↓reduceIte, tolN, E44_36.2.2, E44_55]
    exact hf I' A' f s' b1 b2 b3 b4
theorem X44_2 {o lo hb K : Nat} {nn : Bool} (H : SPx T B cn n k V L 42 [.int (nI 3)] o lo hb nn K) : SPx T B cn n k V L 44 [.int (nI 2)] o lo hb nn (K + 1) := by
  intro D hD I A i c ws cm st P a1 a2 a3 a4 a5 a6 a7 a8 hok hf
  obtain ⟨d, rfl⟩ : ∃ d, D = d + 1 := ⟨D - 1, by omega⟩
  simp (disch := first | assumption | exact mnl_i | exact mnl_r | exact mnl_n | exact mnl_0 | omega) only [↓reduceIte, tolS, E44_0, E44_43.1, E44_43.2.1, E44_43.2.2.1, B44, cShG, show ¬ nI 2 = 0 by decide, show ¬ nI 2 = 1 by decide, show nI 2 = 2 from rfl]
  refine H d (by omega) I A i c ws cm st _ a1 a2 a3 a4 a5 a6 a7 a8 (fun I' A' i' c' e p cm' st' b1 b2 b3 b4 b5 b6 b7 b8 b9 => ?_) (fun I' A' f s' b1 b2 b3 b4 => ?_)
  · simp (disch := first | assumption | exact mnl_i | exact mnl_r | exact mnl_n | exact mnl_0 | omega) only [↓reduceIte, tolN, E44_43.2.2.2, E44_55]
    exact hok I' A' i' c' e p cm' st' b1 b2 b3 b4 b5 b6 b7 b8 b9
  · simp (disch := first | assumption | exact mnl_i | exact mnl_r | exact mnl_n | exact mnl_0 | omega) only [↓reduceIte, tolN, E44_43.2.2.2, E44_55]
    exact hf I' A' f s' b1 b2 b3 b4
theorem X44_3 {o K : Nat} (H : SPs T B cn n k V L o K) : SPx T B cn n k V L 44 [.int (nI 3)] o 7 7 false (K + 1) := by
  intro D hD I A i c ws cm st P a1 a2 a3 a4 a5 a6 a7 a8 hok hf
  obtain ⟨d, rfl⟩ : ∃ d, D = d + 1 := ⟨D - 1, by omega⟩
  simp (disch := first | assumption | exact mnl_i | exact mnl_r | exact mnl_n | exact mnl_0 | omega) only [↓reduceIte, tolS, E44_0, E44_51.1, E44_51.2, B44, cShG, show ¬ nI 3 = 0 by decide, show ¬ nI 3 = 1 by decide, show ¬ nI 3 = 2 by decide]
  refine H d (by omega) I A i c ws cm st _ a1 a2 a3 a4 a5 (a8 rfl) (fun I' A' i' e st' b1 b2 b3 b4 b5 => ?_) (fun I' A' f s' b1 b2 b3 b4 => ?_)
  · simp (disch := first | assumption | exact mnl_i | exact mnl_r | exact mnl_n | exact mnl_0 | omega) only [↓reduceIte, tolN, E44_55]
    obtain ⟨z1, z2⟩ := lay_app a6 [] (fun _ h => by cases h)
    rw [List.nil_append] at z1 z2
    rw [z1, z2, List.append_nil] at b3
    refine hok I' A' i' (c ++ e) e [] cm st' b1 b2 b3 (List.append_nil _).symm (fun _ h => by cases h) b4 ?_ (fun _ => rfl) b5
    intro y1 y2 y3
    have := rk_cases (T i')
    omega
  · simp (disch := first | assumption | exact mnl_i | exact mnl_r | exact mnl_n | exact mnl_0 | omega) only [↓reduceIte, tolN, E44_55]
    exact hf I' A' f s' b1 b2 b3 b4
theorem jn_use {lv t : Nat} (h : jn lv t) : (t = 9 ∧ lv = 0 ∧ rk t = 1) ∨ (t = 10 ∧ lv = 1 ∧ rk t = 2) ∨ ((t = 15 ∨ t = 16) ∧ lv = 2 ∧ rk t = 5) ∨ (t = 17 ∧ lv = 3 ∧ rk t = 6) := by
  rcases h with ⟨rfl, rfl⟩ | ⟨rfl, rfl⟩ | ⟨rfl, rfl | rfl⟩ | ⟨rfl, rfl⟩ <;> decide
theorem X42 (hk : k < 6) {lv o lo hb2 K : Nat} {nn : Bool} (hlv : lv < 4) (hlo : (lv = 0 ∧ lo = 1 ∧ nn = true) ∨ (lv = 1 ∧ lo = 2 ∧ nn = true) ∨ (lv = 2 ∧ lo = 5 ∧ nn = false) ∨ (lv = 3 ∧ lo = 6 ∧ nn = false)) (hb : lo < hb2) (hK : 3 ≤ K)
    (H : SPx T B cn n k V L 44 [.int (nI lv)] o (lo + 1) hb2 nn K) (HF : FPx k V L 44 [.int (nI lv)] K) : SPx T B cn n k V L 42 [.int (nI lv)] o lo lo nn (K + 1) := by
  intro D hD I A i c ws cm st P a1 a2 a3 a4 a5 a6 a7 a8 hok hf
  obtain ⟨d, rfl⟩ : ∃ d, D = (d + 3) + 1 := ⟨D - 4, by omega⟩
  have hv := a1.1
  have hcn := a1.2.2.2.2.2
  have ht1 := (c23 hk).1
  have exitF : ∀ (I1 A1 : TI) (f : Nat) (s' : SYS) (kk : Nat) (l3 : Option Value), kk < 160 → pS k I A I1 A1 → RFL k I1 (B f) → SR T i (c, ws, cm, false, st) f s' → bad s' (T f) → mFr (d + 3) 42 7 [some (.ref 55), some (.int (nI lv)), some (.int (nI kk)), l3] [] (mkH cSh I1 V L A1) P := by
    intro I1 A1 f s' kk l3 hkk b1 b2 b3 b4
    have h3 := b2.1
    simp (disch := first | assumption | exact mnl_i | exact mnl_r | exact mnl_n | exact mnl_0 | omega) only [↓reduceIte, tolN, tolS, E42_7, E42_14, E42_50, cShG, q_lt, hkk, S43_n hlv h3 (by decide) (jn_21 lv)]
    exact hf I1 A1 f s' b1 b2 b3 b4
  have loop : ∀ (m : Nat) (I1 A1 : TI) (i1 : Nat) (c1 e p : List Nat) (cm1 st1 : Bool) (kk : Nat) (l3 : Option Value), cn - i1 < m → pS k I A I1 A1 → ROK T k I1 A1 i1 (c ++ e) o → SR T i (c, ws, cm, false, st) i1 (c1, p ++ ws, cm1, true, st1) → c ++ e = c1 ++ p → (∀ x, x ∈ p → lo ≤ rk x) → wfx e → fol (lo + 1) (T i1) cm1 → (nn = false → cm1 = cm) → i < i1 → kk < i1 →
      mFr (d + 3) 42 7 [some (.ref 55), some (.int (nI lv)), some (.int (nI kk)), l3] [] (mkH cSh I1 V L A1) P := by
    intro m
    induction m with
    | zero => intro I1 A1 i1 c1 e p cm1 st1 kk l3 hm; omega
    | succ m ih =>
      intro I1 A1 i1 c1 e p cm1 st1 kk l3 hm b1 b2 b3 b4 b5 b6 b7 b8 b9 b10
      have hle : i1 ≤ cn := SR_end (fun j hj => (hcn.2.2.1 j hj).1) b3 a5
      have hkk : kk < 160 := by have := hcn.1; omega
      have g2 := b2.2.1
      have hT := hcn.2.2.2.1 i1
      have hT2 : T i1 < 2 ^ 31 := by omega
      by_cases hj : jn lv (T i1)
      · have hju := jn_use hj
        have hlt : i1 < cn := by
          rcases Nat.lt_or_ge i1 cn with z | z
          · exact z
          · have := (hcn.2.2.1 i1 z).1; omega
        have hrk : rk (T i1) = lo := by omega
        have hp1 := RPc_S a1 b1
        have hi5 : i1 ≤ 500 := by have := hcn.1; omega
        simp (disch := first | assumption | exact mnl_i | exact mnl_r | exact mnl_n | exact mnl_0 | omega) only [↓reduceIte, tolN, tolS, E42_7, E42_14, E42_22.1, E42_22.2.1, E42_22.2.2.1, E42_22.2.2.2.1, E42_22.2.2.2.2.1, cShG, q_lt, hkk, S43_y g2 hj, g2, show ¬ (1 : Int32) = 0 by decide]
        refine S39 hp1 b2.1 hi5 _ _ (fun I2 q1 q2 q3 q4 q5 => ?_)
        simp (disch := first | assumption | exact mnl_i | exact mnl_r | exact mnl_n | exact mnl_0 | omega) only [↓reduceIte, tolN, tolS, E42_22.2.2.2.2.2.1, E42_22.2.2.2.2.2.2.1, E42_22.2.2.2.2.2.2.2.1, cShG]
        have hsz := SR_sz b3
        have hlen : (c ++ e).length + ws.length ≤ i1 := by
          rw [b4]
          simp only [szS, List.length_append] at hsz ⊢
          omega
        have s2 : pS k I A I2 A1 := pS_trans b1 (pS_55 q1)
        have r2 : ROK T k I2 A1 (i1 + 1) (c ++ e) o := ⟨q2, q3, by rw [q4]; exact b2.2.2.1, by rw [q5]; exact b2.2.2.2.1, by rw [q1 _ _ (by omega)]; exact b2.2.2.2.2.1, b2.2.2.2.2.2⟩
        obtain ⟨z1, z2⟩ := lay_app (l := lo) a6 p b5
        have hst : sstep (c1, p ++ ws, cm1, true, st1) (T i1) = some (c ++ e, T i1 :: ws, (if lo < 3 then false else if lo = 4 then true else cm1), false, decide (lo < 3)) := by
          have h13 : ¬ T i1 = 13 := by omega
          have hsg : ¬ sgn cm1 (T i1) = 0 := by
            unfold sgn
            rw [if_pos (by omega)]
            omega
          simp only [sstep, if_neg h13, if_neg hsg, hrk, z1, z2, b4]
        have y2 := SR_trans b3 (SR_one hst)
        have hopn : opn (T i1) = 0 := by unfold opn; rw [if_neg (by omega)]
        refine H (d + 3) (by omega) I2 A1 (i1 + 1) (c ++ e) (T i1 :: ws) (if lo < 3 then false else if lo = 4 then true else cm1) (decide (lo < 3)) _ (RPc_S a1 s2) r2 (by rw [cnt, hopn, a3]; omega) (by rw [List.length_cons]; omega) (by omega) (by show rk (T i1) < hb2; omega) (fun hn => ?_) (fun hn hs => ?_) (fun I3 A3 i3 c3 e3 p3 cm3 st3 d1 d2 d3 d4 d5 d6 d7 d8 d9 => ?_) (fun I3 A3 f s' d1 d2 d3 d4 => ?_)
        · have : lo < 3 := by rcases hlo with z | z | z | z
                              · omega
                              · omega
                              · rw [z.2.2] at hn; cases hn
                              · rw [z.2.2] at hn; cases hn
          simp only [if_pos this, decide_eq_true this, and_self]
        · have : ¬ lo < 3 := by rcases hlo with z | z | z | z
                                · rw [z.2.2] at hn; cases hn
                                · rw [z.2.2] at hn; cases hn
                                · omega
                                · omega
          rw [decide_eq_false this] at hs; cases hs
        · have s3 := pS_trans s2 d1
          have hle3 : i3 ≤ cn := SR_end (fun j hj => (hcn.2.2.1 j hj).1) (SR_trans y2 d3) a5
          have hsz3 := SR_sz (SR_trans y2 d3)
          have hl3 : (c ++ e ++ e3).length < 160 := by
            rw [d4]
            simp only [szS, List.length_append, List.length_cons] at hsz3 ⊢
            have := hcn.1
            omega
          simp (disch := first | assumption | exact mnl_i | exact mnl_r | exact mnl_n | exact mnl_0 | omega) only [↓reduceIte, tolN, tolS, E42_22.2.2.2.2.2.2.2.2.1, E42_22.2.2.2.2.2.2.2.2.2.1, E42_22.2.2.2.2.2.2.2.2.2.2.1, E42_22.2.2.2.2.2.2.2.2.2.2.2.1, cShG, hv, kText]
          refine S31_ok hk d2 hl3 _ (T i1) _ (fun I4 A4 s4 r4 => ?_)
          simp (disch := first | assumption | exact mnl_i | exact mnl_r | exact mnl_n | exact mnl_0 | omega) only [↓reduceIte, tolN, tolS, E42_22.2.2.2.2.2.2.2.2.2.2.2.2.1, E42_22.2.2.2.2.2.2.2.2.2.2.2.2.2, q_add]
          have eq1 : c ++ e ++ e3 ++ [T i1] = c ++ (e ++ e3 ++ [T i1]) := by simp only [List.append_assoc]
          rw [eq1] at r4
          refine ih I4 A4 i3 c3 (e ++ e3 ++ [T i1]) (p3 ++ [T i1]) cm3 st3 (kk + 1) _ (by omega) (pS_trans s3 s4) r4 ?_ ?_ ?_ (wfx_bin b6 d6 (by omega)) d7 (fun hn => ?_) (by omega) (by omega)
          · have := SR_trans y2 d3
            rw [List.append_assoc, List.cons_append, List.nil_append]
            exact this
          · rw [← eq1, d4, List.append_assoc]
          · intro x hx
            rcases List.mem_append.mp hx with h | h
            · have := d5 x h; omega
            · rw [List.mem_singleton.mp h]; omega
          · have h1 := d8 hn
            have : ¬ lo < 3 := by rcases hlo with z | z | z | z
                                  · rw [z.2.2] at hn; cases hn
                                  · rw [z.2.2] at hn; cases hn
                                  · omega
                                  · omega
            rw [h1, if_neg this, if_neg (by omega), b8 hn]
        · simp (disch := first | assumption | exact mnl_i | exact mnl_r | exact mnl_n | exact mnl_0 | omega) only [↓reduceIte, tolN, tolS, E42_22.2.2.2.2.2.2.2.2.1, E42_22.2.2.2.2.2.2.2.2.2.1, E42_22.2.2.2.2.2.2.2.2.2.2.1, E42_22.2.2.2.2.2.2.2.2.2.2.2.1, cShG, hv, kText]
          refine S31_F hk d2 _ _ _ (fun I4 A4 s4 r4 => ?_)
          simp (disch := first | assumption | exact mnl_i | exact mnl_r | exact mnl_n | exact mnl_0 | omega) only [↓reduceIte, tolN, tolS, E42_22.2.2.2.2.2.2.2.2.2.2.2.2.1, E42_22.2.2.2.2.2.2.2.2.2.2.2.2.2, q_add]
          exact exitF I4 A4 f s' (kk + 1) _ (by have := hcn.1; omega) (pS_trans (pS_trans s2 d1) s4) r4 (SR_trans y2 d3) d4
      · simp (disch := first | assumption | exact mnl_i | exact mnl_r | exact mnl_n | exact mnl_0 | omega) only [↓reduceIte, tolN, tolS, E42_7, E42_14, E42_50, cShG, q_lt, hkk, S43_n hlv g2 hT2 hj]
        refine hok I1 A1 i1 c1 e p cm1 st1 b1 b2 b3 b4 b5 b6 (fun y1 y2 y3 => ?_) b8 b9
        by_cases c1 : lo + 1 ≤ rk (T i1)
        · exact b7 c1 y2 y3
        · have := rk_cases (T i1)
          unfold jn at hj
          omega
  simp (disch := first | assumption | exact mnl_i | exact mnl_r | exact mnl_n | exact mnl_0 | omega) only [↓reduceIte, tolS, E42_0.1, E42_0.2.1, E42_0.2.2.1, B42, cShG]
  refine H (d + 3) (by omega) I A i c ws cm st _ a1 a2 a3 a4 a5 (by omega) a7 a8 (fun I' A' i' c' e p cm' st' b1 b2 b3 b4 b5 b6 b7 b8 b9 => ?_) (fun I' A' f s' b1 b2 b3 b4 => ?_)
  · simp (disch := first | assumption | exact mnl_i | exact mnl_r | exact mnl_n | exact mnl_0 | omega) only [↓reduceIte, tolN, E42_0.2.2.2.1, E42_0.2.2.2.2]
    exact loop (cn - i' + 1) I' A' i' c' e p cm' st' 0 _ (by omega) b1 b2 b3 b4 (fun x hx => by have := b5 x hx; omega) b6 b7 b8 b9 (by omega)
  · simp (disch := first | assumption | exact mnl_i | exact mnl_r | exact mnl_n | exact mnl_0 | omega) only [↓reduceIte, tolN, E42_0.2.2.2.1, E42_0.2.2.2.2]
    exact exitF I' A' f s' 0 _ (by omega) b1 b2 b3 b4
end PN
