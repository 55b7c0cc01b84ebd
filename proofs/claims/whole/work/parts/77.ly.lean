/-! the class's scan: signs, words, numbers, the loop -/
def SGB : List Nat := [40, 41, 59, 43, 45, 42, 60, 61]
def ixS (c : Nat) : Nat → Nat → Int32
  | 0, _ => -1
  | m + 1, k => if SGB.getD k 0 = c then nI k else ixS c m (k + 1)
theorem i2bE : ∀ k, k < 8 → ∀ c, c < 256 → (((mS.getD 2 []).getD k 0 = (nI c).toInt8.toInt32) = (SGB.getD k 0 = c)) := by
  have h : ∀ k, k < 8 → ∀ c, c < 256 → (((mS.getD 2 []).getD k 0 = (nI c).toInt8.toInt32) ↔ (SGB.getD k 0 = c)) := by decide +kernel
  exact fun k hk c hc => propext (h k hk c hc)
theorem ixS_sg : ∀ c, c < 256 → (if ixS c 8 0 < 0 then (21 : Int32) else 12 + ixS c 8 0) = nI (sgT c) := by decide +kernel
theorem Pite2 {c : Prop} [Decidable c] {a b : Int32} {Q : Value → Prop} : Q (.int (if c then a else b)) = if c then Q (.int a) else Q (.int b) := by split <;> rfl
section LY
variable {n : Nat} {b : Nat → Nat} {I A : TI} {V : TV} {L : Nat → Int64}
theorem J202 {c : Nat} (hc : c < 256) (d : Nat) (h : MH) (P : MP) : ∀ m k, k + m = 8 → P (some (.int (ixS c m k))) h → mFr d 202 7 [some (.ref 1022), some (.int (nI c)), some (.int 0), some (.int 8), some (.int (nI c).toInt8.toInt32), some (.int (nI k))] [] h P := by
  intro m
  induction m with
  | zero =>
    intro k hk hP
    have e : ¬ k < 8 := by omega
    simp (disch := first | assumption | exact mnl_i | exact mnl_r | exact mnl_n | exact mnl_0 | omega) only [↓reduceIte, E202_7, E202_31, q_lt, e]
    exact hP
  | succ m ih =>
    intro k hk hP
    have e : k < 8 := by omega
    simp only [ixS] at hP
    by_cases c1 : SGB.getD k 0 = c
    · rw [if_pos c1] at hP
      simp (disch := first | assumption | exact mnl_i | exact mnl_r | exact mnl_n | exact mnl_0 | omega) only [↓reduceIte, E202_7, E202_13, E202_22, q_lt, e, pbal_2, pix_nI, i2bE k e c hc, c1]
      exact hP
    · rw [if_neg c1] at hP
      simp (disch := first | assumption | exact mnl_i | exact mnl_r | exact mnl_n | exact mnl_0 | omega) only [↓reduceIte, E202_7, E202_13, q_lt, e, pbal_2, pix_nI, i2bE k e c hc, c1]
      simp (disch := first | assumption | exact mnl_i | exact mnl_r | exact mnl_n | exact mnl_0 | omega) only [E202_25, q_add]
      exact ih (k + 1) (by omega) hP
theorem J200 {c : Nat} (hc : c < 256) (d : Nat) (h : MH) (P : MP) : mRun (d + 1) 200 [.int (nI c)] h P = P (some (.int 1)) h := by
  have e : ¬ 255 < c := by omega
  have e2 : c < 2 ^ 31 := by omega
  simp (disch := first | assumption | exact mnl_i | exact mnl_r | exact mnl_n | exact mnl_0 | omega) only [↓reduceIte, E200_0, E200_4, E200_11, E200_15, E200_16, B200, q_neg, show ¬ (255 : Int32) < nI c from fun z => e ((nI_ltI (a := 255) (by omega) (by omega)).mp z)]
theorem J201 {c : Nat} (hc : c < 256) (d : Nat) (h : MH) (P : MP) (hP : P (some (.int (ixS c 8 0))) h) : mRun (d + 2) 201 [.ref 1022, .int (nI c), .int 0, .int 8] h P := by
  simp (disch := first | assumption | exact mnl_i | exact mnl_r | exact mnl_n | exact mnl_0 | omega) only [↓reduceIte, tolS, E201_0, E201_9, E201_29.1, E201_29.2.1, E201_29.2.2.1, E201_29.2.2.2.1, E201_29.2.2.2.2.1, B201, J200 hc, show ¬ (1 : Int32) = 0 by decide, show ¬ (0 : Int32) < 0 by decide, palen_2, show Int32.ofNat 8 = 8 from rfl, show ¬ (8 : Int32) < 8 by decide, show (0 : Int32) < 8 by decide, E201_29, B202, E202_0]
  exact J202 hc d h _ 8 0 (by omega) (by simp (disch := first | assumption | exact mnl_i | exact mnl_r | exact mnl_n | exact mnl_0 | omega) only [tolS, E201_29]; exact hP)
theorem S60 {c : Nat} (hc : c ≤ 255) (d : Nat) (h : MH) (P : MP) (hP : P (some (.int (nI (sgT c)))) h) : mRun (d + 6) 60 [.int (nI c)] h P := by
  have hc2 : c < 256 := by omega
  simp (disch := first | assumption | exact mnl_i | exact mnl_r | exact mnl_n | exact mnl_0 | omega) only [↓reduceIte, tolS, E60_0.1, E60_0.2.1, E60_0.2.2.1, E60_0.2.2.2.1, B60, chv2 c hc2, mrcv_2]
  simp (disch := first | assumption | exact mnl_i | exact mnl_r | exact mnl_n | exact mnl_0 | omega) only [↓reduceIte, tolS, E194_0.1, E194_0.2.1, E194_0.2.2.1, E194_0.2.2.2.1, B194, mrcv_2]
  simp (disch := first | assumption | exact mnl_i | exact mnl_r | exact mnl_n | exact mnl_0 | omega) only [↓reduceIte, tolS, E195_0, E195_7.1, E195_7.2.1, E195_7.2.2.1, E195_7.2.2.2.1, E195_7.2.2.2.2.1, E195_7.2.2.2.2.2.1, E195_7.2.2.2.2.2.2.1, B195, mrcv_2, J197 r11.2, show ¬ (1 : Int32) = 0 by decide, r11.2, and_self, Nat.reduceAdd, J192_2]
  refine J201 hc2 _ h _ ?_
  simp (disch := first | assumption | exact mnl_i | exact mnl_r | exact mnl_n | exact mnl_0 | omega) only [↓reduceIte, tolS, E195_7.2.2.2.2.2.2.2, E195_36, E194_0.2.2.2.2, E60_0.2.2.2.2.1, E60_0.2.2.2.2.2.1, E60_0.2.2.2.2.2.2]
  have g := ixS_sg c hc2
  by_cases c1 : ixS c 8 0 < 0
  · rw [if_pos c1] at g
    simp (disch := first | assumption | exact mnl_i | exact mnl_r | exact mnl_n | exact mnl_0 | omega) only [↓reduceIte, c1, E60_12, E60_21]
    rw [g]
    exact hP
  · rw [if_neg c1] at g
    simp (disch := first | assumption | exact mnl_i | exact mnl_r | exact mnl_n | exact mnl_0 | omega) only [↓reduceIte, c1, E60_17, E60_21]
    rw [g]
    exact hP
theorem S57_loop (hT : TP I A n b) {s e w : Nat} (hs : s ≤ e) (he : e ≤ n) (hw : w < 12) (d : Nat) (P : MP) : ∀ m k (l5 : Option Value), k + m = 8 → P (some (.int (if al (fun i => (if s + i < e then b (s + i) else 32) == WB.getD (8 * w + i) 0) m k = true then 1 else 0))) (mkH cSh I V L A) →
    mFr (d + 5) 57 13 [some (.ref 56), some (.int (nI w)), some (.int (nI s)), some (.int (nI e)), some (.int (nI k)), l5] [] (mkH cSh I V L A) P := by
  have hn := hT.2.1
  intro m
  induction m with
  | zero =>
    intro k l5 hk hP
    have g : ¬ k < 8 := by omega
    simp only [al, if_true] at hP
    simp (disch := first | assumption | exact mnl_i | exact mnl_r | exact mnl_n | exact mnl_0 | omega) only [↓reduceIte, E57_13, E57_71, q_lt, g]
    exact hP
  | succ m ih =>
    intro k l5 hk hP
    have g : k < 8 := by omega
    have hj : 8 * w + k < 96 := by omega
    have hW := WB_lt _ hj
    have go : ∀ v : Nat, v ≤ 255 → P (some (.int (if (if (v == WB.getD (8 * w + k) 0) = true then al (fun i => (if s + i < e then b (s + i) else 32) == WB.getD (8 * w + i) 0) m (k + 1) else false) = true then 1 else 0))) (mkH cSh I V L A) → mFr (d + 5) 57 44 [some (.ref 56), some (.int (nI w)), some (.int (nI s)), some (.int (nI e)), some (.int (nI k)), l5] [.int (nI v)] (mkH cSh I V L A) P := by
      intro v hv hP
      have hj2 : w * 8 + k = 8 * w + k := by omega
      by_cases c1 : v = WB.getD (8 * w + k) 0
      · have c2 : (v == WB.getD (8 * w + k) 0) = true := by simpa using c1
        rw [if_pos c2] at hP
        simp (disch := first | assumption | exact mnl_i | exact mnl_r | exact mnl_n | exact mnl_0 | omega) only [↓reduceIte, tolS, E57_44, E57_65, mrcv_1, q_mulr, q_aa, hj2, J193 hj, q_ee, c1, q_add]
        exact ih (k + 1) _ (by omega) hP
      · have c2 : ¬ (v == WB.getD (8 * w + k) 0) = true := by simpa using c1
        rw [if_neg c2] at hP
        simp (disch := first | assumption | exact mnl_i | exact mnl_r | exact mnl_n | exact mnl_0 | omega) only [↓reduceIte, tolS, E57_44, E57_63, mrcv_1, q_mulr, q_aa, hj2, J193 hj, q_ee, c1]
        exact hP
    simp only [al] at hP
    by_cases c : s + k < e
    · have hi : s + k < n := by omega
      have hb := (hT.2.2 _ hi).2
      simp only [if_pos c] at hP
      simp (disch := first | assumption | exact mnl_i | exact mnl_r | exact mnl_n | exact mnl_0 | omega) only [↓reduceIte, tolS, E57_13, E57_20, E57_28, cShG, q_lt, q_ll, g, q_aa, c, S28 hT hi]
      exact go _ hb hP
    · simp only [if_neg c] at hP
      simp (disch := first | assumption | exact mnl_i | exact mnl_r | exact mnl_n | exact mnl_0 | omega) only [↓reduceIte, tolS, E57_13, E57_20, E57_42, cShG, q_lt, q_ll, g, q_aa, c]
      exact go 32 (by omega) hP
theorem S57 (hT : TP I A n b) {s e w : Nat} (hs : s ≤ e) (he : e ≤ n) (hw : w < 12) (d : Nat) (P : MP) (hP : P (some (.int (if splB b s e w = true then 1 else 0))) (mkH cSh I V L A)) : mRun (d + 6) 57 [.ref 56, .int (nI w), .int (nI s), .int (nI e)] (mkH cSh I V L A) P := by
  have hn := hT.2.1
  unfold splB at hP
  by_cases c : e - s < 8
  · rw [if_pos c] at hP
    simp (disch := first | assumption | exact mnl_i | exact mnl_r | exact mnl_n | exact mnl_0 | omega) only [↓reduceIte, tolS, E57_0, E57_10, B57, q_ss, q_lt, c]
    exact S57_loop hT hs he hw d P 8 0 none (by omega) hP
  · rw [if_neg c] at hP
    simp (disch := first | assumption | exact mnl_i | exact mnl_r | exact mnl_n | exact mnl_0 | omega) only [↓reduceIte, tolS, E57_0, E57_8, B57, q_ss, q_lt, c]
    exact hP
theorem S56_loop (hT : TP I A n b) {s e : Nat} (hs : s ≤ e) (he : e ≤ n) (d : Nat) (P : MP) : ∀ m k, k + m = 12 → P (some (.int (nI (fw (splB b s e) m k)))) (mkH cSh I V L A) → mFr (d + 6) 56 2 [some (.ref 56), some (.int (nI s)), some (.int (nI e)), some (.int (nI k))] [] (mkH cSh I V L A) P := by
  intro m
  induction m with
  | zero =>
    intro k hk hP
    have g : ¬ k < 12 := by omega
    simp (disch := first | assumption | exact mnl_i | exact mnl_r | exact mnl_n | exact mnl_0 | omega) only [↓reduceIte, tolS, E56_2, E56_32, mrcv_1, J192_1, show ¬ (8 : Int32) = 0 by decide, show (96 : Int32) / 8 = 12 by decide, q_lt, g]
    exact hP
  | succ m ih =>
    intro k hk hP
    have g : k < 12 := by omega
    simp only [fw] at hP
    simp (disch := first | assumption | exact mnl_i | exact mnl_r | exact mnl_n | exact mnl_0 | omega) only [↓reduceIte, tolS, E56_2, E56_14.1, E56_14.2.1, E56_14.2.2.1, E56_14.2.2.2.1, E56_14.2.2.2.2.1, cShG, mrcv_1, J192_1, show ¬ (8 : Int32) = 0 by decide, show (96 : Int32) / 8 = 12 by decide, q_lt, g]
    refine S57 hT hs he g _ _ ?_
    by_cases c : splB b s e k = true
    · rw [if_pos c] at hP ⊢
      simp (disch := first | assumption | exact mnl_i | exact mnl_r | exact mnl_n | exact mnl_0 | omega) only [↓reduceIte, tolS, E56_14.2.2.2.2.2, E56_24, show ¬ (1 : Int32) = 0 by decide]
      exact hP
    · rw [if_neg c] at hP ⊢
      simp (disch := first | assumption | exact mnl_i | exact mnl_r | exact mnl_n | exact mnl_0 | omega) only [↓reduceIte, tolS, E56_14.2.2.2.2.2, E56_26, q_add]
      exact ih (k + 1) (by omega) hP
theorem S56 (hT : TP I A n b) {s e : Nat} (hs : s ≤ e) (he : e ≤ n) (d : Nat) (P : MP) (hP : P (some (.int (nI (wordT b s e)))) (mkH cSh I V L A)) : mRun (d + 7) 56 [.ref 56, .int (nI s), .int (nI e)] (mkH cSh I V L A) P := by
  simp (disch := first | assumption | exact mnl_i | exact mnl_r | exact mnl_n | exact mnl_0 | omega) only [↓reduceIte, tolS, E56_0, B56]
  exact S56_loop hT hs he d P 12 0 (by omega) hP
theorem S55 (hT : TP I A n b) {s : Nat} (hs : s < n) (d : Nat) (P : MP) (hP : P (some (.int (nI (exT (fun j => isLB (b j)) n (s + 1))))) (mkH cSh I V L A)) : mRun (d + 2) 55 [.ref 56, .int (nI s)] (mkH cSh I V L A) P := by
  have hn := hT.2.1
  have h1 := hT.1
  have loop : ∀ m j, n - j = m → j ≤ n → P (some (.int (nI (exT (fun j => isLB (b j)) n j)))) (mkH cSh I V L A) → mFr (d + 1) 55 4 [some (.ref 56), some (.int (nI s)), some (.int (nI j))] [] (mkH cSh I V L A) P := by
    intro m
    induction m with
    | zero =>
      intro j hm hj hP
      have e : ¬ j < n := by omega
      rw [exT_e (by omega)] at hP
      simp (disch := first | assumption | exact mnl_i | exact mnl_r | exact mnl_n | exact mnl_0 | omega) only [↓reduceIte, tolS, E55_4, E55_35, cShG, h1, q_ll, e]
      exact hP
    | succ m ih =>
      intro j hm hj hP
      have e : j < n := by omega
      have hb := (hT.2.2 j e).2
      by_cases c : isLB (b j) = true
      · rw [exT_s e c] at hP
        simp (disch := first | assumption | exact mnl_i | exact mnl_r | exact mnl_n | exact mnl_0 | omega) only [↓reduceIte, tolS, E55_4, E55_15, cShG, h1, q_ll, e, S28 hT e, S54 hb, c, show ¬ (1 : Int32) = 0 by decide]
        simp (disch := first | assumption | exact mnl_i | exact mnl_r | exact mnl_n | exact mnl_0 | omega) only [E55_29, q_add]
        exact ih (j + 1) (by omega) (by omega) hP
      · rw [exT_n e c] at hP
        simp (disch := first | assumption | exact mnl_i | exact mnl_r | exact mnl_n | exact mnl_0 | omega) only [↓reduceIte, tolS, E55_4, E55_15, E55_35, cShG, h1, q_ll, e, S28 hT e, S54 hb, c]
        exact hP
  simp (disch := first | assumption | exact mnl_i | exact mnl_r | exact mnl_n | exact mnl_0 | omega) only [↓reduceIte, tolS, E55_0, B55, q_add]
  exact loop _ (s + 1) rfl (by omega) hP
theorem S58 (hT : TP I A n b) {s : Nat} (hs : s < n) (d : Nat) (P : MP) (hP : P (some (.int (nI (exT (fun j => isDB (b j)) n (s + 1))))) (mkH cSh I V L A)) : mRun (d + 2) 58 [.ref 56, .int (nI s)] (mkH cSh I V L A) P := by
  have hn := hT.2.1
  have h1 := hT.1
  have loop : ∀ m j, n - j = m → j ≤ n → P (some (.int (nI (exT (fun j => isDB (b j)) n j)))) (mkH cSh I V L A) → mFr (d + 1) 58 4 [some (.ref 56), some (.int (nI s)), some (.int (nI j))] [] (mkH cSh I V L A) P := by
    intro m
    induction m with
    | zero =>
      intro j hm hj hP
      have e : ¬ j < n := by omega
      rw [exT_e (by omega)] at hP
      simp (disch := first | assumption | exact mnl_i | exact mnl_r | exact mnl_n | exact mnl_0 | omega) only [↓reduceIte, tolS, E58_4, E58_38, cShG, h1, q_ll, e]
      exact hP
    | succ m ih =>
      intro j hm hj hP
      have e : j < n := by omega
      have hb := (hT.2.2 j e).2
      by_cases c : isDB (b j) = true
      · rw [exT_s e c] at hP
        simp (disch := first | assumption | exact mnl_i | exact mnl_r | exact mnl_n | exact mnl_0 | omega) only [↓reduceIte, tolS, E58_4, E58_15, cShG, h1, q_ll, e, S28 hT e, S65x hb, c, show ¬ (1 : Int32) = 0 by decide]
        simp (disch := first | assumption | exact mnl_i | exact mnl_r | exact mnl_n | exact mnl_0 | omega) only [E58_32, q_add]
        exact ih (j + 1) (by omega) (by omega) hP
      · rw [exT_n e c] at hP
        simp (disch := first | assumption | exact mnl_i | exact mnl_r | exact mnl_n | exact mnl_0 | omega) only [↓reduceIte, tolS, E58_4, E58_15, E58_38, cShG, h1, q_ll, e, S28 hT e, S65x hb, c]
        exact hP
  simp (disch := first | assumption | exact mnl_i | exact mnl_r | exact mnl_n | exact mnl_0 | omega) only [↓reduceIte, tolS, E58_0, B58, q_add]
  exact loop _ (s + 1) rfl (by omega) hP
theorem S59 (hT : TP I A n b) {s e : Nat} (hs : s ≤ e) (he : e ≤ n) (hd : ∀ q, s ≤ q → q < e → isDB (b q) = true) (d : Nat) (P : MP) (hP : P (some (.int (nI (if 4 < e - s then 21 else 100 + numV b s (e - s))))) (mkH cSh I V L A)) : mRun (d + 2) 59 [.ref 56, .int (nI s), .int (nI e)] (mkH cSh I V L A) P := by
  have hn := hT.2.1
  by_cases c : 4 < e - s
  · rw [if_pos c] at hP
    simp (disch := first | assumption | exact mnl_i | exact mnl_r | exact mnl_n | exact mnl_0 | omega) only [↓reduceIte, tolS, E59_0, E59_7, B59, q_ss, q_gt, c]
    exact hP
  · rw [if_neg c] at hP
    simp (disch := first | assumption | exact mnl_i | exact mnl_r | exact mnl_n | exact mnl_0 | omega) only [↓reduceIte, tolS, E59_0, E59_10, B59, q_ss, q_gt, c]
    refine up_loop (e - s) (fun k (_ : Unit) => mFr (d + 1) 59 15 [some (.ref 56), some (.int (nI s)), some (.int (nI e)), some (.int (nI (numV b s k))), some (.int (nI (s + k)))] [] (mkH cSh I V L A) P) (fun _ _ => True) (fun k _ hk _ ih => ?_) (fun _ _ => ?_) () trivial
    · have hi : s + k < n := by omega
      have g : s + k < e := by omega
      have hb := isDB_le (hd (s + k) (by omega) g)
      have ih := ih () trivial
      have e2 : 48 ≤ numV b s k * 10 + b (s + k) := by omega
      simp only [numV] at ih
      simp (disch := first | assumption | exact mnl_i | exact mnl_r | exact mnl_n | exact mnl_0 | omega) only [↓reduceIte, tolS, E59_15, E59_21.1, E59_21.2.1, E59_21.2.2.1, E59_21.2.2.2.1, E59_21.2.2.2.2.1, E59_21.2.2.2.2.2.1, E59_21.2.2.2.2.2.2.1, cShG, q_ll, g, q_mulr, S28 hT hi, q_aa]
      simp (disch := first | assumption | exact mnl_i | exact mnl_r | exact mnl_n | exact mnl_0 | omega) only [E59_21.2.2.2.2.2.2.2.1, E59_21.2.2.2.2.2.2.2.2.1, E59_21.2.2.2.2.2.2.2.2.2.1, E59_21.2.2.2.2.2.2.2.2.2.2.1, E59_21.2.2.2.2.2.2.2.2.2.2.2.1, E59_21.2.2.2.2.2.2.2.2.2.2.2.2, q_aa, q_sub, q_add]
      exact ih
    · have g : ¬ s + (e - s) < e := by omega
      simp (disch := first | assumption | exact mnl_i | exact mnl_r | exact mnl_n | exact mnl_0 | omega) only [↓reduceIte, tolS, E59_15, E59_45, q_ll, g]
      rw [show (100 : Int32) + nI (numV b s (e - s)) = nI (100 + numV b s (e - s)) from nI_add 100 _]
      exact hP
end LY
