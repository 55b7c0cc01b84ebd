/-! tokens of a tape of n bytes b; the class's scan -/
def WB : List Nat := [116, 104, 111, 117, 103, 104, 116, 32, 97, 105, 114, 32, 32, 32, 32, 32, 110, 117, 109, 98, 101, 114, 32, 32, 97, 116, 32, 32, 32, 32, 32, 32, 112, 97, 116, 99, 104, 101, 115, 32, 100, 97, 121, 32, 32, 32, 32, 32, 108, 101, 116, 115, 32, 32, 32, 32, 104, 111, 108, 100, 115, 32, 32, 32, 112, 117, 109, 112, 115, 32, 32, 32, 111, 114, 32, 32, 32, 32, 32, 32, 97, 110, 100, 32, 32, 32, 32, 32, 110, 111, 116, 32, 32, 32, 32, 32]
def isLB (x : Nat) : Bool := decide (97 ≤ x) && decide (x ≤ 122)
def isDB (x : Nat) : Bool := decide (48 ≤ x) && decide (x ≤ 57)
def isBB (x : Nat) : Bool := decide (x = 32) || decide (x = 10)
def ext (f : Nat → Bool) (n : Nat) : Nat → Nat → Nat
  | 0, j => j
  | m + 1, j => if f j = true then ext f n m (j + 1) else j
/-- the first place from j on that isn't so -/
def exT (f : Nat → Bool) (n j : Nat) : Nat := ext f n (n - j) j
theorem exT_s {f : Nat → Bool} {n j : Nat} (h : j < n) (hf : f j = true) : exT f n j = exT f n (j + 1) := by
  unfold exT
  rw [show n - j = (n - (j + 1)) + 1 by omega, ext, if_pos hf]
theorem exT_n {f : Nat → Bool} {n j : Nat} (h : j < n) (hf : ¬ f j = true) : exT f n j = j := by
  unfold exT
  rw [show n - j = (n - (j + 1)) + 1 by omega, ext, if_neg hf]
theorem exT_e {f : Nat → Bool} {n j : Nat} (h : n ≤ j) : exT f n j = j := by
  unfold exT
  rw [show n - j = 0 by omega, ext]
theorem ext_all {f : Nat → Bool} {n : Nat} : ∀ (m j : Nat), j ≤ ext f n m j ∧ ext f n m j ≤ j + m ∧ ∀ q, j ≤ q → q < ext f n m j → f q = true := by
  intro m
  induction m with
  | zero => intro j; simp only [ext]; exact ⟨by omega, by omega, fun q h1 h2 => by omega⟩
  | succ m ih =>
    intro j
    simp only [ext]
    split
    · rename_i hf
      obtain ⟨h1, h2, h3⟩ := ih (j + 1)
      refine ⟨by omega, by omega, fun q g1 g2 => ?_⟩
      by_cases c : q = j
      · subst c; exact hf
      · exact h3 q (by omega) g2
    · exact ⟨by omega, by omega, fun q h1 h2 => by omega⟩
theorem exT_all {f : Nat → Bool} {n j : Nat} (h : j ≤ n) : j ≤ exT f n j ∧ exT f n j ≤ n ∧ ∀ q, j ≤ q → q < exT f n j → f q = true := by
  have := ext_all (f := f) (n := n) (n - j) j
  unfold exT
  exact ⟨this.1, by omega, this.2.2⟩
def al (f : Nat → Bool) : Nat → Nat → Bool
  | 0, _ => true
  | m + 1, k => if f k = true then al f m (k + 1) else false
def splB (b : Nat → Nat) (s e w : Nat) : Bool := if e - s < 8 then al (fun i => (if s + i < e then b (s + i) else 32) == WB.getD (8 * w + i) 0) 8 0 else false
def fw (f : Nat → Bool) : Nat → Nat → Nat
  | 0, _ => 21
  | m + 1, k => if f k = true then k else fw f m (k + 1)
def wordT (b : Nat → Nat) (s e : Nat) : Nat := fw (splB b s e) 12 0
theorem fw_le {f : Nat → Bool} : ∀ m k, k + m ≤ 12 → fw f m k ≤ 11 ∨ fw f m k = 21 := by
  intro m
  induction m with
  | zero => intro k _; exact Or.inr rfl
  | succ m ih =>
    intro k hk
    simp only [fw]
    split
    · omega
    · exact ih (k + 1) (by omega)
def numV (b : Nat → Nat) (s : Nat) : Nat → Nat
  | 0 => 0
  | m + 1 => numV b s m * 10 + b (s + m) - 48
def sgT (c : Nat) : Nat := if c = 40 then 12 else if c = 41 then 13 else if c = 59 then 14 else if c = 43 then 15 else if c = 45 then 16 else if c = 42 then 17 else if c = 60 then 18 else if c = 61 then 19 else 21
def tkE (n : Nat) (b : Nat → Nat) (s : Nat) : Nat := if isLB (b s) = true then exT (fun j => isLB (b j)) n (s + 1) else if isDB (b s) = true then exT (fun j => isDB (b j)) n (s + 1) else s + 1
def tkT (n : Nat) (b : Nat → Nat) (s : Nat) : Nat := if isLB (b s) = true then wordT b s (tkE n b s) else if isDB (b s) = true then (if 4 < tkE n b s - s then 21 else 100 + numV b s (tkE n b s - s)) else sgT (b s)
def skp (n : Nat) (b : Nat → Nat) (j : Nat) : Nat := exT (fun j => isBB (b j)) n j
def lexP (n : Nat) (b : Nat → Nat) : Nat → Nat
  | 0 => 0
  | i + 1 => if skp n b (lexP n b i) < n then tkE n b (skp n b (lexP n b i)) else n
def lexB (n : Nat) (b : Nat → Nat) (i : Nat) : Nat := skp n b (lexP n b i)
def lexT (n : Nat) (b : Nat → Nat) (i : Nat) : Nat := if lexB n b i < n then tkT n b (lexB n b i) else 20
theorem tkE_le {n : Nat} {b : Nat → Nat} {s : Nat} (h : s < n) : s + 1 ≤ tkE n b s ∧ tkE n b s ≤ n := by
  unfold tkE
  split
  · have := exT_all (f := fun j => isLB (b j)) (n := n) (j := s + 1) (by omega); omega
  · split
    · have := exT_all (f := fun j => isDB (b j)) (n := n) (j := s + 1) (by omega); omega
    · omega
theorem lexP_le {n : Nat} {b : Nat → Nat} : ∀ i, lexP n b i ≤ n := by
  intro i
  cases i with
  | zero => exact Nat.zero_le _
  | succ i =>
    simp only [lexP]
    split
    · rename_i h; exact (tkE_le h).2
    · exact Nat.le_refl _
theorem lexB_le {n : Nat} {b : Nat → Nat} (i : Nat) : lexB n b i ≤ n := (exT_all (lexP_le i)).2.1
theorem numV_lt {b : Nat → Nat} {s : Nat} : ∀ m, (∀ q, q < m → b (s + q) ≤ 57) → numV b s m < 10 ^ m := by
  intro m
  induction m with
  | zero => intro _; exact Nat.one_pos
  | succ m ih =>
    intro h
    have h1 := ih (fun q hq => h q (by omega))
    have h2 := h m (by omega)
    simp only [numV]
    rw [Nat.pow_succ]
    omega
theorem sgT_le (c : Nat) : 12 ≤ sgT c ∧ sgT c ≤ 21 := by
  unfold sgT
  repeat' split
  all_goals omega
theorem isDB_le {x : Nat} (h : isDB x = true) : 48 ≤ x ∧ x ≤ 57 := by simpa [isDB] using h
theorem isLB_le {x : Nat} (h : isLB x = true) : 97 ≤ x ∧ x ≤ 122 := by simpa [isLB] using h
theorem tkE_dig {n : Nat} {b : Nat → Nat} {s : Nat} (h : s < n) (h1 : ¬ isLB (b s) = true) (h2 : isDB (b s) = true) : ∀ q, s ≤ q → q < tkE n b s → isDB (b q) = true := by
  intro q g1 g2
  unfold tkE at g2
  rw [if_neg h1, if_pos h2] at g2
  by_cases c : q = s
  · subst c; exact h2
  · exact (exT_all (f := fun j => isDB (b j)) (n := n) (j := s + 1) (by omega)).2.2 q (by omega) g2
theorem lexT_ok {n : Nat} {b : Nat → Nat} (i : Nat) : lexT n b i ≤ 21 ∨ (100 ≤ lexT n b i ∧ lexT n b i < 10100) := by
  unfold lexT
  split
  · rename_i hs
    generalize lexB n b i = s at *
    unfold tkT
    by_cases c1 : isLB (b s) = true
    · rw [if_pos c1]
      have := fw_le (f := splB b s (tkE n b s)) 12 0 (by omega)
      unfold wordT
      omega
    · rw [if_neg c1]
      by_cases c2 : isDB (b s) = true
      · rw [if_pos c2]
        have hd := tkE_dig hs c1 c2
        split
        · exact Or.inl (by omega)
        · rename_i h4
          have h1 := numV_lt (b := b) (s := s) (tkE n b s - s) (fun q hq => (isDB_le (hd (s + q) (by omega) (by omega))).2)
          have h2 : 10 ^ (tkE n b s - s) ≤ 10 ^ 4 := Nat.pow_le_pow_right (by omega) (by omega)
          have h3 : (10 : Nat) ^ 4 = 10000 := by decide
          exact Or.inr (by omega)
      · rw [if_neg c2]
        have := sgT_le (b s)
        omega
  · omega
theorem lex_end {n : Nat} {b : Nat → Nat} {c : Nat} (h : lexB n b c = n) : ∀ i, c ≤ i → lexT n b i = 20 ∧ lexB n b i = n := by
  have key : ∀ m, lexB n b (c + m) = n := by
    intro m
    induction m with
    | zero => exact h
    | succ m ih =>
      unfold lexB at ih ⊢
      rw [← Nat.add_assoc, lexP, if_neg (by omega)]
      unfold skp
      exact exT_e (Nat.le_refl _)
  intro i hi
  have := key (i - c)
  rw [show c + (i - c) = i by omega] at this
  exact ⟨by unfold lexT; rw [if_neg (by omega)], this⟩
theorem FTk_of {n : Nat} {b : Nat → Nat} {c : Nat} (hn : n ≤ 160) (hc : c ≤ 160) (h : lexB n b c = n) : FTk (lexT n b) (lexB n b) c n :=
  ⟨hc, hn, lex_end h, lexT_ok, fun i => by have := lexB_le (n := n) (b := b) i; omega⟩
section LX
variable {n : Nat} {b : Nat → Nat} {I A : TI} {V : TV} {L : Nat → Int64}
def TP (I A : TI) (n : Nat) (b : Nat → Nat) : Prop := I 2 1 = nI n ∧ n ≤ 160 ∧ ∀ i, i < n → A 3 i = nI (b i) ∧ b i ≤ 255
theorem S28 (h : TP I A n b) {i : Nat} (hi : i < n) (d : Nat) (P : MP) : mRun (d + 1) 28 [.ref 2, .int (nI i)] (mkH cSh I V L A) P = P (some (.int (nI (b i)))) (mkH cSh I V L A) := by
  obtain ⟨h1, h2, h3⟩ := h
  have c2 : i < 160 := by omega
  simp (disch := first | assumption | exact mnl_i | exact mnl_r | exact mnl_n | exact mnl_0 | omega) only [↓reduceIte, E28_0, E28_4, E28_12, E28_21, E28_30, E28_31, B28, cShG, cShR, q_neg, h1, q_ll, hi, nI_d, c2, pix_nI, (h3 i hi).1]
theorem S54 {x : Nat} (hx : x ≤ 255) (d : Nat) (h : MH) (P : MP) : mRun (d + 1) 54 [.int (nI x)] h P = P (some (.int (if isLB x = true then 1 else 0))) h := by
  by_cases c1 : x < 97
  · have e : ¬ isLB x = true := fun z => by have := isLB_le z; omega
    rw [if_neg e]
    simp (disch := first | assumption | exact mnl_i | exact mnl_r | exact mnl_n | exact mnl_0 | omega) only [↓reduceIte, E54_0, E54_6, E54_12, E54_16, E54_17, B54, q_lt, c1]
  · by_cases c2 : 122 < x
    · have e : ¬ isLB x = true := fun z => by have := isLB_le z; omega
      rw [if_neg e]
      simp (disch := first | assumption | exact mnl_i | exact mnl_r | exact mnl_n | exact mnl_0 | omega) only [↓reduceIte, E54_0, E54_6, E54_12, E54_16, E54_17, B54, q_lt, c1, q_gt, c2]
    · have e : isLB x = true := by simp [isLB]; omega
      rw [if_pos e]
      simp (disch := first | assumption | exact mnl_i | exact mnl_r | exact mnl_n | exact mnl_0 | omega) only [↓reduceIte, E54_0, E54_6, E54_12, E54_16, E54_17, B54, q_lt, c1, q_gt, c2]
theorem S53 {x : Nat} (hx : x ≤ 255) (d : Nat) (h : MH) (P : MP) : mRun (d + 1) 53 [.int (nI x)] h P = P (some (.int (if isBB x = true then 1 else 0))) h := by
  by_cases c1 : x = 32
  · subst c1
    simp (disch := first | assumption | exact mnl_i | exact mnl_r | exact mnl_n | exact mnl_0 | omega) only [↓reduceIte, E53_0, E53_6, E53_12, E53_16, E53_17, B53, q_eq]
    rfl
  · by_cases c2 : x = 10
    · subst c2
      simp (disch := first | assumption | exact mnl_i | exact mnl_r | exact mnl_n | exact mnl_0 | omega) only [↓reduceIte, E53_0, E53_6, E53_12, E53_16, E53_17, B53, q_eq, show ¬ 10 = 32 by decide]
      rfl
    · have e : ¬ isBB x = true := by simp [isBB]; omega
      rw [if_neg e]
      simp (disch := first | assumption | exact mnl_i | exact mnl_r | exact mnl_n | exact mnl_0 | omega) only [↓reduceIte, E53_0, E53_6, E53_12, E53_16, E53_17, B53, q_eq, c1, c2]
theorem S65x {x : Nat} (hx : x ≤ 255) (d : Nat) (h : MH) (P : MP) : mRun (d + 1) 65 [.int (nI x - 48)] h P = P (some (.int (if isDB x = true then 1 else 0))) h := by
  by_cases c1 : x < 48
  · have e : ¬ isDB x = true := fun z => by have := isDB_le z; omega
    have g : nI x - 48 < 0 := pk_sneg (b := 48) (by omega) (by omega)
    rw [if_neg e]
    simp (disch := first | assumption | exact mnl_i | exact mnl_r | exact mnl_n | exact mnl_0 | omega) only [↓reduceIte, E65_0, E65_4, E65_10, E65_14, E65_15, B65, g]
  · have hs : 48 ≤ x := by omega
    have g : nI x - 48 = nI (x - 48) := q_ss (b := 48) hs
    rw [g]
    by_cases c2 : 9 < x - 48
    · have e : ¬ isDB x = true := fun z => by have := isDB_le z; omega
      rw [if_neg e]
      simp (disch := first | assumption | exact mnl_i | exact mnl_r | exact mnl_n | exact mnl_0 | omega) only [↓reduceIte, E65_0, E65_4, E65_10, E65_14, E65_15, B65, q_neg, q_gt, c2]
    · have e : isDB x = true := by simp [isDB]; omega
      rw [if_pos e]
      simp (disch := first | assumption | exact mnl_i | exact mnl_r | exact mnl_n | exact mnl_0 | omega) only [↓reduceIte, E65_0, E65_4, E65_10, E65_14, E65_15, B65, q_neg, q_gt, c2]
theorem mrcv_1 {h : MH} : mrcv h 1011 10 = true := rfl
theorem mrcv_2 {h : MH} : mrcv h 1012 10 = true := rfl
theorem palen_1 {h : MH} {K : Nat → Prop} : palen h 1021 K = K 96 := rfl
theorem palen_2 {h : MH} {K : Nat → Prop} : palen h 1022 K = K 8 := rfl
theorem pbal_1 {i : Int32} {K : Int32 → Prop} : pbal 1021 i K = pix i 96 (fun j => K ((mS.getD 1 []).getD j 0)) := rfl
theorem pbal_2 {i : Int32} {K : Int32 → Prop} : pbal 1022 i K = pix i 8 (fun j => K ((mS.getD 2 []).getD j 0)) := rfl
theorem r11 : (1010 ≤ 1011 ∧ 1011 < 1013) ∧ (1010 ≤ 1012 ∧ 1012 < 1013) := by decide
theorem J196 {q : Nat} (hq : 1010 ≤ q ∧ q < 1013) (d : Nat) (h : MH) (P : MP) : mRun (d + 1) 196 [.ref q] h P = P (some (.int 0)) h := by
  simp (disch := first | assumption | exact mnl_i | exact mnl_r | exact mnl_n | exact mnl_0 | omega) only [↓reduceIte, E196_0, E196_6, E196_13, E196_14, B196, hq, and_self, show ¬ (1 : Int32) = 0 by decide]
theorem J197 {q : Nat} (hq : 1010 ≤ q ∧ q < 1013) (d : Nat) (h : MH) (P : MP) : mRun (d + 1) 197 [.ref q] h P = P (some (.int 1)) h := by
  simp (disch := first | assumption | exact mnl_i | exact mnl_r | exact mnl_n | exact mnl_0 | omega) only [↓reduceIte, E197_0, E197_6, E197_13, E197_17, E197_18, B197, hq, and_self, show ¬ (1 : Int32) = 0 by decide]
theorem J192_1 (d : Nat) (h : MH) (P : MP) : mRun (d + 2) 192 [.ref 1011] h P = P (some (.int 96)) h := by
  simp (disch := first | assumption | exact mnl_i | exact mnl_r | exact mnl_n | exact mnl_0 | omega) only [↓reduceIte, tolS, E192_0, B192, r11.1, and_self, Nat.reduceAdd, palen_1, mrcv_1, J196 r11.1]
  rfl
theorem J192_2 (d : Nat) (h : MH) (P : MP) : mRun (d + 2) 192 [.ref 1012] h P = P (some (.int 8)) h := by
  simp (disch := first | assumption | exact mnl_i | exact mnl_r | exact mnl_n | exact mnl_0 | omega) only [↓reduceIte, tolS, E192_0, B192, r11.2, and_self, Nat.reduceAdd, palen_2, mrcv_2, J196 r11.2]
  rfl
theorem J203 {i n : Int32} (h1 : ¬ i < 0) (h2 : i < n) (d : Nat) (q : Nat) (h : MH) (P : MP) : mRun (d + 1) 203 [.int i, .int n, .ref q] h P = P (some (.int i)) h := by
  simp (disch := first | assumption | exact mnl_i | exact mnl_r | exact mnl_n | exact mnl_0 | omega) only [↓reduceIte, tolS, E203_0, E203_4, E203_16, B203, h1, h2]
theorem J198 {i n : Int32} (h1 : ¬ i < 0) (h2 : i < n) (d : Nat) (h : MH) (P : MP) : mRun (d + 2) 198 [.int i, .int n] h P = P none h := by
  simp (disch := first | assumption | exact mnl_i | exact mnl_r | exact mnl_n | exact mnl_0 | omega) only [↓reduceIte, tolS, E198_0, B198, J203 h1 h2]
theorem chv : ∀ j, j < 96 → (((mS.getD 1 []).getD j 0 &&& 255).toUInt32 % 65536).toInt32 = nI (WB.getD j 0) := by decide +kernel
theorem chv2 : ∀ j, j < 256 → ((nI j).toUInt32 % 65536).toInt32 = nI j := by decide +kernel
theorem WB_lt : ∀ j, j < 96 → WB.getD j 0 < 256 := by decide +kernel
theorem J193 {j : Nat} (hj : j < 96) (d : Nat) (h : MH) (P : MP) : mRun (d + 5) 193 [.ref 1011, .int (nI j)] h P = P (some (.int (nI (WB.getD j 0)))) h := by
  have h1 : ¬ nI j < 0 := nI_pos (by omega)
  have h2 : nI j < nI 96 := nI_lt hj (by omega)
  have go : ∀ d : Nat, mRun (d + 3) 199 [.ref 1021, .int (nI j)] h = fun P => P (some (.int (nI (WB.getD j 0)))) h := by
    intro d
    funext P
    simp (disch := first | assumption | exact mnl_i | exact mnl_r | exact mnl_n | exact mnl_0 | omega) only [↓reduceIte, tolS, E199_0.1, E199_0.2.1, E199_0.2.2.1, E199_0.2.2.2.1, B199, palen_1, nI_d, J198 h1 h2]
    simp (disch := first | assumption | exact mnl_i | exact mnl_r | exact mnl_n | exact mnl_0 | omega) only [↓reduceIte, tolN, E199_0.2.2.2.2.1, E199_0.2.2.2.2.2.1, E199_0.2.2.2.2.2.2.1, E199_0.2.2.2.2.2.2.2.1, E199_0.2.2.2.2.2.2.2.2.1, E199_0.2.2.2.2.2.2.2.2.2.1, E199_0.2.2.2.2.2.2.2.2.2.2, pbal_1, pix_nI, hj, chv j hj]
  have e1 : (nI (WB.getD j 0)) = ((nI (WB.getD j 0)).toUInt32 % 65536).toInt32 := (chv2 _ (WB_lt j hj)).symm
  simp (disch := first | assumption | exact mnl_i | exact mnl_r | exact mnl_n | exact mnl_0 | omega) only [↓reduceIte, tolS, E193_0, E193_7.1, E193_7.2.1, E193_7.2.2.1, E193_7.2.2.2.1, B193, r11.1, and_self, Nat.reduceAdd, mrcv_1, J197 r11.1, show ¬ (1 : Int32) = 0 by decide, go]
  rw [e1]
  simp (disch := first | assumption | exact mnl_i | exact mnl_r | exact mnl_n | exact mnl_0 | omega) only [↓reduceIte, tolS, E193_7.2.2.2.2]
  done
end LX
