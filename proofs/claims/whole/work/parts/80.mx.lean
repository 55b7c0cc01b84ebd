/-! the reference's tokens -/
theorem lcmp0 (x y : Int64) : (lg_cmp x y = 0) = (x = y) := by
  unfold lg_cmp
  by_cases h : x > y
  · rw [if_pos h]
    refine propext ⟨fun z => absurd z (by decide), fun z => ?_⟩
    subst z
    exact absurd h (Int64.lt_irrefl)
  · rw [if_neg h]
    by_cases e : x = y
    · rw [if_pos e]; exact propext ⟨fun _ => e, fun _ => rfl⟩
    · rw [if_neg e]; exact propext ⟨fun z => absurd z (by decide), fun z => absurd z e⟩
def encL (f : Nat → Nat) : Nat → Nat
  | 0 => 0
  | m + 1 => 27 * encL f m + (f m - 96)
theorem encL_inj {f g : Nat → Nat} : ∀ m m', (∀ i, i < m → 97 ≤ f i ∧ f i ≤ 122) → (∀ i, i < m' → 97 ≤ g i ∧ g i ≤ 122) → encL f m = encL g m' → m = m' ∧ ∀ i, i < m → f i = g i := by
  intro m
  induction m with
  | zero =>
    intro m' _ hg h
    cases m' with
    | zero => exact ⟨rfl, fun i hi => by omega⟩
    | succ m' => have := hg m' (by omega); simp only [encL] at h; omega
  | succ m ih =>
    intro m' hf hg h
    cases m' with
    | zero => have := hf m (by omega); simp only [encL] at h; omega
    | succ m' =>
      have h1 := hf m (by omega)
      have h2 := hg m' (by omega)
      simp only [encL] at h
      obtain ⟨e1, e2⟩ := ih m' (fun i hi => hf i (by omega)) (fun i hi => hg i (by omega)) (by omega)
      subst e1
      refine ⟨rfl, fun i hi => ?_⟩
      by_cases c : i = m
      · subst c; omega
      · exact e2 i (by omega)
theorem encL_lt {f : Nat → Nat} : ∀ m, (∀ i, i < m → f i ≤ 122) → encL f m < 27 ^ m := by
  intro m
  induction m with
  | zero => intro _; exact Nat.one_pos
  | succ m ih =>
    intro h
    have h1 := ih (fun i hi => h i (by omega))
    have h2 := h m (by omega)
    simp only [encL]
    rw [Nat.pow_succ]
    omega
theorem encL_eq {f g : Nat → Nat} : ∀ m, (∀ i, i < m → f i = g i) → encL f m = encL g m := by
  intro m
  induction m with
  | zero => intro _; rfl
  | succ m ih => intro h; simp only [encL]; rw [ih (fun i hi => h i (by omega)), h m (by omega)]
def wlen : List Nat := [7, 3, 6, 2, 7, 3, 4, 5, 5, 2, 3, 3]
def CWn : List Nat := [7871591333, 990, 212302449, 47, 6223770586, 2968, 240400, 4555648, 8926327, 423, 1111, 10631]
theorem WB_let : ∀ w, w < 12 → wlen.getD w 0 ≤ 7 ∧ ∀ i, i < 8 → (i < wlen.getD w 0 → 97 ≤ WB.getD (8 * w + i) 0 ∧ WB.getD (8 * w + i) 0 ≤ 122) ∧ (wlen.getD w 0 ≤ i → WB.getD (8 * w + i) 0 = 32) := by decide +kernel
theorem WB_enc : ∀ w, w < 12 → encL (fun i => WB.getD (8 * w + i) 0) (wlen.getD w 0) = CWn.getD w 0 := by decide +kernel
theorem CWn_lt : ∀ w, w < 12 → CWn.getD w 0 < 27 ^ 7 ∧ ∀ v, v < 12 → CWn.getD w 0 = CWn.getD v 0 → w = v := by decide +kernel
theorem al_spec {f : Nat → Bool} : ∀ m k, (al f m k = true) ↔ ∀ i, k ≤ i → i < k + m → f i = true := by
  intro m
  induction m with
  | zero => intro k; simp only [al]; exact ⟨fun _ i h1 h2 => by omega, fun _ => trivial⟩
  | succ m ih =>
    intro k
    simp only [al]
    by_cases c : f k = true
    · rw [if_pos c, ih (k + 1)]
      refine ⟨fun h i h1 h2 => ?_, fun h i h1 h2 => h i (by omega) (by omega)⟩
      by_cases e : i = k
      · subst e; exact c
      · exact h i (by omega) (by omega)
    · rw [if_neg c]
      exact ⟨fun h => (by cases h), fun h => absurd (h k (by omega) (by omega)) c⟩
/-- a word is w just where its number is -/
theorem spl_enc {b : Nat → Nat} {s e w : Nat} (hw : w < 12) (hse : s ≤ e) (hl : ∀ q, s ≤ q → q < e → 97 ≤ b q ∧ b q ≤ 122) (h7 : e - s ≤ 7) : (splB b s e w = true) = (encL (fun i => b (s + i)) (e - s) = CWn.getD w 0) := by
  obtain ⟨g1, g2⟩ := WB_let w hw
  have hsp : (splB b s e w = true) ↔ ∀ i, i < 8 → (if s + i < e then b (s + i) else 32) = WB.getD (8 * w + i) 0 := by
    unfold splB
    rw [if_pos (by omega), al_spec]
    exact ⟨fun h i hi => by have := h i (by omega) (by omega); simpa using this, fun h i h1 h2 => by have := h i (by omega); simpa using this⟩
  refine propext ⟨fun h => ?_, fun h => ?_⟩
  · have h8 := hsp.mp h
    have hm : e - s = wlen.getD w 0 := by
      rcases Nat.lt_trichotomy (e - s) (wlen.getD w 0) with z | z | z
      · have h1 := h8 (e - s) (by omega)
        rw [if_neg (by omega)] at h1
        have h2 := (g2 (e - s) (by omega)).1 z
        omega
      · exact z
      · have h1 := h8 (wlen.getD w 0) (by omega)
        rw [if_pos (by omega)] at h1
        have h2 := (g2 (wlen.getD w 0) (by omega)).2 (Nat.le_refl _)
        have h3 := hl (s + wlen.getD w 0) (by omega) (by omega)
        omega
    rw [← WB_enc w hw, hm]
    exact encL_eq _ (fun i hi => by have := h8 i (by omega); rw [if_pos (by omega)] at this; exact this)
  · rw [← WB_enc w hw] at h
    obtain ⟨e1, e2⟩ := encL_inj (e - s) (wlen.getD w 0) (fun i hi => hl (s + i) (by omega) (by omega)) (fun i hi => (g2 i (by omega)).1 hi) h
    refine hsp.mpr (fun i hi => ?_)
    by_cases c : s + i < e
    · rw [if_pos c]; exact e2 i (by omega)
    · rw [if_neg c]; exact ((g2 i hi).2 (by omega)).symm
theorem fw_spec {f : Nat → Bool} : ∀ m k, (fw f m k = 21 ∧ (∀ i, k ≤ i → i < k + m → f i = false)) ∨ (k ≤ fw f m k ∧ fw f m k < k + m ∧ f (fw f m k) = true) := by
  intro m
  induction m with
  | zero => intro k; exact Or.inl ⟨rfl, fun i h1 h2 => by omega⟩
  | succ m ih =>
    intro k
    simp only [fw]
    by_cases c : f k = true
    · rw [if_pos c]; exact Or.inr ⟨Nat.le_refl _, by omega, c⟩
    · rw [if_neg c]
      rcases ih (k + 1) with ⟨h1, h2⟩ | ⟨h1, h2, h3⟩
      · refine Or.inl ⟨h1, fun i g1 g2 => ?_⟩
        by_cases e : i = k
        · subst e; simpa using c
        · exact h2 i (by omega) (by omega)
      · exact Or.inr ⟨by omega, by omega, h3⟩
/-- the number of a word: -1 of one that is too long -/
def wdN (b : Nat → Nat) (s e : Nat) : Int64 := if 7 < e - s then -1 else Int64.ofNat (encL (fun i => b (s + i)) (e - s))
theorem i64_ofNat {a c : Nat} (ha : a < 2 ^ 63) (hc : c < 2 ^ 63) (h : Int64.ofNat a = Int64.ofNat c) : a = c := by
  have h1 := congrArg Int64.toInt h
  rw [Int64.toInt_ofNat_of_lt ha, Int64.toInt_ofNat_of_lt hc] at h1
  omega
theorem wd_word {b : Nat → Nat} {s e : Nat} (hse : s < e) (hl : ∀ q, s ≤ q → q < e → 97 ≤ b q ∧ b q ≤ 122) : ∀ w, w < 12 → ((wdN b s e = Int64.ofNat (CWn.getD w 0)) = (wordT b s e = w)) := by
  intro w hw
  have hC := CWn_lt w hw
  have p7 : (27 : Nat) ^ 7 < 2 ^ 63 := by decide
  by_cases c : 7 < e - s
  · have h1 : wordT b s e = 21 := by
      unfold wordT
      rcases fw_spec (f := splB b s e) 12 0 with ⟨h, _⟩ | ⟨_, _, h⟩
      · exact h
      · unfold splB at h
        rw [if_neg (by omega)] at h
        cases h
    unfold wdN
    rw [if_pos c, h1]
    refine propext ⟨fun z => ?_, fun z => by omega⟩
    have h2 := congrArg Int64.toInt z
    rw [Int64.toInt_ofNat_of_lt (by omega)] at h2
    have h3 : (-1 : Int64).toInt = -1 := by decide
    omega
  · unfold wdN
    rw [if_neg c]
    have hlt : encL (fun i => b (s + i)) (e - s) < 2 ^ 63 := by
      have h1 := encL_lt (f := fun i => b (s + i)) (e - s) (fun i hi => (hl (s + i) (by omega) (by omega)).2)
      have h2 : 27 ^ (e - s) ≤ 27 ^ 7 := Nat.pow_le_pow_right (by omega) (by omega)
      omega
    have hsp := fun (v : Nat) (hv : v < 12) => spl_enc (w := v) hv (Nat.le_of_lt hse) hl (by omega)
    refine propext ⟨fun z => ?_, fun z => ?_⟩
    · have h1 := i64_ofNat hlt (by omega) z
      have h2 : splB b s e w = true := by rw [hsp w hw]; exact h1
      unfold wordT
      rcases fw_spec (f := splB b s e) 12 0 with ⟨_, h⟩ | ⟨_, h3, h⟩
      · rw [h w (by omega) (by omega)] at h2; cases h2
      · have h4 : fw (splB b s e) 12 0 < 12 := by omega
        rw [hsp _ h4] at h
        exact ((CWn_lt w hw).2 _ h4 (h1.symm.trans h)).symm
    · unfold wordT at z
      rcases fw_spec (f := splB b s e) 12 0 with ⟨h, _⟩ | ⟨_, h3, h⟩
      · omega
      · rw [z, hsp w hw] at h
        rw [h]
/-- the token that the reference has of the class's -/
def mtk (I : TI) (w : Int64) (t : Nat) : Prop := (t ≤ 11 ∧ I 0 19 = 119 ∧ w = Int64.ofNat (CWn.getD t 0)) ∨ (t = 12 ∧ I 0 19 = 40) ∨ (t = 13 ∧ I 0 19 = 41) ∨ (t = 14 ∧ I 0 19 = 59) ∨ (t = 15 ∧ I 0 19 = 43) ∨ (t = 16 ∧ I 0 19 = 45) ∨ (t = 17 ∧ I 0 19 = 42) ∨ (t = 18 ∧ I 0 19 = 60) ∨ (t = 19 ∧ I 0 19 = 61) ∨ (t = 20 ∧ I 0 19 = 101) ∨ (t = 21 ∧ I 0 19 = 120) ∨ (100 ≤ t ∧ I 0 19 = 48 ∧ I 0 20 = nI (t - 100))
def MTP (I A : TI) (n : Nat) (b : Nat → Nat) : Prop := I 0 10 = nI n ∧ n ≤ 160 ∧ ∀ i, i < n → A 8 i = nI (b i) ∧ b i ≤ 255
def MTo (n : Nat) (b : Nat → Nat) (I : TI) (L : Nat → Int64) (i : Nat) : Prop := I 0 17 = nI (lexB n b i) ∧ I 0 18 = nI (lexP n b (i + 1)) ∧ mtk I (L 0) (lexT n b i)
