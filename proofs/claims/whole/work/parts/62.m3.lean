/-! the reference: lets, holds, pumps of a kind -/
theorem bQ0 {o : Nat} (h : o < 2 ^ 31) : (if nI o < 0 then (0 : Int32) else if 99 < nI o then 99 else nI o) = nI (min 99 o) := by
  rw [if_neg (nI_pos h)]
  by_cases z : 99 < o
  · rw [if_pos (show (99 : Int32) < nI o from (nI_ltI (a := 99) (by omega) h).mpr z), Nat.min_eq_left (by omega)]; rfl
  · rw [if_neg (show ¬ (99 : Int32) < nI o from fun z2 => z ((nI_ltI (a := 99) (by omega) h).mp z2)), Nat.min_eq_right (by omega)]
theorem bQ1 {o : Nat} (h : o < 2 ^ 31) : (if nI o < 1 then (1 : Int32) else if 99 < nI o then 99 else nI o) = nI (max 1 (min 99 o)) := by
  by_cases c : o < 1
  · rw [if_pos (show nI o < 1 from (nI_ltI (b := 1) h (by omega)).mpr c), show max 1 (min 99 o) = 1 by omega]; rfl
  · rw [if_neg (show ¬ nI o < 1 from fun z2 => c ((nI_ltI (b := 1) h (by omega)).mp z2))]
    by_cases z : 99 < o
    · rw [if_pos (show (99 : Int32) < nI o from (nI_ltI (a := 99) (by omega) h).mpr z), show max 1 (min 99 o) = 99 by omega]; rfl
    · rw [if_neg (show ¬ (99 : Int32) < nI o from fun z2 => z ((nI_ltI (a := 99) (by omega) h).mp z2)), show max 1 (min 99 o) = o by omega]
theorem mhold1 : ∀ v, v < 100 → (if nI v - 10 < 1 then (1 : Int32) else if 99 < nI v - 10 then 99 else nI v - 10) = nI (max 1 (v - 10)) := by decide +kernel
theorem mhold3 : ∀ v, v < 100 → (if (nI v - 10) / 2 < 1 then (1 : Int32) else if 99 < (nI v - 10) / 2 then 99 else (nI v - 10) / 2) = nI (max 1 ((v - 10) / 2)) := by decide +kernel
section M3
variable {I : Nat → Nat → Int32} {V : Nat → Nat → Nat} {L : Nat → Int64} {A : Nat → Nat → Int32} {q rl : Nat} {W : Nat → List Int32} {th : Nat → Nat} {day : Nat} {r : Nat → Nat}
theorem uN_self {r : Nat → Nat} {f : Nat} : uN r f (r f) = r := by
  funext g
  unfold uN
  split
  · rename_i e; rw [e]
  · rfl
set_option maxHeartbeats 2000000 in
theorem M147 (h : WM I A q rl W th day r) {pl : Nat} (hpl : pl < 24) (d : Nat) (P : MP) (hP : ∀ A', (∀ b, b ≠ 13 → b ≠ 14 → A' b = A b) → P (some (.int (nI (letsN (r 0) (r 1) pl (th pl) (valN W 0 th day (uN r 3 pl)))))) (mkH dSh I V L A')) : mRun (d + 4) 147 [.ref 0, .int (nI q), .int (nI pl)] (mkH dSh I V L A) P := by
  have hq5 := h.1
  simp (disch := first | assumption | exact mnl_i | exact mnl_r | exact mnl_n | exact mnl_0 | omega) only [↓reduceIte, tolS, E147_0, B147, dShG]
  refine M146 h (p := 0) (by omega) hpl d _ (fun A' hA => ?_)
  obtain ⟨hq, hrl, hr6, htx, ⟨r0, r1, r2, r3, r4, r5⟩, hd, hth, hrk, hday, hthk⟩ := WM_A h hA
  obtain ⟨k0, k1, k2, k3, k4, k5⟩ := hrk
  have hP := hP A' hA
  have hthp := hth pl hpl
  have htl := hthk pl hpl
  have hv9 : valN W 0 th day (uN r 3 pl) ≤ 99 := valN_le
  generalize valN W 0 th day (uN r 3 pl) = v at hP hv9 ⊢
  have hk : r 0 = 0 ∨ r 0 = 1 ∨ r 0 = 2 ∨ r 0 = 3 ∨ r 0 = 4 ∨ r 0 = 5 := by omega
  have n5 : ¬ (5 : Int32) = 0 := by decide
  have n2 : ¬ (2 : Int32) = 0 := by decide
  simp (disch := first | assumption | exact mnl_i | exact mnl_r | exact mnl_n | exact mnl_0 | omega) only [↓reduceIte, tolS, E147_0, dShG, dShR, pix_nI, r1, n5, q_rem, q_ee, q_mul]
  by_cases c : pl % 5 = r 1 % 5
  · rcases hk with hk | hk | hk | hk | hk | hk <;> rw [hk] at hP r0 <;> simp only [letsN, if_pos c] at hP
    · simp (disch := first | assumption | exact mnl_i | exact mnl_r | exact mnl_n | exact mnl_0 | omega) only [↓reduceIte, tolS, E147_0, E147_22, E147_28, E147_29, E147_72, E147_79, E147_83, E147_97, E147_107, E147_111, E147_114, E147_115, E147_117, dShG, dShR, pix_nI, r0, q_eq, q_mul, c, Nat.reduceEqDiff]
      exact hP
    · simp (disch := first | assumption | exact mnl_i | exact mnl_r | exact mnl_n | exact mnl_0 | omega) only [↓reduceIte, tolS, E147_0, E147_22, E147_28, E147_29, E147_72, E147_79, E147_83, E147_97, E147_107, E147_111, E147_114, E147_115, E147_117, dShG, dShR, pix_nI, r0, q_eq, q_mul, c, Nat.reduceEqDiff, M115, bQ0]
      exact hP
    · simp (disch := first | assumption | exact mnl_i | exact mnl_r | exact mnl_n | exact mnl_0 | omega) only [↓reduceIte, tolS, E147_0, E147_22, E147_28, E147_29, E147_72, E147_79, E147_83, E147_97, E147_107, E147_111, E147_114, E147_115, E147_117, dShG, dShR, pix_nI, r0, q_eq, q_mul, c, Nat.reduceEqDiff, n2, q_div]
      exact hP
    · simp (disch := first | assumption | exact mnl_i | exact mnl_r | exact mnl_n | exact mnl_0 | omega) only [↓reduceIte, tolS, E147_0, E147_22, E147_28, E147_29, E147_72, E147_79, E147_83, E147_97, E147_107, E147_111, E147_114, E147_115, E147_117, dShG, dShR, pix_nI, r0, r1, q_eq, q_mul, c, Nat.reduceEqDiff, q_aa, M115, bQ0]
      exact hP
    · by_cases c4 : th pl < 4
      · rw [if_pos c4] at hP
        simp (disch := first | assumption | exact mnl_i | exact mnl_r | exact mnl_n | exact mnl_0 | omega) only [↓reduceIte, tolS, E147_0, E147_22, E147_28, E147_29, E147_72, E147_79, E147_83, E147_97, E147_107, E147_111, E147_114, E147_115, E147_117, dShG, dShR, pix_nI, r0, hthp, q_eq, q_lt, q_mul, c, c4, Nat.reduceEqDiff]
        exact hP
      · rw [if_neg c4] at hP
        simp (disch := first | assumption | exact mnl_i | exact mnl_r | exact mnl_n | exact mnl_0 | omega) only [↓reduceIte, tolS, E147_0, E147_22, E147_28, E147_29, E147_72, E147_79, E147_83, E147_97, E147_107, E147_111, E147_114, E147_115, E147_117, dShG, dShR, pix_nI, r0, hthp, q_eq, q_lt, q_mul, c, c4, Nat.reduceEqDiff, n2, q_div]
        exact hP
    · simp (disch := first | assumption | exact mnl_i | exact mnl_r | exact mnl_n | exact mnl_0 | omega) only [↓reduceIte, tolS, E147_0, E147_22, E147_28, E147_29, E147_72, E147_79, E147_83, E147_97, E147_107, E147_111, E147_114, E147_115, E147_117, dShG, dShR, pix_nI, r0, q_eq, q_mul, c, Nat.reduceEqDiff]
      exact hP
  · rcases hk with hk | hk | hk | hk | hk | hk <;> rw [hk] at hP r0 <;> simp only [letsN, if_neg c] at hP
    · simp (disch := first | assumption | exact mnl_i | exact mnl_r | exact mnl_n | exact mnl_0 | omega) only [↓reduceIte, tolS, E147_0, E147_22, E147_28, E147_29, E147_72, E147_79, E147_83, E147_97, E147_107, E147_111, E147_114, E147_115, E147_117, dShG, dShR, pix_nI, r0, q_eq, q_mul, c, Nat.reduceEqDiff]
      exact hP
    · simp (disch := first | assumption | exact mnl_i | exact mnl_r | exact mnl_n | exact mnl_0 | omega) only [↓reduceIte, tolS, E147_0, E147_22, E147_28, E147_29, E147_72, E147_79, E147_83, E147_97, E147_107, E147_111, E147_114, E147_115, E147_117, dShG, dShR, pix_nI, r0, q_eq, q_mul, c, Nat.reduceEqDiff, M115, bQ0]
      exact hP
    · simp (disch := first | assumption | exact mnl_i | exact mnl_r | exact mnl_n | exact mnl_0 | omega) only [↓reduceIte, tolS, E147_0, E147_22, E147_28, E147_29, E147_72, E147_79, E147_83, E147_97, E147_107, E147_111, E147_114, E147_115, E147_117, dShG, dShR, pix_nI, r0, q_eq, q_mul, c, Nat.reduceEqDiff, n2, q_div]
      exact hP
    · simp (disch := first | assumption | exact mnl_i | exact mnl_r | exact mnl_n | exact mnl_0 | omega) only [↓reduceIte, tolS, E147_0, E147_22, E147_28, E147_29, E147_72, E147_79, E147_83, E147_97, E147_107, E147_111, E147_114, E147_115, E147_117, dShG, dShR, pix_nI, r0, r1, q_eq, q_mul, c, Nat.reduceEqDiff, q_aa, M115, bQ0]
      exact hP
    · by_cases c4 : th pl < 4
      · rw [if_pos c4] at hP
        simp (disch := first | assumption | exact mnl_i | exact mnl_r | exact mnl_n | exact mnl_0 | omega) only [↓reduceIte, tolS, E147_0, E147_22, E147_28, E147_29, E147_72, E147_79, E147_83, E147_97, E147_107, E147_111, E147_114, E147_115, E147_117, dShG, dShR, pix_nI, r0, hthp, q_eq, q_lt, q_mul, c, c4, Nat.reduceEqDiff]
        exact hP
      · rw [if_neg c4] at hP
        simp (disch := first | assumption | exact mnl_i | exact mnl_r | exact mnl_n | exact mnl_0 | omega) only [↓reduceIte, tolS, E147_0, E147_22, E147_28, E147_29, E147_72, E147_79, E147_83, E147_97, E147_107, E147_111, E147_114, E147_115, E147_117, dShG, dShR, pix_nI, r0, hthp, q_eq, q_lt, q_mul, c, c4, Nat.reduceEqDiff, n2, q_div]
        exact hP
    · simp (disch := first | assumption | exact mnl_i | exact mnl_r | exact mnl_n | exact mnl_0 | omega) only [↓reduceIte, tolS, E147_0, E147_22, E147_28, E147_29, E147_72, E147_79, E147_83, E147_97, E147_107, E147_111, E147_114, E147_115, E147_117, dShG, dShR, pix_nI, r0, q_eq, q_mul, c, Nat.reduceEqDiff]
      exact hP
set_option maxHeartbeats 1000000 in
theorem M148 (h : WM I A q rl W th day r) (d : Nat) (P : MP) (hP : ∀ A', (∀ b, b ≠ 13 → b ≠ 14 → A' b = A b) → P (some (.int (nI (holdsN (r 0) (valN W 1 th day r))))) (mkH dSh I V L A')) : mRun (d + 4) 148 [.ref 0, .int (nI q)] (mkH dSh I V L A) P := by
  have hq5 := h.1
  have hr3 := h.2.2.2.2.1.2.2.2.1
  have h3 : r 3 < 24 := by have := h.2.2.2.2.2.2.2.1.2.2.2.1; omega
  simp (disch := first | assumption | exact mnl_i | exact mnl_r | exact mnl_n | exact mnl_0 | omega) only [↓reduceIte, tolS, E148_0, B148, dShG, dShR, pix_nI, hr3]
  refine M146 h (p := 1) (by omega) h3 d _ (fun A' hA => ?_)
  obtain ⟨hq, hrl, hr6, htx, ⟨r0, r1, r2, r3, r4, r5⟩, hd, hth, hrk, hday, hthk⟩ := WM_A h hA
  obtain ⟨k0, k1, k2, k3, k4, k5⟩ := hrk
  have hP := hP A' hA
  rw [uN_self]
  have hv9 : valN W 1 th day r < 100 := Nat.lt_succ_of_le valN_le
  generalize valN W 1 th day r = v at hP hv9 ⊢
  have hk : r 0 = 0 ∨ r 0 = 1 ∨ r 0 = 2 ∨ r 0 = 3 ∨ r 0 = 4 ∨ r 0 = 5 := by omega
  have n2 : ¬ (2 : Int32) = 0 := by decide
  rcases hk with hk | hk | hk | hk | hk | hk <;> rw [hk] at hP r0 <;> simp only [holdsN] at hP
  · have e : max 1 (min 99 v) = max 1 v := by omega
    simp (disch := first | assumption | exact mnl_i | exact mnl_r | exact mnl_n | exact mnl_0 | omega) only [↓reduceIte, tolS, E148_0, E148_52, E148_61, E148_72, E148_80, E148_82, dShG, dShR, pix_nI, r0, q_eq, Nat.reduceEqDiff, M115, bQ1, e]
    exact hP
  · simp (disch := first | assumption | exact mnl_i | exact mnl_r | exact mnl_n | exact mnl_0 | omega) only [↓reduceIte, tolS, E148_0, E148_52, E148_61, E148_72, E148_80, E148_82, dShG, dShR, pix_nI, r0, q_eq, Nat.reduceEqDiff, M115, mhold1 v hv9]
    exact hP
  · have e : max 1 (min 99 v) = max 1 v := by omega
    simp (disch := first | assumption | exact mnl_i | exact mnl_r | exact mnl_n | exact mnl_0 | omega) only [↓reduceIte, tolS, E148_0, E148_52, E148_61, E148_72, E148_80, E148_82, dShG, dShR, pix_nI, r0, q_eq, Nat.reduceEqDiff, M115, bQ1, e]
    exact hP
  · simp (disch := first | assumption | exact mnl_i | exact mnl_r | exact mnl_n | exact mnl_0 | omega) only [↓reduceIte, tolS, E148_0, E148_52, E148_61, E148_72, E148_80, E148_82, dShG, dShR, pix_nI, r0, q_eq, Nat.reduceEqDiff, n2, M115, mhold3 v hv9]
    exact hP
  · have e : max 1 (min 99 (v + 5)) = min 99 (v + 5) := by omega
    simp (disch := first | assumption | exact mnl_i | exact mnl_r | exact mnl_n | exact mnl_0 | omega) only [↓reduceIte, tolS, E148_0, E148_52, E148_61, E148_72, E148_80, E148_82, dShG, dShR, pix_nI, r0, q_eq, Nat.reduceEqDiff, q_add, M115, bQ1, e]
    exact hP
  · simp (disch := first | assumption | exact mnl_i | exact mnl_r | exact mnl_n | exact mnl_0 | omega) only [↓reduceIte, tolS, E148_0, E148_52, E148_61, E148_72, E148_80, E148_82, dShG, dShR, pix_nI, r0, q_eq, Nat.reduceEqDiff]
    exact hP
set_option maxHeartbeats 1000000 in
theorem M149 (h : WM I A q rl W th day r) {pl : Nat} (hpl : pl < 24) (d : Nat) (P : MP) (hP : ∀ A', (∀ b, b ≠ 13 → b ≠ 14 → A' b = A b) → P (some (.int (nI (pumpsN (r 0) (r 1) day (valN W 2 th day (uN r 3 pl)))))) (mkH dSh I V L A')) : mRun (d + 4) 149 [.ref 0, .int (nI q), .int (nI pl)] (mkH dSh I V L A) P := by
  have hq5 := h.1
  simp (disch := first | assumption | exact mnl_i | exact mnl_r | exact mnl_n | exact mnl_0 | omega) only [↓reduceIte, tolS, E149_0, B149, dShG]
  refine M146 h (p := 2) (by omega) hpl d _ (fun A' hA => ?_)
  obtain ⟨hq, hrl, hr6, htx, ⟨r0, r1, r2, r3, r4, r5⟩, hd, hth, hrk, hday, hthk⟩ := WM_A h hA
  obtain ⟨k0, k1, k2, k3, k4, k5⟩ := hrk
  have hP := hP A' hA
  have hv9 : valN W 2 th day (uN r 3 pl) ≤ 99 := valN_le
  generalize valN W 2 th day (uN r 3 pl) = v at hP hv9 ⊢
  have hk : r 0 = 0 ∨ r 0 = 1 ∨ r 0 = 2 ∨ r 0 = 3 ∨ r 0 = 4 ∨ r 0 = 5 := by omega
  have n2 : ¬ (2 : Int32) = 0 := by decide
  rcases hk with hk | hk | hk | hk | hk | hk <;> rw [hk] at hP r0 <;> simp only [pumpsN] at hP
  · simp (disch := first | assumption | exact mnl_i | exact mnl_r | exact mnl_n | exact mnl_0 | omega) only [↓reduceIte, tolS, E149_0, E149_44, E149_52, E149_62, E149_66, E149_67, E149_68, E149_75, dShG, dShR, pix_nI, r0, q_eq, Nat.reduceEqDiff]
    exact hP
  · simp (disch := first | assumption | exact mnl_i | exact mnl_r | exact mnl_n | exact mnl_0 | omega) only [↓reduceIte, tolS, E149_0, E149_44, E149_52, E149_62, E149_66, E149_67, E149_68, E149_75, dShG, dShR, pix_nI, r0, q_eq, Nat.reduceEqDiff]
    exact hP
  · simp (disch := first | assumption | exact mnl_i | exact mnl_r | exact mnl_n | exact mnl_0 | omega) only [↓reduceIte, tolS, E149_0, E149_44, E149_52, E149_62, E149_66, E149_67, E149_68, E149_75, dShG, dShR, pix_nI, r0, q_eq, Nat.reduceEqDiff, q_add, M115, bQ0]
    exact hP
  · by_cases c : day % 2 = 1
    · rw [if_pos c] at hP
      simp (disch := first | assumption | exact mnl_i | exact mnl_r | exact mnl_n | exact mnl_0 | omega) only [↓reduceIte, tolS, E149_0, E149_44, E149_52, E149_62, E149_66, E149_67, E149_68, E149_75, dShG, dShR, pix_nI, r0, hd, q_eq, Nat.reduceEqDiff, n2, q_rem, c]
      exact hP
    · rw [if_neg c] at hP
      simp (disch := first | assumption | exact mnl_i | exact mnl_r | exact mnl_n | exact mnl_0 | omega) only [↓reduceIte, tolS, E149_0, E149_44, E149_52, E149_62, E149_66, E149_67, E149_68, E149_75, dShG, dShR, pix_nI, r0, hd, q_eq, Nat.reduceEqDiff, n2, q_rem, c]
      exact hP
  · simp (disch := first | assumption | exact mnl_i | exact mnl_r | exact mnl_n | exact mnl_0 | omega) only [↓reduceIte, tolS, E149_0, E149_44, E149_52, E149_62, E149_66, E149_67, E149_68, E149_75, dShG, dShR, pix_nI, r0, q_eq, Nat.reduceEqDiff, q_add, M115, bQ0]
    exact hP
  · simp (disch := first | assumption | exact mnl_i | exact mnl_r | exact mnl_n | exact mnl_0 | omega) only [↓reduceIte, tolS, E149_0, E149_44, E149_52, E149_62, E149_66, E149_67, E149_68, E149_75, dShG, dShR, pix_nI, r0, r1, q_eq, Nat.reduceEqDiff]
    exact hP
end M3
