/-! the reference: named, isKey, next -/
theorem q_eqS : (∀ a : Nat, a < 2 ^ 31 → (nI a = (42 : Int32)) = (a = 42)) ∧ (∀ a : Nat, a < 2 ^ 31 → (nI a = (43 : Int32)) = (a = 43)) ∧ (∀ a : Nat, a < 2 ^ 31 → (nI a = (44 : Int32)) = (a = 44)) ∧ (∀ a : Nat, a < 2 ^ 31 → (nI a = (45 : Int32)) = (a = 45)) ∧ (∀ a : Nat, a < 2 ^ 31 → (nI a = (46 : Int32)) = (a = 46)) ∧ (∀ a : Nat, a < 2 ^ 31 → (nI a = (47 : Int32)) = (a = 47)) ∧ (∀ a : Nat, a < 2 ^ 31 → (nI a = (49 : Int32)) = (a = 49)) ∧ (∀ a : Nat, a < 2 ^ 31 → (nI a = (51 : Int32)) = (a = 51)) ∧ (∀ a : Nat, a < 2 ^ 31 → (nI a = (52 : Int32)) = (a = 52)) ∧ (∀ a : Nat, a < 2 ^ 31 → (nI a = (53 : Int32)) = (a = 53)) ∧ (∀ a : Nat, a < 2 ^ 31 → (nI a = (54 : Int32)) = (a = 54)) ∧ (∀ a : Nat, a < 2 ^ 31 → (nI a = (55 : Int32)) = (a = 55)) ∧ (∀ a : Nat, a < 2 ^ 31 → (nI a = (56 : Int32)) = (a = 56)) ∧ (∀ a : Nat, a < 2 ^ 31 → (nI a = (58 : Int32)) = (a = 58)) ∧ (∀ a : Nat, a < 2 ^ 31 → (nI a = (59 : Int32)) = (a = 59)) ∧ (∀ a : Nat, a < 2 ^ 31 → (nI a = (61 : Int32)) = (a = 61)) := ⟨fun _ h => propext (nI_eq (b := 42) h (by decide)), fun _ h => propext (nI_eq (b := 43) h (by decide)), fun _ h => propext (nI_eq (b := 44) h (by decide)), fun _ h => propext (nI_eq (b := 45) h (by decide)), fun _ h => propext (nI_eq (b := 46) h (by decide)), fun _ h => propext (nI_eq (b := 47) h (by decide)), fun _ h => propext (nI_eq (b := 49) h (by decide)), fun _ h => propext (nI_eq (b := 51) h (by decide)), fun _ h => propext (nI_eq (b := 52) h (by decide)), fun _ h => propext (nI_eq (b := 53) h (by decide)), fun _ h => propext (nI_eq (b := 54) h (by decide)), fun _ h => propext (nI_eq (b := 55) h (by decide)), fun _ h => propext (nI_eq (b := 56) h (by decide)), fun _ h => propext (nI_eq (b := 58) h (by decide)), fun _ h => propext (nI_eq (b := 59) h (by decide)), fun _ h => propext (nI_eq (b := 61) h (by decide))⟩
section MY
variable {n : Nat} {b : Nat → Nat} {I A : TI} {V : TV} {L : Nat → Int64}
theorem M126 {x : Nat} (hx : x ≤ 255) (d : Nat) (h : MH) (P : MP) : mRun (d + 1) 126 [.int (nI x)] h P = P (some (.int (if isLB x = true then 1 else 0))) h := by
  by_cases c1 : x < 97
  · have e : ¬ isLB x = true := fun z => by have := isLB_le z; omega
    rw [if_neg e]
    simp (disch := first | assumption | exact mnl_i | exact mnl_r | exact mnl_n | exact mnl_0 | omega) only [↓reduceIte, E126_0, E126_6, E126_12, E126_16, E126_17, B126, q_lt, c1]
  · by_cases c2 : 122 < x
    · have e : ¬ isLB x = true := fun z => by have := isLB_le z; omega
      rw [if_neg e]
      simp (disch := first | assumption | exact mnl_i | exact mnl_r | exact mnl_n | exact mnl_0 | omega) only [↓reduceIte, E126_0, E126_6, E126_12, E126_16, E126_17, B126, q_lt, c1, q_gt, c2]
    · have e : isLB x = true := by simp [isLB]; omega
      rw [if_pos e]
      simp (disch := first | assumption | exact mnl_i | exact mnl_r | exact mnl_n | exact mnl_0 | omega) only [↓reduceIte, E126_0, E126_6, E126_12, E126_16, E126_17, B126, q_lt, c1, q_gt, c2]
theorem M127 {x : Nat} (hx : x ≤ 255) (d : Nat) (h : MH) (P : MP) : mRun (d + 1) 127 [.int (nI x)] h P = P (some (.int (if isDB x = true then 1 else 0))) h := by
  by_cases c1 : x < 48
  · have e : ¬ isDB x = true := fun z => by have := isDB_le z; omega
    rw [if_neg e]
    simp (disch := first | assumption | exact mnl_i | exact mnl_r | exact mnl_n | exact mnl_0 | omega) only [↓reduceIte, E127_0, E127_6, E127_12, E127_16, E127_17, B127, q_lt, c1]
  · by_cases c2 : 57 < x
    · have e : ¬ isDB x = true := fun z => by have := isDB_le z; omega
      rw [if_neg e]
      simp (disch := first | assumption | exact mnl_i | exact mnl_r | exact mnl_n | exact mnl_0 | omega) only [↓reduceIte, E127_0, E127_6, E127_12, E127_16, E127_17, B127, q_lt, c1, q_gt, c2]
    · have e : isDB x = true := by simp [isDB]; omega
      rw [if_pos e]
      simp (disch := first | assumption | exact mnl_i | exact mnl_r | exact mnl_n | exact mnl_0 | omega) only [↓reduceIte, E127_0, E127_6, E127_12, E127_16, E127_17, B127, q_lt, c1, q_gt, c2]
def isS (x : Nat) : Prop := x = 40 ∨ x = 41 ∨ x = 42 ∨ x = 43 ∨ x = 45 ∨ x = 59 ∨ x = 60 ∨ x = 61
theorem M128_y {x : Nat} (hx : isS x) (d : Nat) (h : MH) (P : MP) : mRun (d + 1) 128 [.int (nI x)] h P = P (some (.int 1)) h := by
  rcases hx with rfl | rfl | rfl | rfl | rfl | rfl | rfl | rfl
  all_goals simp (disch := first | assumption | exact mnl_i | exact mnl_r | exact mnl_n | exact mnl_0 | omega) only [↓reduceIte, E128_0, E128_104, E128_106, B128, q_eq, q_eqS, Nat.reduceEqDiff]
theorem M128_n {x : Nat} (hx : x ≤ 255) (hn : ¬ isS x) (d : Nat) (h : MH) (P : MP) : mRun (d + 1) 128 [.int (nI x)] h P = P (some (.int 0)) h := by
  unfold isS at hn
  have h1 : ¬ x = 40 := by omega
  have h2 : ¬ x = 41 := by omega
  have h3 : ¬ x = 42 := by omega
  have h4 : ¬ x = 43 := by omega
  have h5 : ¬ x = 45 := by omega
  have h6 : ¬ x = 59 := by omega
  have h7 : ¬ x = 60 := by omega
  have h8 : ¬ x = 61 := by omega
  simp (disch := first | assumption | exact mnl_i | exact mnl_r | exact mnl_n | exact mnl_0 | omega) only [↓reduceIte, E128_0, E128_104, E128_106, B128, q_eq, q_eqS, h1, h2, h3, h4, h5, h6, h7, h8, ite_self]
def namT (t : Nat) : Int32 := if t ≤ 5 then nI t else -1
/-- what is named, of a word's number: the class's token t (21: none) -/
def wdOf (w : Int64) (t : Nat) : Prop := (t ≤ 11 ∨ t = 21) ∧ ∀ v, v < 12 → ((w = Int64.ofNat (CWn.getD v 0)) = (t = v))
theorem wdOf_of {w : Int64} {t : Nat} (ht : t ≤ 11) (h : w = Int64.ofNat (CWn.getD t 0)) : wdOf w t := by
  refine ⟨Or.inl ht, fun v hv => ?_⟩
  have p7 : (27 : Nat) ^ 7 < 2 ^ 63 := by decide
  have h1 := CWn_lt t (by omega)
  have h2 := CWn_lt v hv
  rw [h]
  exact propext ⟨fun z => h1.2 v hv (i64_ofNat (by omega) (by omega) z), fun z => by rw [z]⟩
theorem wdOf_c {w : Int64} {t : Nat} (h : wdOf w t) : (w = 7871591333) = (t = 0) ∧ (w = 990) = (t = 1) ∧ (w = 212302449) = (t = 2) ∧ (w = 47) = (t = 3) ∧ (w = 6223770586) = (t = 4) ∧ (w = 2968) = (t = 5) ∧ (w = 240400) = (t = 6) ∧ (w = 4555648) = (t = 7) ∧ (w = 8926327) = (t = 8) ∧ (w = 423) = (t = 9) ∧ (w = 1111) = (t = 10) ∧ (w = 10631) = (t = 11) :=
  ⟨h.2 0 (by omega), h.2 1 (by omega), h.2 2 (by omega), h.2 3 (by omega), h.2 4 (by omega), h.2 5 (by omega), h.2 6 (by omega), h.2 7 (by omega), h.2 8 (by omega), h.2 9 (by omega), h.2 10 (by omega), h.2 11 (by omega)⟩
theorem M129 {t : Nat} (h : wdOf (L 0) t) (d : Nat) (P : MP) : mRun (d + 1) 129 [.ref 0] (mkH dSh I V L A) P = P (some (.int (namT t))) (mkH dSh I V L A) := by
  obtain ⟨w0, w1, w2, w3, w4, w5, w6, w7, w8, w9, w10, w11⟩ := wdOf_c h
  unfold namT
  by_cases c0 : t = 0
  · subst c0; simp (disch := first | assumption | exact mnl_i | exact mnl_r | exact mnl_n | exact mnl_0 | omega) only [↓reduceIte, E129_0, E129_11, E129_13, E129_24, E129_26, E129_37, E129_39, E129_50, E129_52, E129_63, E129_65, E129_76, E129_80, E129_81, B129, dShG, lcmp0, w0]; rfl
  by_cases c1 : t = 1
  · subst c1; simp (disch := first | assumption | exact mnl_i | exact mnl_r | exact mnl_n | exact mnl_0 | omega) only [↓reduceIte, E129_0, E129_11, E129_13, E129_24, E129_26, E129_37, E129_39, E129_50, E129_52, E129_63, E129_65, E129_76, E129_80, E129_81, B129, dShG, lcmp0, w0, w1, c0]; rfl
  by_cases c2 : t = 2
  · subst c2; simp (disch := first | assumption | exact mnl_i | exact mnl_r | exact mnl_n | exact mnl_0 | omega) only [↓reduceIte, E129_0, E129_11, E129_13, E129_24, E129_26, E129_37, E129_39, E129_50, E129_52, E129_63, E129_65, E129_76, E129_80, E129_81, B129, dShG, lcmp0, w0, w1, w2, c0, c1]; rfl
  by_cases c3 : t = 3
  · subst c3; simp (disch := first | assumption | exact mnl_i | exact mnl_r | exact mnl_n | exact mnl_0 | omega) only [↓reduceIte, E129_0, E129_11, E129_13, E129_24, E129_26, E129_37, E129_39, E129_50, E129_52, E129_63, E129_65, E129_76, E129_80, E129_81, B129, dShG, lcmp0, w0, w1, w2, w3, c0, c1, c2]; rfl
  by_cases c4 : t = 4
  · subst c4; simp (disch := first | assumption | exact mnl_i | exact mnl_r | exact mnl_n | exact mnl_0 | omega) only [↓reduceIte, E129_0, E129_11, E129_13, E129_24, E129_26, E129_37, E129_39, E129_50, E129_52, E129_63, E129_65, E129_76, E129_80, E129_81, B129, dShG, lcmp0, w0, w1, w2, w3, w4, c0, c1, c2, c3]; rfl
  by_cases c5 : t = 5
  · subst c5; simp (disch := first | assumption | exact mnl_i | exact mnl_r | exact mnl_n | exact mnl_0 | omega) only [↓reduceIte, E129_0, E129_11, E129_13, E129_24, E129_26, E129_37, E129_39, E129_50, E129_52, E129_63, E129_65, E129_76, E129_80, E129_81, B129, dShG, lcmp0, w0, w1, w2, w3, w4, w5, c0, c1, c2, c3, c4]; rfl
  have c6 : ¬ t ≤ 5 := by omega
  simp (disch := first | assumption | exact mnl_i | exact mnl_r | exact mnl_n | exact mnl_0 | omega) only [↓reduceIte, E129_0, E129_11, E129_13, E129_24, E129_26, E129_37, E129_39, E129_50, E129_52, E129_63, E129_65, E129_76, E129_80, E129_81, B129, dShG, lcmp0, w0, w1, w2, w3, w4, w5, c0, c1, c2, c3, c4, c5, c6]
theorem M130 {t : Nat} (h : wdOf (L 0) t) (h6 : 6 ≤ t) (d : Nat) (P : MP) : mRun (d + 1) 130 [.ref 0] (mkH dSh I V L A) P = P (some (.int (if t = 21 then 0 else 1))) (mkH dSh I V L A) := by
  obtain ⟨w0, w1, w2, w3, w4, w5, w6, w7, w8, w9, w10, w11⟩ := wdOf_c h
  have ht := h.1
  by_cases c : t = 21
  · subst c
    simp (disch := first | assumption | exact mnl_i | exact mnl_r | exact mnl_n | exact mnl_0 | omega) only [↓reduceIte, E130_0, E130_11, E130_22, E130_33, E130_44, E130_55, E130_66, E130_70, E130_71, B130, dShG, lcmp0, w6, w7, w8, w9, w10, w11, Nat.reduceEqDiff]
  rw [if_neg c]
  by_cases c6 : t = 6
  · simp (disch := first | assumption | exact mnl_i | exact mnl_r | exact mnl_n | exact mnl_0 | omega) only [↓reduceIte, E130_0, E130_11, E130_22, E130_33, E130_44, E130_55, E130_66, E130_70, E130_71, B130, dShG, lcmp0, w6, c6]
  by_cases c7 : t = 7
  · simp (disch := first | assumption | exact mnl_i | exact mnl_r | exact mnl_n | exact mnl_0 | omega) only [↓reduceIte, E130_0, E130_11, E130_22, E130_33, E130_44, E130_55, E130_66, E130_70, E130_71, B130, dShG, lcmp0, w6, w7, c6, c7, Nat.reduceEqDiff]
  by_cases c8 : t = 8
  · simp (disch := first | assumption | exact mnl_i | exact mnl_r | exact mnl_n | exact mnl_0 | omega) only [↓reduceIte, E130_0, E130_11, E130_22, E130_33, E130_44, E130_55, E130_66, E130_70, E130_71, B130, dShG, lcmp0, w6, w7, w8, c6, c7, c8, Nat.reduceEqDiff]
  by_cases c10 : t = 10
  · simp (disch := first | assumption | exact mnl_i | exact mnl_r | exact mnl_n | exact mnl_0 | omega) only [↓reduceIte, E130_0, E130_11, E130_22, E130_33, E130_44, E130_55, E130_66, E130_70, E130_71, B130, dShG, lcmp0, w6, w7, w8, w10, c6, c7, c8, c10, Nat.reduceEqDiff]
  by_cases c9 : t = 9
  · simp (disch := first | assumption | exact mnl_i | exact mnl_r | exact mnl_n | exact mnl_0 | omega) only [↓reduceIte, E130_0, E130_11, E130_22, E130_33, E130_44, E130_55, E130_66, E130_70, E130_71, B130, dShG, lcmp0, w6, w7, w8, w10, w9, c6, c7, c8, c10, c9, Nat.reduceEqDiff]
  have c11 : t = 11 := by omega
  simp (disch := first | assumption | exact mnl_i | exact mnl_r | exact mnl_n | exact mnl_0 | omega) only [↓reduceIte, E130_0, E130_11, E130_22, E130_33, E130_44, E130_55, E130_66, E130_70, E130_71, B130, dShG, lcmp0, w6, w7, w8, w10, w9, w11, c6, c7, c8, c10, c9, c11, Nat.reduceEqDiff]
/-- what next() may write -/
def nxS (I I' : TI) : Prop := ∀ f, f ≠ 17 → f ≠ 18 → f ≠ 19 → f ≠ 20 → I' 0 f = I 0 f
theorem nxS_up {I I' : TI} (h : nxS I I') {f : Nat} {v : Int32} (hf : f = 17 ∨ f = 18 ∨ f = 19 ∨ f = 20) : nxS I (up2 I' 0 f v) := fun g h1 h2 h3 h4 => by rw [up2_f (by omega)]; exact h g h1 h2 h3 h4
theorem MTP_nx {I' : TI} (h : MTP I A n b) (s : nxS I I') : MTP I' A n b := ⟨by rw [s 10 (by omega) (by omega) (by omega) (by omega)]; exact h.1, h.2⟩
theorem upL_u {v w : Int64} : upL (upL L 0 v) 0 w = upL L 0 w := by
  funext q
  unfold upL
  by_cases h : q = 0
  · simp only [h, if_true]
  · simp only [h, if_false]
theorem upL_s {v : Int64} : upL L 0 v 0 = v := if_pos rfl
theorem encI64 {x c : Nat} (hc : 96 ≤ c) (hc2 : c ≤ 255) : (27 : Int64) * Int64.ofNat x + (nI c).toInt64 - 96 = Int64.ofNat (27 * x + (c - 96)) := by
  have h1 : (nI c).toInt64 = Int64.ofNat c := by
    have : ∀ c, c < 256 → (nI c).toInt64 = Int64.ofNat c := by decide +kernel
    exact this c (by omega)
  have h2 : (27 : Int64) = Int64.ofNat 27 := rfl
  have h3 : (96 : Int64) = Int64.ofNat 96 := rfl
  rw [h1, h2, h3, ← Int64.ofNat_mul, ← Int64.ofNat_add]
  have h4 : 27 * x + c = (27 * x + (c - 96)) + 96 := by omega
  rw [h4, Int64.ofNat_add]
  exact Int64.add_sub_cancel _ _
end MY
