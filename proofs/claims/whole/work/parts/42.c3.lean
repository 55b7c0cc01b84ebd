/-! the class: what a rider lets out, holds, pumps -/
theorem clampQ {o : Nat} (h : o < 2 ^ 31) : (if (0 : Int32) < (if 99 < o then (99 : Int32) else nI o) then (if 99 < o then (99 : Int32) else nI o) else 0) = nI (min 99 o) := by
  by_cases c : 99 < o
  · rw [if_pos c, if_pos (by decide), Nat.min_eq_left (by omega)]; rfl
  · rw [if_neg c, Nat.min_eq_right (by omega)]
    by_cases c2 : (0 : Int32) < nI o
    · rw [if_pos c2]
    · rw [if_neg c2]
      have : o = 0 := by
        rw [i32_lt, nI_toInt h] at c2
        have e0 : (0 : Int32).toInt = 0 := by decide
        omega
      rw [this]; rfl
theorem clampH {o : Nat} (h : o < 2 ^ 31) : (if (1 : Int32) < (if 99 < o then (99 : Int32) else nI o) then (if 99 < o then (99 : Int32) else nI o) else 1) = nI (max 1 (min 99 o)) := by
  by_cases c : 99 < o
  · rw [if_pos c, if_pos (by decide), show max 1 (min 99 o) = 99 by omega]; rfl
  · rw [if_neg c]
    by_cases c2 : (1 : Int32) < nI o
    · rw [if_pos c2]
      have : 1 < o := (nI_ltI (a := 1) (by omega) h).mp c2
      rw [show max 1 (min 99 o) = o by omega]
    · rw [if_neg c2]
      have : ¬ 1 < o := fun z => c2 ((nI_ltI (a := 1) (by omega) h).mpr z)
      rw [show max 1 (min 99 o) = 1 by omega]; rfl
theorem hold1 : ∀ v, v < 100 → (if (1 : Int32) < (if (99 : Int32) < nI v - 10 then (99 : Int32) else nI v - 10) then (if (99 : Int32) < nI v - 10 then (99 : Int32) else nI v - 10) else 1) = nI (max 1 (v - 10)) := by decide +kernel
theorem hold3 : ∀ v, v < 100 → (if (1 : Int32) < (if (99 : Int32) < (nI v - 10) / 2 then (99 : Int32) else (nI v - 10) / 2) then (if (99 : Int32) < (nI v - 10) / 2 then (99 : Int32) else (nI v - 10) / 2) else 1) = nI (max 1 ((v - 10) / 2)) := by decide +kernel
section C4
variable {I : Nat → Nat → Int32} {V : Nat → Nat → Nat} {L : Nat → Int64} {A : Nat → Nat → Int32} {a b t : Nat} {W : Nat → List Int32} {th : Nat → Nat} {day : Nat} {r : Nat → Nat}
theorem S17n (h : WR I V A a b t W th day r) {p : Nat} (hp : p < 24) (d : Nat) (P : MP) : mRun (d + 1) 17 [.ref b, .int (nI p)] (mkH cSh I V L A) P = P (some (.int (nI (th p)))) (mkH cSh I V L A) := by
  rw [S17 h.1.2.1 h.1.2.2.1 hp, h.2.2.2.2.2.1 p hp]
theorem S13n (h : WR I V A a b t W th day r) (d v : Nat) (P : MP) : mRun (d + 1) 13 [.ref a, .int (nI v)] (mkH cSh I V L A) P = P (some (.int (nI (if r 3 % 5 = r 1 % 5 then 2 * v else v)))) (mkH cSh I V L A) := by
  obtain ⟨⟨ha, hb, hb1, ht, h1, h2, h3, hn1, hn2⟩, hv, ht, hr, hd, hth, hrk, hday, hthk⟩ := h
  obtain ⟨k0, k1, k2, k3, k4, k5⟩ := hrk
  rw [S13 ha, hr 3 (by omega), hr 1 (by omega)]
  simp (disch := first | assumption | exact mnl_i | exact mnl_r | exact mnl_n | exact mnl_0 | omega) only [q_rem, q_ee, q_mul]
  by_cases c : r 3 % 5 = r 1 % 5
  · rw [if_pos c, if_pos c]
  · rw [if_neg c, if_neg c]
theorem valN_le {W : Nat → List Int32} {p : Nat} {th : Nat → Nat} {day : Nat} {r : Nat → Nat} : valN W p th day r ≤ 99 := clamp99_le _
set_option maxHeartbeats 1000000 in
theorem S12 (h : WR I V A a b t W th day r) (d : Nat) (P : MP) (hP : ∀ f', P (some (.int (nI (letsN (r 0) (r 1) (r 3) (th (r 3)) (valN W 0 th day r))))) (mkH cSh I V L (upA A (t + 2) f'))) : mRun (d + 3) 12 [.ref a, .ref b] (mkH cSh I V L A) P := by
  obtain ⟨⟨ha, hb, hb1, ht, h1, h2, h3, hn1, hn2⟩, hv, hte, hr, hd, hth, hrk, hday, hthk⟩ := id h
  obtain ⟨k0, k1, k2, k3, k4, k5⟩ := id hrk
  simp (disch := first | assumption | exact mnl_i | exact mnl_r | exact mnl_n | exact mnl_0 | omega) only [↓reduceIte, tolS, E12_0, B12, kRoad, kRider, kText, hv]
  refine S33 h d _ 0 (by omega) (fun f' => ?_)
  have hW := WR_A h f'
  have hP := hP f'
  have hv9 : valN W 0 th day r ≤ 99 := valN_le
  generalize valN W 0 th day r = v at hP hv9 ⊢
  have hk : r 0 = 0 ∨ r 0 = 1 ∨ r 0 = 2 ∨ r 0 = 3 ∨ r 0 = 4 ∨ r 0 = 5 := by omega
  have hr0 := hr 0 (by omega)
  have hr1 := hr 1 (by omega)
  have hr3 := hr 3 (by omega)
  have htl := hthk (r 3) (by omega)
  rcases hk with hk | hk | hk | hk | hk | hk <;> rw [hk] at hP hr0 <;> simp only [letsN] at hP
  · have e : min 99 v = v := by omega
    simp (disch := first | assumption | exact mnl_i | exact mnl_r | exact mnl_n | exact mnl_0 | omega) only [↓reduceIte, tolS, E12_0, E12_52, E12_61, E12_68, E12_82, E12_94, E12_98, E12_101, E12_105, E12_110, kRider, hr0, q_eq, Nat.reduceEqDiff, q_gt, clampQ, e]
    exact hP
  · have hl : (if r 3 % 5 = r 1 % 5 then 2 * v else v) < 2 ^ 31 := by split <;> omega
    simp (disch := first | assumption | exact mnl_i | exact mnl_r | exact mnl_n | exact mnl_0 | omega) only [↓reduceIte, tolS, E12_0, E12_52, E12_61, E12_68, E12_82, E12_94, E12_98, E12_101, E12_105, E12_110, kRider, hr0, q_eq, Nat.reduceEqDiff, q_gt, clampQ, S13n hW]
    exact hP
  · have e : min 99 (v / 2) = v / 2 := by omega
    simp (disch := first | assumption | exact mnl_i | exact mnl_r | exact mnl_n | exact mnl_0 | omega) only [↓reduceIte, tolS, E12_0, E12_52, E12_61, E12_68, E12_82, E12_94, E12_98, E12_101, E12_105, E12_110, kRider, hr0, q_eq, Nat.reduceEqDiff, q_gt, q_div, show ¬ (2 : Int32) = 0 by decide, clampQ, e]
    exact hP
  · have hl : (if r 3 % 5 = r 1 % 5 then 2 * v else v) + r 1 < 2 ^ 31 := by split <;> omega
    simp (disch := first | assumption | exact mnl_i | exact mnl_r | exact mnl_n | exact mnl_0 | omega) only [↓reduceIte, tolS, E12_0, E12_52, E12_61, E12_68, E12_82, E12_94, E12_98, E12_101, E12_105, E12_110, kRider, hr0, hr1, q_eq, Nat.reduceEqDiff, q_gt, q_aa, clampQ, S13n hW]
    exact hP
  · have e : min 99 (v / 2) = v / 2 := by omega
    have e2 : (if (0 : Int32) < (0 : Int32) then (0 : Int32) else 0) = 0 := rfl
    by_cases c : th (r 3) < 4
    · rw [if_pos c] at hP
      simp (disch := first | assumption | exact mnl_i | exact mnl_r | exact mnl_n | exact mnl_0 | omega) only [↓reduceIte, tolS, E12_0, E12_52, E12_61, E12_68, E12_82, E12_94, E12_98, E12_101, E12_105, E12_110, kRider, kRoad, hr0, hr3, q_eq, Nat.reduceEqDiff, S17n hW, q_lt, c, show ¬ (99 : Int32) < 0 by decide, show ¬ (0 : Int32) < 0 by decide]
      exact hP
    · rw [if_neg c] at hP
      simp (disch := first | assumption | exact mnl_i | exact mnl_r | exact mnl_n | exact mnl_0 | omega) only [↓reduceIte, tolS, E12_0, E12_52, E12_61, E12_68, E12_82, E12_94, E12_98, E12_101, E12_105, E12_110, kRider, kRoad, hr0, hr3, q_eq, Nat.reduceEqDiff, S17n hW, q_lt, c, q_gt, q_div, show ¬ (2 : Int32) = 0 by decide, clampQ, e]
      exact hP
  · simp (disch := first | assumption | exact mnl_i | exact mnl_r | exact mnl_n | exact mnl_0 | omega) only [↓reduceIte, tolS, E12_0, E12_52, E12_61, E12_68, E12_82, E12_94, E12_98, E12_101, E12_105, E12_110, kRider, hr0, q_eq, Nat.reduceEqDiff, show ¬ (99 : Int32) < 0 by decide, show ¬ (0 : Int32) < 0 by decide]
    exact hP
set_option maxHeartbeats 1000000 in
theorem S14 (h : WR I V A a b t W th day r) (d : Nat) (P : MP) (hP : ∀ f', P (some (.int (nI (holdsN (r 0) (valN W 1 th day r))))) (mkH cSh I V L (upA A (t + 2) f'))) : mRun (d + 3) 14 [.ref a, .ref b] (mkH cSh I V L A) P := by
  obtain ⟨⟨ha, hb, hb1, ht, h1, h2, h3, hn1, hn2⟩, hv, hte, hr, hd, hth, hrk, hday, hthk⟩ := id h
  obtain ⟨k0, k1, k2, k3, k4, k5⟩ := id hrk
  simp (disch := first | assumption | exact mnl_i | exact mnl_r | exact mnl_n | exact mnl_0 | omega) only [↓reduceIte, tolS, E14_0, B14, kRoad, kRider, kText, hv]
  refine S33 h d _ 1 (by omega) (fun f' => ?_)
  have hP := hP f'
  have hv9 : valN W 1 th day r < 100 := Nat.lt_succ_of_le valN_le
  generalize valN W 1 th day r = v at hP hv9 ⊢
  have hk : r 0 = 0 ∨ r 0 = 1 ∨ r 0 = 2 ∨ r 0 = 3 ∨ r 0 = 4 ∨ r 0 = 5 := by omega
  have hr0 := hr 0 (by omega)
  rcases hk with hk | hk | hk | hk | hk | hk <;> rw [hk] at hP hr0 <;> simp only [holdsN] at hP
  · have e : max 1 (min 99 v) = max 1 v := by omega
    simp (disch := first | assumption | exact mnl_i | exact mnl_r | exact mnl_n | exact mnl_0 | omega) only [↓reduceIte, tolS, E14_0, E14_52, E14_60, E14_70, E14_77, E14_82, kRider, hr0, q_eq, Nat.reduceEqDiff, q_gt, clampH, e]
    exact hP
  · simp (disch := first | assumption | exact mnl_i | exact mnl_r | exact mnl_n | exact mnl_0 | omega) only [↓reduceIte, tolS, E14_0, E14_52, E14_60, E14_70, E14_77, E14_82, kRider, hr0, q_eq, Nat.reduceEqDiff, hold1 v hv9]
    exact hP
  · have e : max 1 (min 99 v) = max 1 v := by omega
    simp (disch := first | assumption | exact mnl_i | exact mnl_r | exact mnl_n | exact mnl_0 | omega) only [↓reduceIte, tolS, E14_0, E14_52, E14_60, E14_70, E14_77, E14_82, kRider, hr0, q_eq, Nat.reduceEqDiff, q_gt, clampH, e]
    exact hP
  · simp (disch := first | assumption | exact mnl_i | exact mnl_r | exact mnl_n | exact mnl_0 | omega) only [↓reduceIte, tolS, E14_0, E14_52, E14_60, E14_70, E14_77, E14_82, kRider, hr0, q_eq, Nat.reduceEqDiff, show ¬ (2 : Int32) = 0 by decide, hold3 v hv9]
    exact hP
  · have e : max 1 (min 99 (v + 5)) = min 99 (v + 5) := by omega
    simp (disch := first | assumption | exact mnl_i | exact mnl_r | exact mnl_n | exact mnl_0 | omega) only [↓reduceIte, tolS, E14_0, E14_52, E14_60, E14_70, E14_77, E14_82, kRider, hr0, q_eq, Nat.reduceEqDiff, q_gt, q_add, clampH, e]
    exact hP
  · simp (disch := first | assumption | exact mnl_i | exact mnl_r | exact mnl_n | exact mnl_0 | omega) only [↓reduceIte, tolS, E14_0, E14_52, E14_60, E14_70, E14_77, E14_82, kRider, hr0, q_eq, Nat.reduceEqDiff, show ¬ (99 : Int32) < 1 by decide, show ¬ (1 : Int32) < 1 by decide]
    exact hP
set_option maxHeartbeats 1000000 in
theorem S15 (h : WR I V A a b t W th day r) (d : Nat) (P : MP) (hP : ∀ f', P (some (.int (nI (pumpsN (r 0) (r 1) day (valN W 2 th day r))))) (mkH cSh I V L (upA A (t + 2) f'))) : mRun (d + 3) 15 [.ref a, .ref b] (mkH cSh I V L A) P := by
  obtain ⟨⟨ha, hb, hb1, ht, h1, h2, h3, hn1, hn2⟩, hv, hte, hr, hd, hth, hrk, hday, hthk⟩ := id h
  obtain ⟨k0, k1, k2, k3, k4, k5⟩ := id hrk
  simp (disch := first | assumption | exact mnl_i | exact mnl_r | exact mnl_n | exact mnl_0 | omega) only [↓reduceIte, tolS, E15_0, B15, kRoad, kRider, kText, hv]
  refine S33 h d _ 2 (by omega) (fun f' => ?_)
  have hP := hP f'
  have hv9 : valN W 2 th day r ≤ 99 := valN_le
  generalize valN W 2 th day r = v at hP hv9 ⊢
  have hk : r 0 = 0 ∨ r 0 = 1 ∨ r 0 = 2 ∨ r 0 = 3 ∨ r 0 = 4 ∨ r 0 = 5 := by omega
  have hr0 := hr 0 (by omega)
  have hr1 := hr 1 (by omega)
  rcases hk with hk | hk | hk | hk | hk | hk <;> rw [hk] at hP hr0 <;> simp only [pumpsN] at hP
  · have e : min 99 v = v := by omega
    simp (disch := first | assumption | exact mnl_i | exact mnl_r | exact mnl_n | exact mnl_0 | omega) only [↓reduceIte, tolS, E15_0, E15_48, E15_55, E15_65, E15_69, E15_70, E15_74, E15_82, kRider, hr0, q_eq, Nat.reduceEqDiff, q_gt, clampQ, e]
    exact hP
  · have e : min 99 v = v := by omega
    simp (disch := first | assumption | exact mnl_i | exact mnl_r | exact mnl_n | exact mnl_0 | omega) only [↓reduceIte, tolS, E15_0, E15_48, E15_55, E15_65, E15_69, E15_70, E15_74, E15_82, kRider, hr0, q_eq, Nat.reduceEqDiff, q_gt, clampQ, e]
    exact hP
  · simp (disch := first | assumption | exact mnl_i | exact mnl_r | exact mnl_n | exact mnl_0 | omega) only [↓reduceIte, tolS, E15_0, E15_48, E15_55, E15_65, E15_69, E15_70, E15_74, E15_82, kRider, hr0, q_eq, Nat.reduceEqDiff, q_gt, q_add, clampQ]
    exact hP
  · have e : min 99 v = v := by omega
    by_cases c : day % 2 = 1
    · rw [if_pos c] at hP
      simp (disch := first | assumption | exact mnl_i | exact mnl_r | exact mnl_n | exact mnl_0 | omega) only [↓reduceIte, tolS, E15_0, E15_48, E15_55, E15_65, E15_69, E15_70, E15_74, E15_82, kRider, kRoad, hr0, hd, q_eq, Nat.reduceEqDiff, show ¬ (2 : Int32) = 0 by decide, q_rem, c, show ¬ (99 : Int32) < 0 by decide, show ¬ (0 : Int32) < 0 by decide]
      exact hP
    · rw [if_neg c] at hP
      simp (disch := first | assumption | exact mnl_i | exact mnl_r | exact mnl_n | exact mnl_0 | omega) only [↓reduceIte, tolS, E15_0, E15_48, E15_55, E15_65, E15_69, E15_70, E15_74, E15_82, kRider, kRoad, hr0, hd, q_eq, Nat.reduceEqDiff, show ¬ (2 : Int32) = 0 by decide, q_rem, c, q_gt, clampQ, e]
      exact hP
  · simp (disch := first | assumption | exact mnl_i | exact mnl_r | exact mnl_n | exact mnl_0 | omega) only [↓reduceIte, tolS, E15_0, E15_48, E15_55, E15_65, E15_69, E15_70, E15_74, E15_82, kRider, hr0, q_eq, Nat.reduceEqDiff, q_gt, q_add, clampQ]
    exact hP
  · have e : min 99 (r 1) = r 1 := by omega
    simp (disch := first | assumption | exact mnl_i | exact mnl_r | exact mnl_n | exact mnl_0 | omega) only [↓reduceIte, tolS, E15_0, E15_48, E15_55, E15_65, E15_69, E15_70, E15_74, E15_82, kRider, hr0, hr1, q_eq, Nat.reduceEqDiff, q_gt, clampQ, e]
    exact hP
end C4
