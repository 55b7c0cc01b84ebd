/-! the class: more rides in thought, seats -/
theorem i32_ix (x : Int32) (n : Nat) : (∃ j, j < n ∧ j < 2 ^ 31 ∧ x = nI j) ∨ x < 0 ∨ ∃ j, n ≤ j ∧ j < 2 ^ 31 ∧ x = nI j := by
  by_cases h : x < 0
  · exact Or.inr (Or.inl h)
  · obtain ⟨j, hj, rfl⟩ := nI_of h
    by_cases c : j < n
    · exact Or.inl ⟨j, c, hj, rfl⟩
    · exact Or.inr (Or.inr ⟨j, by omega, hj, rfl⟩)
def cfN (W : Nat → List Int32) (th : Nat → Nat) (day to : Nat) : Nat → (Nat → Nat) → Nat → Nat
  | 0, _, did => did
  | n + 1, r, did => if r 3 < to then cfN W th day to n (goN W th day r).1 (goN W th day r).2 else did
def flN (W : Nat → List Int32) (th : Nat → Nat) (day : Nat) : Nat → (Nat → Nat) → (Nat → Nat) → (Nat → Nat)
  | 0, _, F => F
  | n + 1, r, F => if r 3 < 23 then flN W th day n (goN W th day r).1 (if (goN W th day r).2 = 4 then (fun p => if p = (goN W th day r).1 3 then F p + 1 else F p) else F) else F
section C7
variable {I : Nat → Nat → Int32} {V : Nat → Nat → Nat} {L : Nat → Int64} {A : Nat → Nat → Int32} {a b t : Nat} {W : Nat → List Int32} {th : Nat → Nat} {day : Nat} {r : Nat → Nat}
theorem S1_in {many j : Nat} (hm : I 4 1 = nI many) (h5 : many ≤ 5) (hj : j < many) (d : Nat) (P : MP) : mRun (d + 1) 1 [.ref 4, .int (nI j)] (mkH cSh I V L A) P = P (some (.ref (6 + 1 * j))) (mkH cSh I V L A) := by
  have h1 : ¬ nI j < 0 := nI_pos (by omega)
  have h2 : j < 5 := by omega
  simp (disch := first | assumption | exact mnl_i | exact mnl_r | exact mnl_n | exact mnl_0 | omega) only [↓reduceIte, E1_0, E1_4, E1_12, E1_21, E1_30, E1_31, B1, cShG, cShR, h1, hm, q_ll, hj, nI_d, h2, pix_nI]
theorem S1_out {many : Nat} {i : Int32} (hm : I 4 1 = nI many) (h5 : many ≤ 5) (hi : i < 0 ∨ ∃ j, many ≤ j ∧ j < 2 ^ 31 ∧ i = nI j) (d : Nat) (P : MP) : mRun (d + 1) 1 [.ref 4, .int i] (mkH cSh I V L A) P = P (some .null) (mkH cSh I V L A) := by
  rcases hi with hi | ⟨j, hj, hj2, rfl⟩
  · simp (disch := first | assumption | exact mnl_i | exact mnl_r | exact mnl_n | exact mnl_0 | omega) only [↓reduceIte, E1_0, E1_4, E1_12, E1_21, E1_30, E1_31, B1, cShG, cShR, hi]
  · have h1 : ¬ nI j < 0 := nI_pos (by omega)
    have h2 : ¬ j < many := by omega
    simp (disch := first | assumption | exact mnl_i | exact mnl_r | exact mnl_n | exact mnl_0 | omega) only [↓reduceIte, E1_0, E1_4, E1_12, E1_21, E1_30, E1_31, B1, cShG, cShR, h1, hm, q_ll, h2]
theorem goN_ge (h : rOk r) : (goN W th day r).1 3 ≤ 23 := (goN_ok h).2.2.2.1
set_option maxHeartbeats 1000000 in
theorem S82_loop (d to : Nat) (hto : to ≤ 23) (P : MP) (a0 : Nat) : ∀ (n k did : Nat) (r : Nat → Nat) (I : Nat → Nat → Int32) (A : Nat → Nat → Int32), k + n = 240 → did ≤ 4 → WR I V A 20 b t W th day r →
    (∀ I' A', (∀ b' g, b' ≠ 20 → I' b' g = I b' g) → (∀ b', b' ≠ t + 2 → A' b' = A b') → P (some (.int (if cfN W th day to n r did = 4 then 1 else 0))) (mkH cSh I' V L A')) →
    mFr (d + 4) 82 14 [some (.ref 0), some (.ref a0), some (.int (nI to)), some (.ref b), some (.int (nI did)), some (.int (nI k))] [] (mkH cSh I V L A) P := by
  intro n
  induction n with
  | zero =>
    intro k did r I A hk hd hW hP
    have hk' : ¬ k < 240 := by omega
    have hP := hP I A (fun _ _ _ => rfl) (fun _ _ => rfl)
    by_cases c : did = 4
    · rw [if_pos (show cfN W th day to 0 r did = 4 from c)] at hP
      simp (disch := first | assumption | exact mnl_i | exact mnl_r | exact mnl_n | exact mnl_0 | omega) only [↓reduceIte, E82_14, E82_49, E82_55, E82_60, q_lt, q_eq, hk', c]
      exact hP
    · rw [if_neg (show ¬ cfN W th day to 0 r did = 4 from c)] at hP
      simp (disch := first | assumption | exact mnl_i | exact mnl_r | exact mnl_n | exact mnl_0 | omega) only [↓reduceIte, E82_14, E82_49, E82_59, E82_60, q_lt, q_eq, hk', c]
      exact hP
  | succ n ih =>
    intro k did r I A hk hd hW hP
    have hk' : k < 240 := by omega
    have h20 := c20
    have hr3 := hW.2.2.2.1 3 (by omega)
    have h3 := hW.2.2.2.2.2.2.1.2.2.2.1
    by_cases c : r 3 < to
    · simp only [cfN, if_pos c] at hP
      simp (disch := first | assumption | exact mnl_i | exact mnl_r | exact mnl_n | exact mnl_0 | omega) only [↓reduceIte, tolS, E82_14, E82_22, E82_33, cShG, hr3, q_lt, q_ll, hk', c]
      refine S11 hW d _ (fun I' f' hI' hr' => ?_)
      simp (disch := first | assumption | exact mnl_i | exact mnl_r | exact mnl_n | exact mnl_0 | omega) only [↓reduceIte, tolS, E82_33, q_add]
      refine ih (k + 1) _ _ I' _ (by omega) goN_did (WR_I (WR_A hW f') hI' hr' (goN_ok hW.2.2.2.2.2.2.1)) (fun I2 A2 q1 q2 => ?_)
      exact hP I2 A2 (fun b' g hb' => by rw [q1 b' g hb', hI' b' g hb']) (fun b' hb' => by rw [q2 b' hb', upA_n hb'])
    · have hP := hP I A (fun _ _ _ => rfl) (fun _ _ => rfl)
      simp only [cfN, if_neg c] at hP
      by_cases c4 : did = 4
      · rw [if_pos c4] at hP
        simp (disch := first | assumption | exact mnl_i | exact mnl_r | exact mnl_n | exact mnl_0 | omega) only [↓reduceIte, tolS, E82_14, E82_22, E82_49, E82_55, E82_60, cShG, hr3, q_lt, q_ll, q_eq, hk', c, c4]
        exact hP
      · rw [if_neg c4] at hP
        simp (disch := first | assumption | exact mnl_i | exact mnl_r | exact mnl_n | exact mnl_0 | omega) only [↓reduceIte, tolS, E82_14, E82_22, E82_49, E82_59, E82_60, cShG, hr3, q_lt, q_ll, q_eq, hk', c, c4]
        exact hP
theorem S82 (h : WR I V A a b t W th day r) (hne : a ≠ 20) (d : Nat) {to : Nat} (hto : to ≤ 23) (P : MP) (hP : ∀ I' A', (∀ b' g, b' ≠ 20 → I' b' g = I b' g) → (∀ b', b' ≠ t + 2 → A' b' = A b') → P (some (.int (if cfN W th day to 240 r 0 = 4 then 1 else 0))) (mkH cSh I' V L A')) : mRun (d + 5) 82 [.ref 0, .ref a, .int (nI to), .ref b] (mkH cSh I V L A) P := by
  have h20 := c20
  have ha := h.1.1
  simp (disch := first | assumption | exact mnl_i | exact mnl_r | exact mnl_n | exact mnl_0 | omega) only [↓reduceIte, tolS, E82_0, B82, cShG]
  refine S9 c20 ha hne _ _ (fun I' hI hr => ?_)
  simp (disch := first | assumption | exact mnl_i | exact mnl_r | exact mnl_n | exact mnl_0 | omega) only [↓reduceIte, tolN, E82_0]
  refine S82_loop d to hto P _ 240 0 0 r I' A (by omega) (by omega) (WR_mind h c20 (WR_b h).1 hI hr) (fun I2 A2 q1 q2 => ?_)
  exact hP I2 A2 (fun b' g hb' => by rw [q1 b' g hb', hI b' g hb']) q2
theorem flN_le : ∀ (n : Nat) (r : Nat → Nat) (F : Nat → Nat) (p : Nat), flN W th day n r F p ≤ F p + n := by
  intro n
  induction n with
  | zero => intro r F p; exact Nat.le_refl _
  | succ n ih =>
    intro r F p
    simp only [flN]
    split
    · by_cases c4 : (goN W th day r).2 = 4
      · rw [if_pos c4]
        have h9 := ih (goN W th day r).1 (fun p => if p = (goN W th day r).1 3 then F p + 1 else F p) p
        have h8 : (if p = (goN W th day r).1 3 then F p + 1 else F p) ≤ F p + 1 := by split <;> omega
        exact Nat.le_trans h9 (by show (if p = (goN W th day r).1 3 then F p + 1 else F p) + n ≤ _; omega)
      · rw [if_neg c4]
        have := ih (goN W th day r).1 F p
        omega
    · omega
set_option maxHeartbeats 1000000 in
theorem S87_loop (ht21 : t + 2 ≠ 21) (d : Nat) (P : MP) (a0 : Nat) : ∀ (n k : Nat) (r : Nat → Nat) (F : Nat → Nat) (I : Nat → Nat → Int32) (A : Nat → Nat → Int32), k + n = 240 → (∀ p, p < 24 → A 21 p = nI (F p)) → (∀ p, F p + n < 100000) → WR I V A 20 59 t W th day r →
    (∀ I' A', (∀ b' g, b' ≠ 20 → I' b' g = I b' g) → (∀ b', b' ≠ t + 2 → b' ≠ 21 → A' b' = A b') → (∀ p, p < 24 → A' 21 p = nI (flN W th day n r F p)) → P none (mkH cSh I' V L A')) →
    mFr (d + 4) 87 10 [some (.ref 0), some (.ref a0), some (.int (nI k))] [] (mkH cSh I V L A) P := by
  intro n
  induction n with
  | zero =>
    intro k r F I A hk hF hFb hW hP
    have hk' : ¬ k < 240 := by omega
    simp (disch := first | assumption | exact mnl_i | exact mnl_r | exact mnl_n | exact mnl_0 | omega) only [↓reduceIte, E87_10, E87_89, q_lt, hk']
    exact hP I A (fun _ _ _ => rfl) (fun _ _ _ => rfl) hF
  | succ n ih =>
    intro k r F I A hk hF hFb hW hP
    have hk' : k < 240 := by omega
    have h20 := c20
    have hr3 := hW.2.2.2.1 3 (by omega)
    have h3 := hW.2.2.2.2.2.2.1.2.2.2.1
    have hok := goN_ok (W := W) (th := th) (day := day) hW.2.2.2.2.2.2.1
    by_cases c : r 3 < 23
    · simp only [flN, if_pos c] at hP
      simp (disch := first | assumption | exact mnl_i | exact mnl_r | exact mnl_n | exact mnl_0 | omega) only [↓reduceIte, tolS, E87_10, E87_17, E87_27, cShG, S10 h20, hr3, q_lt, hk', c]
      refine S11 hW d _ (fun I' f' hI' hr' => ?_)
      have hw : (goN W th day r).2 < 2 ^ 31 := Nat.lt_of_le_of_lt goN_did (by decide)
      have hW' := WR_I (WR_A hW f') hI' hr' hok
      have hA21 : upA A (t + 2) f' 21 = A 21 := upA_n (fun z => ht21 z.symm)
      by_cases c4 : (goN W th day r).2 = 4
      · simp only [c4, if_true] at hP
        have hat : I' 20 3 = nI ((goN W th day r).1 3) := hr' 3 (by omega)
        have hat1 : (goN W th day r).1 3 ≤ 23 := hok.2.2.2.1
        have hat2 : (goN W th day r).1 3 < 24 := by omega
        have hv := hF _ hat2
        simp (disch := first | assumption | exact mnl_i | exact mnl_r | exact mnl_n | exact mnl_0 | omega) only [↓reduceIte, tolS, E87_27, E87_42, E87_52, E87_67, E87_83, cShG, cShR, q_eq, c4, hat, q_neg, nI_d, q_ll, hat2, pix_nI, hA21, hv, q_add]
        generalize (goN W th day r).1 3 = x at *
        have hFn : ∀ p, p < 24 → upA (upA A (t + 2) f') 21 (upd (A 21) x (nI (F x + 1))) 21 p = nI ((fun p => if p = x then F p + 1 else F p) p) := by
          intro p hp
          rw [upA_s]
          by_cases e : p = x
          · subst e; rw [upd_s]; simp
          · rw [upd_n e, hF p hp]; simp [e]
        have hW2 : WR I' V (upA (upA A (t + 2) f') 21 (upd (A 21) x (nI (F x + 1)))) 20 59 t W th day (goN W th day r).1 := by
          obtain ⟨g1, g2, g3, g4, g5, g6, g7⟩ := hW'
          have hs := g1.2.2.2.2
          have q1 : t + 1 ≠ 21 := by intro z; rw [z] at hs; cases hs.1
          have q3 : t + 3 ≠ 21 := by intro z; rw [z] at hs; cases hs.2.2.1
          exact ⟨g1, g2, by unfold txt; rw [upA_n q1, upA_n q3]; exact g3, g4, g5, fun p hp => by rw [upA_n (by decide)]; exact g6 p hp, g7⟩
        refine ih (k + 1) _ _ I' _ (by omega) hFn (fun p => by have := hFb p; split <;> omega) hW2 (fun I2 A2 q1 q2 q3 => ?_)
        exact hP I2 A2 (fun b' g hb' => by rw [q1 b' g hb', hI' b' g hb']) (fun b' hb' hb2 => by rw [q2 b' hb' hb2, upA_n hb2, upA_n hb']) q3
      · simp only [c4, if_false] at hP
        simp (disch := first | assumption | exact mnl_i | exact mnl_r | exact mnl_n | exact mnl_0 | omega) only [↓reduceIte, tolS, E87_27, E87_83, q_eq, c4, q_add]
        refine ih (k + 1) _ F I' _ (by omega) (fun p hp => by rw [hA21]; exact hF p hp) (fun p => by have := hFb p; omega) hW' (fun I2 A2 q1 q2 q3 => ?_)
        exact hP I2 A2 (fun b' g hb' => by rw [q1 b' g hb', hI' b' g hb']) (fun b' hb' hb2 => by rw [q2 b' hb' hb2, upA_n hb']) q3
    · simp only [flN, if_neg c] at hP
      simp (disch := first | assumption | exact mnl_i | exact mnl_r | exact mnl_n | exact mnl_0 | omega) only [↓reduceIte, tolS, E87_10, E87_17, E87_89, cShG, S10 h20, hr3, q_lt, hk', c, show ¬ (1 : Int32) = 0 by decide]
      exact hP I A (fun _ _ _ => rfl) (fun _ _ _ => rfl) hF
end C7
