/-! the class: rides in thought -/
/-- what the steps till home were, and where one was then, at most n of them -/
def trN (W : Nat → List Int32) (th : Nat → Nat) (day : Nat) : Nat → (Nat → Nat) → List (Nat × Nat)
  | 0, _ => []
  | n + 1, r => if r 3 < 23 then ((goN W th day r).2, (goN W th day r).1 3) :: trN W th day n (goN W th day r).1 else []
theorem c20 : cSh[20]? = some sRider := rfl
theorem c19 : cSh[19]? = some sRider := rfl
section C6
variable {I : Nat → Nat → Int32} {V : Nat → Nat → Nat} {L : Nat → Int64} {A : Nat → Nat → Int32} {a b t : Nat} {W : Nat → List Int32} {th : Nat → Nat} {day : Nat} {r : Nat → Nat}
theorem S9 (ha : cSh[a]? = some sRider) {a' : Nat} (ha' : cSh[a']? = some sRider) (hne : a' ≠ a) (d : Nat) (P : MP) (hP : ∀ I', (∀ b g, b ≠ a → I' b g = I b g) → (∀ f, f < 6 → I' a f = I a' f) → P none (mkH cSh I' V L A)) : mRun (d + 1) 9 [.ref a, .ref a'] (mkH cSh I V L A) P := by
  simp (disch := first | assumption | exact mnl_i | exact mnl_r | exact mnl_n | exact mnl_0 | omega) only [↓reduceIte, E9_0, B9, kRider, up2_a]
  refine hP _ (fun b g h => by simp only [up2_a h]) (fun f hf => ?_)
  match f, hf with
  | 0, _ => simp [up2]
  | 1, _ => simp [up2]
  | 2, _ => simp [up2]
  | 3, _ => simp [up2]
  | 4, _ => simp [up2]
  | 5, _ => simp [up2]
theorem WR_b (h : WR I V A a b t W th day r) : 20 ≠ b ∧ 19 ≠ b := by
  have hb := h.1.2.1
  constructor
  · intro e; rw [← e, c20] at hb; cases hb
  · intro e; rw [← e, c19] at hb; cases hb
/-- the one who rides in thought, made as a rider is -/
theorem WR_mind (h : WR I V A a b t W th day r) {a1 : Nat} (h1 : cSh[a1]? = some sRider) (hb1 : a1 ≠ b) {I' : Nat → Nat → Int32} (hI : ∀ b' g, b' ≠ a1 → I' b' g = I b' g) (hr' : ∀ f, f < 6 → I' a1 f = I a f) : WR I' V A a1 b t W th day r := by
  obtain ⟨⟨ha, hb, hx⟩, hv, ht, hr, hd, hth, hrk, h6⟩ := h
  exact ⟨⟨h1, hb, hx.1, hx.2.1, hx.2.2.1, hx.2.2.2.1, hx.2.2.2.2.1, hx.2.2.2.2.2.1, hb1⟩, hv, ht, fun f hf => by rw [hr' f hf]; exact hr f hf, by rw [hI b 1 (fun z => hb1 z.symm)]; exact hd, hth, hrk, h6⟩
set_option maxHeartbeats 1000000 in
theorem S75_loop (hb20 : 20 ≠ b) (d : Nat) (P : MP) (l1 : Option Value) : ∀ (n k : Nat) (r : Nat → Nat) (I : Nat → Nat → Int32) (A : Nat → Nat → Int32), k + n = 240 → WR I V A 20 b t W th day r →
    (∀ I' A', (∀ b' g, b' ≠ 20 → I' b' g = I b' g) → (∀ b', b' ≠ t + 2 → A' b' = A b') → P (some (.int (nI (k + (trN W th day n r).length)))) (mkH cSh I' V L A')) →
    mFr (d + 4) 75 10 [some (.ref 0), l1, some (.ref b), some (.int (nI k))] [] (mkH cSh I V L A) P := by
  intro n
  induction n with
  | zero =>
    intro k r I A hk hW hP
    have hk' : ¬ k < 240 := by omega
    simp (disch := first | assumption | exact mnl_i | exact mnl_r | exact mnl_n | exact mnl_0 | omega) only [↓reduceIte, E75_10, E75_42, q_lt, hk']
    exact hP I A (fun _ _ _ => rfl) (fun _ _ => rfl)
  | succ n ih =>
    intro k r I A hk hW hP
    have hk' : k < 240 := by omega
    have h20 := c20
    have hr3 := hW.2.2.2.1 3 (by omega)
    have h3 := hW.2.2.2.2.2.2.1.2.2.2.1
    by_cases c : r 3 < 23
    · simp only [trN, if_pos c, List.length_cons] at hP
      simp (disch := first | assumption | exact mnl_i | exact mnl_r | exact mnl_n | exact mnl_0 | omega) only [↓reduceIte, tolS, E75_10, E75_17, E75_27, cShG, S10 h20, hr3, q_lt, hk', c]
      refine S11 hW d _ (fun I' f' hI' hr' => ?_)
      simp (disch := first | assumption | exact mnl_i | exact mnl_r | exact mnl_n | exact mnl_0 | omega) only [↓reduceIte, tolS, E75_27, q_add]
      refine ih (k + 1) _ I' _ (by omega) (WR_I (WR_A hW f') hI' hr' (goN_ok hW.2.2.2.2.2.2.1)) (fun I2 A2 q1 q2 => ?_)
      have := hP I2 A2 (fun b' g hb' => by rw [q1 b' g hb', hI' b' g hb']) (fun b' hb' => by rw [q2 b' hb', upA_n hb'])
      rw [show k + ((trN W th day n (goN W th day r).1).length + 1) = k + 1 + (trN W th day n (goN W th day r).1).length by omega] at this
      exact this
    · simp only [trN, if_neg c, List.length_nil] at hP
      simp (disch := first | assumption | exact mnl_i | exact mnl_r | exact mnl_n | exact mnl_0 | omega) only [↓reduceIte, tolS, E75_10, E75_17, E75_42, cShG, S10 h20, hr3, q_lt, hk', c, show ¬ (1 : Int32) = 0 by decide]
      exact hP I A (fun _ _ _ => rfl) (fun _ _ => rfl)
def takesN (W : Nat → List Int32) (th : Nat → Nat) (day : Nat) (r : Nat → Nat) : Nat := (trN W th day 240 r).length
theorem S75 (h : WR I V A a b t W th day r) (hne : a ≠ 20) (d : Nat) (P : MP) (hP : ∀ I' A', (∀ b' g, b' ≠ 20 → I' b' g = I b' g) → (∀ b', b' ≠ t + 2 → A' b' = A b') → P (some (.int (nI (takesN W th day r)))) (mkH cSh I' V L A')) : mRun (d + 5) 75 [.ref 0, .ref a, .ref b] (mkH cSh I V L A) P := by
  have h20 := c20
  have ha := h.1.1
  simp (disch := first | assumption | exact mnl_i | exact mnl_r | exact mnl_n | exact mnl_0 | omega) only [↓reduceIte, tolS, E75_0, B75, cShG]
  refine S9 c20 ha hne _ _ (fun I' hI hr => ?_)
  simp (disch := first | assumption | exact mnl_i | exact mnl_r | exact mnl_n | exact mnl_0 | omega) only [↓reduceIte, tolN, E75_0]
  refine S75_loop (WR_b h).1 d P _ 240 0 r I' A (by omega) (WR_mind h c20 (WR_b h).1 hI hr) (fun I2 A2 q1 q2 => ?_)
  have := hP I2 A2 (fun b' g hb' => by rw [q1 b' g hb', hI b' g hb']) q2
  rw [Nat.zero_add]
  exact this
theorem goN_did : (goN W th day r).2 ≤ 4 := by
  unfold goN
  dsimp only
  repeat' split
  all_goals simp
def walksN (l : List (Nat × Nat)) : Bool := l.any (fun q => q.1 == 1)
set_option maxHeartbeats 1000000 in
theorem S77_loop (hb20 : 20 ≠ 59) (d : Nat) (P : MP) (a0 : Nat) : ∀ (n k : Nat) (r : Nat → Nat) (I : Nat → Nat → Int32) (A : Nat → Nat → Int32), k + n = 240 → WR I V A 20 59 t W th day r →
    (∀ I' A', (∀ b' g, b' ≠ 20 → I' b' g = I b' g) → (∀ b', b' ≠ t + 2 → A' b' = A b') → P (some (.int (if walksN (trN W th day n r) = true then 1 else 0))) (mkH cSh I' V L A')) →
    mFr (d + 4) 77 10 [some (.ref 0), some (.ref a0), some (.int (nI k))] [] (mkH cSh I V L A) P := by
  intro n
  induction n with
  | zero =>
    intro k r I A hk hW hP
    have hk' : ¬ k < 240 := by omega
    simp (disch := first | assumption | exact mnl_i | exact mnl_r | exact mnl_n | exact mnl_0 | omega) only [↓reduceIte, E77_10, E77_50, q_lt, hk']
    exact hP I A (fun _ _ _ => rfl) (fun _ _ => rfl)
  | succ n ih =>
    intro k r I A hk hW hP
    have hk' : k < 240 := by omega
    have h20 := c20
    have hr3 := hW.2.2.2.1 3 (by omega)
    have h3 := hW.2.2.2.2.2.2.1.2.2.2.1
    by_cases c : r 3 < 23
    · simp only [trN, if_pos c, walksN, List.any_cons] at hP
      simp (disch := first | assumption | exact mnl_i | exact mnl_r | exact mnl_n | exact mnl_0 | omega) only [↓reduceIte, tolS, E77_10, E77_17, E77_27, cShG, S10 h20, hr3, q_lt, hk', c]
      refine S11 hW d _ (fun I' f' hI' hr' => ?_)
      have hw : (goN W th day r).2 < 2 ^ 31 := Nat.lt_of_le_of_lt goN_did (by decide)
      by_cases c1 : (goN W th day r).2 = 1
      · simp only [c1, beq_self_eq_true, Bool.true_or, if_true] at hP
        simp (disch := first | assumption | exact mnl_i | exact mnl_r | exact mnl_n | exact mnl_0 | omega) only [↓reduceIte, tolS, E77_27, E77_42, q_eq, c1]
        exact hP I' _ hI' (fun b' hb' => upA_n hb')
      · have c2 : ((goN W th day r).2 == 1) = false := by simpa using c1
        simp only [c2, Bool.false_or] at hP
        simp (disch := first | assumption | exact mnl_i | exact mnl_r | exact mnl_n | exact mnl_0 | omega) only [↓reduceIte, tolS, E77_27, E77_44, q_eq, c1, q_add]
        refine ih (k + 1) _ I' _ (by omega) (WR_I (WR_A hW f') hI' hr' (goN_ok hW.2.2.2.2.2.2.1)) (fun I2 A2 q1 q2 => ?_)
        exact hP I2 A2 (fun b' g hb' => by rw [q1 b' g hb', hI' b' g hb']) (fun b' hb' => by rw [q2 b' hb', upA_n hb'])
    · simp only [trN, if_neg c, walksN, List.any_nil] at hP
      simp (disch := first | assumption | exact mnl_i | exact mnl_r | exact mnl_n | exact mnl_0 | omega) only [↓reduceIte, tolS, E77_10, E77_17, E77_50, cShG, S10 h20, hr3, q_lt, hk', c, show ¬ (1 : Int32) = 0 by decide]
      exact hP I A (fun _ _ _ => rfl) (fun _ _ => rfl)
theorem S77 (h : WR I V A a 59 t W th day r) (hne : a ≠ 20) (d : Nat) (P : MP) (hP : ∀ I' A', (∀ b' g, b' ≠ 20 → I' b' g = I b' g) → (∀ b', b' ≠ t + 2 → A' b' = A b') → P (some (.int (if walksN (trN W th day 240 r) = true then 1 else 0))) (mkH cSh I' V L A')) : mRun (d + 5) 77 [.ref 0, .ref a] (mkH cSh I V L A) P := by
  have h20 := c20
  have ha := h.1.1
  simp (disch := first | assumption | exact mnl_i | exact mnl_r | exact mnl_n | exact mnl_0 | omega) only [↓reduceIte, tolS, E77_0, B77, cShG]
  refine S9 c20 ha hne _ _ (fun I' hI hr => ?_)
  simp (disch := first | assumption | exact mnl_i | exact mnl_r | exact mnl_n | exact mnl_0 | omega) only [↓reduceIte, tolN, E77_0]
  refine S77_loop (by decide) d P _ 240 0 r I' A (by omega) (WR_mind h c20 (by decide) hI hr) (fun I2 A2 q1 q2 => ?_)
  exact hP I2 A2 (fun b' g hb' => by rw [q1 b' g hb', hI b' g hb']) q2
end C6
