/-! fewest: up in the class, down in the reference -/
def upW (w : Nat → Bool) : Nat → Nat → Int32 → Int32
  | 0, _, f => f
  | n + 1, k, f => if w k = true then upW w n (k + 1) f else nI k
def dnW (w : Nat → Bool) : Nat → Int32 → Int32
  | 0, f => f
  | n + 1, f => dnW w n (if w n = true then f else nI n)
theorem upW_last (w : Nat → Bool) : ∀ (n k : Nat) (f : Int32), upW w (n + 1) k f = upW w n k (if w (k + n) = true then f else nI (k + n)) := by
  intro n
  induction n with
  | zero => intro k f; simp [upW]
  | succ n ih =>
    intro k f
    have e1 : upW w (n + 1 + 1) k f = if w k = true then upW w (n + 1) (k + 1) f else nI k := rfl
    have e2 : ∀ g, upW w (n + 1) k g = if w k = true then upW w n (k + 1) g else nI k := fun _ => rfl
    rw [e1, e2]
    by_cases c : w k = true
    · rw [if_pos c, if_pos c, ih (k + 1) f, show k + 1 + n = k + (n + 1) by omega]
    · rw [if_neg c, if_neg c]
theorem dn_up (w : Nat → Bool) : ∀ (n : Nat) (f : Int32), dnW w n f = upW w n 0 f := by
  intro n
  induction n with
  | zero => intro f; rfl
  | succ n ih => intro f; rw [dnW, ih, upW_last, Nat.zero_add]
def fewN (W : Nat → List Int32) (th : Nat → Nat) (day : Nat) (r : Nat → Nat) : Int32 := upW (fun k => walksN (trN W th day 240 (uN r 2 k))) 10 0 (-1)
section C10
variable {I : Nat → Nat → Int32} {V : Nat → Nat → Nat} {L : Nat → Int64} {A : Nat → Nat → Int32} {t : Nat} {W : Nat → List Int32} {th : Nat → Nat} {day : Nat} {r : Nat → Nat}
theorem rOk_2 (h : rOk r) {k : Nat} (hk : k ≤ 9) : rOk (uN r 2 k) := by
  obtain ⟨k0, k1, k2, k3, k4, k5⟩ := h
  exact ⟨k0, k1, hk, k3, k4, k5⟩
set_option maxHeartbeats 1000000 in
theorem S76_loop (d : Nat) (P : MP) (i1 : Int32) (a0 : Nat) : ∀ (n k : Nat) (r' : Nat → Nat) (I : Nat → Nat → Int32) (A : Nat → Nat → Int32), k + n = 10 → WR I V A 19 59 t W th day r' → (∀ k', k' ≤ 9 → uN r' 2 k' = uN r 2 k') →
    (∀ I' A', (∀ b' g, b' ≠ 20 → b' ≠ 19 → I' b' g = I b' g) → (∀ b', b' ≠ t + 2 → A' b' = A b') → P (some (.int (upW (fun k => walksN (trN W th day 240 (uN r 2 k))) n k (-1)))) (mkH cSh I' V L A')) →
    mFr (d + 5) 76 26 [some (.ref 0), some (.int i1), some (.ref a0), some (.int (nI k))] [] (mkH cSh I V L A) P := by
  intro n
  induction n with
  | zero =>
    intro k r' I A hk hW hr' hP
    have h9 : 9 < k := by omega
    simp (disch := first | assumption | exact mnl_i | exact mnl_r | exact mnl_n | exact mnl_0 | omega) only [↓reduceIte, E76_26, E76_59, q_gt, h9]
    exact hP I A (fun _ _ _ _ => rfl) (fun _ _ => rfl)
  | succ n ih =>
    intro k r' I A hk hW hr' hP
    have h9 : ¬ 9 < k := by omega
    have h19 := c19
    have hW1 : WR (up2 I 19 2 (nI k)) V A 19 59 t W th day (uN r' 2 k) := WR_I hW up2_oth (up2_six hW.2.2.2.1) (rOk_2 hW.2.2.2.2.2.2.1 (by omega))
    simp (disch := first | assumption | exact mnl_i | exact mnl_r | exact mnl_n | exact mnl_0 | omega) only [↓reduceIte, E76_26, E76_32.1, E76_32.2.1, E76_32.2.2.1, E76_32.2.2.2.1, E76_32.2.2.2.2.1, E76_32.2.2.2.2.2.1, E76_32.2.2.2.2.2.2.1, E76_32.2.2.2.2.2.2.2.1, q_gt, h9, cShG, kRider]
    refine S77 hW1 (by decide) d _ (fun I' A' q1 q2 => ?_)
    rw [hr' k (by omega)] at hW1 ⊢
    simp only [upW] at hP
    by_cases c : walksN (trN W th day 240 (uN r 2 k)) = true
    · rw [if_pos c] at hP ⊢
      simp (disch := first | assumption | exact mnl_i | exact mnl_r | exact mnl_n | exact mnl_0 | omega) only [↓reduceIte, tolS, E76_32.2.2.2.2.2.2.2.2, E76_53, show ¬ (1 : Int32) = 0 by decide, q_add]
      have hA : ∀ b, b ≠ t + 2 → A' b = A b := q2
      have hW2 : WR I' V A' 19 59 t W th day (uN r 2 k) := by
        obtain ⟨g1, g2, g3, g4, g5, g6, g7⟩ := hW1
        refine ⟨g1, g2, ?_, fun f hf => by rw [q1 19 f (by decide)]; exact g4 f hf, by rw [q1 59 1 (by decide)]; exact g5, fun p hp => by rw [hA 60 g1.2.2.2.2.2.2.2.1]; exact g6 p hp, g7⟩
        unfold txt
        rw [hA (t + 3) (by omega), hA (t + 1) (by omega)]
        exact g3
      refine ih (k + 1) _ I' A' (by omega) hW2 (fun k' hk' => by funext g; unfold uN; split <;> rfl) (fun I2 A2 p1 p2 => ?_)
      exact hP I2 A2 (fun b' g h1 h2 => by rw [p1 b' g h1 h2, q1 b' g h1, up2_a h2]) (fun b' hb' => by rw [p2 b' hb', q2 b' hb'])
    · rw [if_neg c] at hP ⊢
      simp (disch := first | assumption | exact mnl_i | exact mnl_r | exact mnl_n | exact mnl_0 | omega) only [↓reduceIte, tolS, E76_32.2.2.2.2.2.2.2.2, E76_51]
      exact hP I' A' (fun b' g h1 h2 => by rw [q1 b' g h1, up2_a h2]) q2
theorem S76_in {many j : Nat} (hm : I 4 1 = nI many) (h5 : many ≤ 5) (hj : j < many) (h : WR I V A (6 + 1 * j) 59 t W th day r) (d : Nat) (P : MP) (hP : ∀ I' A', (∀ b' g, b' ≠ 20 → b' ≠ 19 → I' b' g = I b' g) → (∀ b', b' ≠ t + 2 → A' b' = A b') → P (some (.int (fewN W th day r))) (mkH cSh I' V L A')) : mRun (d + 6) 76 [.ref 0, .int (nI j)] (mkH cSh I V L A) P := by
  have hlt : 6 + 1 * j < 900 := by omega
  have ha := h.1.1
  have h19 := c19
  simp (disch := first | assumption | exact mnl_i | exact mnl_r | exact mnl_n | exact mnl_0 | omega) only [↓reduceIte, tolS, E76_0.1, E76_0.2.1, E76_0.2.2.1, E76_0.2.2.2.1, B76, cShG, S1_in hm h5 hj]
  simp (disch := first | assumption | exact mnl_i | exact mnl_r | exact mnl_n | exact mnl_0 | omega) only [↓reduceIte, tolS, E76_0.2.2.2.2.1, E76_0.2.2.2.2.2.1, E76_0.2.2.2.2.2.2.1, E76_0.2.2.2.2.2.2.2.1, E76_0.2.2.2.2.2.2.2.2.1, E76_0.2.2.2.2.2.2.2.2.2, E76_16.1, E76_16.2.1, E76_16.2.2.1, E76_16.2.2.2.1, E76_16.2.2.2.2.1, hlt, cShG]
  refine S9 c19 ha (by omega) _ _ (fun I' q1 q2 => ?_)
  simp (disch := first | assumption | exact mnl_i | exact mnl_r | exact mnl_n | exact mnl_0 | omega) only [↓reduceIte, tolN, E76_16.2.2.2.2.2.1, E76_16.2.2.2.2.2.2]
  refine S76_loop d P _ _ 10 0 r I' A (by omega) (WR_mind h c19 (by decide) q1 q2) (fun _ _ => rfl) (fun I2 A2 p1 p2 => ?_)
  exact hP I2 A2 (fun b' g h1 h2 => by rw [p1 b' g h1 h2, q1 b' g h2]) p2
theorem S76_out {many : Nat} {i : Int32} (hm : I 4 1 = nI many) (h5 : many ≤ 5) (hi : i < 0 ∨ ∃ j, many ≤ j ∧ j < 2 ^ 31 ∧ i = nI j) (d : Nat) (P : MP) (hP : P (some (.int (-2))) (mkH cSh I V L A)) : mRun (d + 6) 76 [.ref 0, .int i] (mkH cSh I V L A) P := by
  simp (disch := first | assumption | exact mnl_i | exact mnl_r | exact mnl_n | exact mnl_0 | omega) only [↓reduceIte, tolS, E76_0.1, E76_0.2.1, E76_0.2.2.1, E76_0.2.2.2.1, B76, cShG, S1_out hm h5 hi]
  simp (disch := first | assumption | exact mnl_i | exact mnl_r | exact mnl_n | exact mnl_0 | omega) only [↓reduceIte, tolS, E76_0.2.2.2.2.1, E76_0.2.2.2.2.2.1, E76_0.2.2.2.2.2.2.1, E76_0.2.2.2.2.2.2.2.1, E76_0.2.2.2.2.2.2.2.2.1, E76_0.2.2.2.2.2.2.2.2.2, E76_13]
  exact hP
end C10
