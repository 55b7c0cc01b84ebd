/-! all: the worst place -/
def FN (G : Nat → Nat → Bool) (k : Nat) (p : Nat) : Nat := sumN (fun i => if G i p = true then 1 else 0) k
def mxN (F : Nat → Nat) : Nat → Nat × Int32
  | 0 => (0, -1)
  | k + 1 => if (mxN F k).1 < F k then (F k, nI k) else mxN F k
theorem mxN_ok {F : Nat → Nat} : ∀ k, mxN F k = (0, -1) ∨ ∃ i, i < k ∧ mxN F k = (F i, nI i) := by
  intro k
  induction k with
  | zero => exact Or.inl rfl
  | succ k ih =>
    simp only [mxN]
    split
    · exact Or.inr ⟨k, by omega, rfl⟩
    · rcases ih with h | ⟨i, hi, h⟩
      · exact Or.inl h
      · exact Or.inr ⟨i, by omega, h⟩
theorem FN_le {G : Nat → Nat → Bool} : ∀ k p, FN G k p ≤ k := by
  intro k p
  induction k with
  | zero => exact Nat.le_refl _
  | succ k ih =>
    unfold FN at ih ⊢
    simp only [sumN]
    split <;> omega
theorem FN_s {G : Nat → Nat → Bool} (k p : Nat) : FN G (k + 1) p = FN G k p + (if G k p = true then 1 else 0) := rfl
theorem mxN_le {G : Nat → Nat → Bool} {m : Nat} (k : Nat) : (mxN (FN G m) k).1 ≤ m := by
  rcases mxN_ok (F := FN G m) k with h | ⟨i, _, h⟩
  · rw [h]; exact Nat.zero_le _
  · rw [h]; exact FN_le m i
section L3a
variable {W : Nat → List Int32} {th : Nat → Nat} {day : Nat}
theorem fl_low {p : Nat} : ∀ (n : Nat) (r : Nat → Nat) (F : Nat → Nat), rOk r → p ≤ r 3 → flN W th day n r F p = F p := by
  intro n
  induction n with
  | zero => intro r F hr h; rfl
  | succ n ih =>
    intro r F hr h
    by_cases c : r 3 < 23
    · have hg := goN_at (W := W) (th := th) (day := day) c
      have hr' := goN_ok (W := W) (th := th) (day := day) hr
      simp only [flN, if_pos c]
      rw [ih _ _ hr' (by omega)]
      by_cases c4 : (goN W th day r).2 = 4
      · rw [if_pos c4, if_neg (show ¬ p = (goN W th day r).1 3 by omega)]
      · rw [if_neg c4]
    · simp only [flN, if_neg c]
theorem fl_cf {p : Nat} (hp : p < 24) : ∀ (n : Nat) (r : Nat → Nat) (F : Nat → Nat) (did : Nat), rOk r → r 3 < p → (23 - r 3) + r 2 ≤ n → flN W th day n r F p = F p + if cfN W th day p n r did = 4 then 1 else 0 := by
  intro n
  induction n with
  | zero => intro r F did hr h hn; omega
  | succ n ih =>
    intro r F did hr h hn
    have c : r 3 < 23 := by omega
    have hg := goN_at (W := W) (th := th) (day := day) c
    have hr' := goN_ok (W := W) (th := th) (day := day) hr
    have hmu := goN_mu (W := W) (th := th) (day := day) c
    simp only [flN, if_pos c, cfN, if_pos h]
    by_cases c2 : (goN W th day r).1 3 < p
    · rw [ih _ _ (goN W th day r).2 hr' c2 (by omega)]
      by_cases c4 : (goN W th day r).2 = 4
      · rw [if_pos c4, if_neg (show ¬ p = (goN W th day r).1 3 by omega)]
      · rw [if_neg c4]
    · have he : (goN W th day r).1 3 = p := by omega
      rw [fl_low n _ _ hr' (by omega)]
      have hcf : cfN W th day p n (goN W th day r).1 (goN W th day r).2 = (goN W th day r).2 := by
        cases n with
        | zero => rfl
        | succ n => simp only [cfN, if_neg c2]
      rw [hcf]
      by_cases c4 : (goN W th day r).2 = 4
      · rw [if_pos c4, if_pos c4, if_pos he.symm]
      · rw [if_neg c4, if_neg c4, Nat.add_zero]
theorem fl_fla {p : Nat} (hp : p < 24) {r : Nat → Nat} (hr : rOk r) (F : Nat → Nat) : flN W th day 240 r F p = F p + if fla W th day r p = true then 1 else 0 := by
  by_cases h : r 3 < p
  · have k := hr.2.2
    rw [fl_cf hp 240 r F 0 hr h (by omega)]
    simp only [fla_cf hp hr h]
  · rw [fl_low 240 r F hr (by omega), fla_low hp hr (by omega)]
    rfl
end L3a
section L3
variable {I I' A A' I1 A1 : TI} {V V' V1 : TV} {L L' : Nat → Int64} {nt many day rl : Nat} {R : Nat → Nat → Nat} {th th' : Nat → Nat} {W : Nat → Nat → List Int32} {e : TE}
theorem S87 (hF : FB nt many R th day rl e) (hc : CB I V A nt W many R th day rl e) (s : cS I V A I1 V1 A1) {j : Nat} (hj : j < many) {F : Nat → Nat} (hA : ∀ p, p < 24 → A1 21 p = nI (F p)) (hFb : ∀ p, F p ≤ 1000) (d : Nat) (P : MP) (hP : ∀ I2 A2, cS I V A I2 V1 A2 → (∀ p, p < 24 → A2 21 p = nI (F p + if fla (W rl) th day (R j) p = true then 1 else 0)) → P none (mkH cSh I2 V1 L A2)) : mRun (d + 5) 87 [.ref 0, .ref (6 + 1 * j)] (mkH cSh I1 V1 L A1) P := by
  have hrl := hrl_of hF
  have h5 := hF.1.1
  have hj5 : j < 5 := by omega
  have hrid := c6j hj5
  have hok := hF.1.2.1 j hj
  have hW := WR_thought hF hc s hrid (seat_S hF hc s hj) hok
  simp (disch := first | assumption | exact mnl_i | exact mnl_r | exact mnl_n | exact mnl_0 | omega) only [↓reduceIte, tolS, E87_0.1, E87_0.2.1, E87_0.2.2.1, E87_0.2.2.2.1, E87_0.2.2.2.2.1, B87, cShG]
  refine S9 c20 hrid (by omega) _ _ (fun I' hI hr => ?_)
  simp (disch := first | assumption | exact mnl_i | exact mnl_r | exact mnl_n | exact mnl_0 | omega) only [↓reduceIte, tolN, tolS, E87_0.2.2.2.2.2.1, E87_0.2.2.2.2.2.2]
  refine S87_loop (by omega) d P _ 240 0 (R j) F I' A1 (by omega) hA (fun p => by have := hFb p; omega) (WR_mind hW c20 (WR_b hW).1 hI hr) (fun I2 A2 q1 q2 q3 => ?_)
  refine hP I2 A2 (cS_trans s ⟨fun b g hb => ?_, fun _ _ _ => rfl, fun b hb => ?_⟩) (fun p hp => by rw [q3 p hp, fl_fla hp hok])
  · have hb' : b ≠ 20 := by unfold scI at hb; omega
    rw [q1 b g hb', hI b g hb']
  · exact q2 b (by unfold scA at hb; omega) (by unfold scA at hb; omega)
end L3
