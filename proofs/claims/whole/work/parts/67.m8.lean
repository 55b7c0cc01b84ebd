/-! the reference: fewest -/
theorem trN_len {W : Nat → List Int32} {th : Nat → Nat} {day : Nat} : ∀ (n : Nat) (r : Nat → Nat), (trN W th day n r).length ≤ n := by
  intro n
  induction n with
  | zero => intro r; exact Nat.le_refl _
  | succ n ih =>
    intro r
    simp only [trN]
    split
    · rw [List.length_cons]; have := ih (goN W th day r).1; omega
    · exact Nat.zero_le _
theorem f35_cnt : ∀ (l : List (Nat × Nat)) (c : Nat), ∃ e, e ≤ l.length ∧ f35 (nI c) l = nI (c + e) ∧ (e = 0 ↔ walksN l = false) := by
  intro l
  induction l with
  | nil => intro c; exact ⟨0, Nat.le_refl _, rfl, by simp [walksN]⟩
  | cons g l ih =>
    intro c
    by_cases h : g.1 = 1
    · obtain ⟨e, h1, h2, h3⟩ := ih (c + 1)
      refine ⟨e + 1, by rw [List.length_cons]; omega, ?_, ?_⟩
      · have : f35 (nI c) (g :: l) = f35 (nI c + 1) l := by simp [f35, h]
        rw [this, nI_1, h2, show c + 1 + e = c + (e + 1) by omega]
      · simp [walksN, h]
    · obtain ⟨e, h1, h2, h3⟩ := ih c
      refine ⟨e, by rw [List.length_cons]; omega, ?_, ?_⟩
      · have : f35 (nI c) (g :: l) = f35 (nI c) l := by simp [f35, h]
        rw [this, h2]
      · rw [h3]; simp [walksN, h]
theorem f35_0 {W : Nat → List Int32} {th : Nat → Nat} {day : Nat} {r : Nat → Nat} : (f35 0 (trN W th day 240 r) = 0) = (walksN (trN W th day 240 r) = false) := by
  obtain ⟨e, h1, h2, h3⟩ := f35_cnt (trN W th day 240 r) 0
  have h4 := trN_len (W := W) (th := th) (day := day) 240 r
  refine propext ⟨fun h => h3.mp ?_, fun h => ?_⟩
  · rw [show f35 0 (trN W th day 240 r) = f35 (nI 0) (trN W th day 240 r) from rfl, h2] at h
    have := (nI_eq (a := 0 + e) (b := 0) (by omega) (by omega)).mp h
    omega
  · rw [show f35 0 (trN W th day 240 r) = f35 (nI 0) (trN W th day 240 r) from rfl, h2, h3.mpr h]
    rfl
section M8
variable {I : Nat → Nat → Int32} {V : Nat → Nat → Nat} {L : Nat → Int64} {A : Nat → Nat → Int32} {rl j : Nat} {W : Nat → List Int32} {th : Nat → Nat} {day : Nat} {r : Nat → Nat}
set_option maxHeartbeats 1000000 in
theorem M159_loop (d : Nat) (P : MP) (had : Int32) : ∀ (n : Nat) (fd : Int32) (r' : Nat → Nat) (I : Nat → Nat → Int32) (A : Nat → Nat → Int32), n ≤ 10 → WM I A j rl W th day r' → (∀ k, k ≤ 9 → uN r' 2 k = uN r 2 k) →
    (∀ I' A', mkp I I' → (∀ b, b ≠ 4 → b ≠ 13 → b ≠ 14 → A' b = A b) → (∀ i, i ≠ j → A' 4 i = A 4 i) →
      mFr (d + 6) 159 59 [some (.ref 0), some (.int (nI j)), some (.int had), some (.int (dnW (fun k => walksN (trN W th day 240 (uN r 2 k))) n fd)), some (.int (nI 0 + (-1)))] [] (mkH dSh I' V L A') P) →
    mFr (d + 6) 159 24 [some (.ref 0), some (.int (nI j)), some (.int had), some (.int fd), some (.int (nI n + (-1)))] [] (mkH dSh I V L A) P := by
  intro n
  induction n with
  | zero =>
    intro fd r' I A hn hW hr hP
    simp (disch := first | assumption | exact mnl_i | exact mnl_r | exact mnl_n | exact mnl_0 | omega) only [↓reduceIte, E159_24, show (nI 0 + (-1) : Int32) < 0 by decide]
    exact hP I A (fun _ _ => rfl) (fun _ _ _ _ => rfl) (fun _ _ => rfl)
  | succ n ih =>
    intro fd r' I A hn hW hr hP
    have hq := hW.1
    have hv : nI (n + 1) + (-1) = nI n := pk_m1 n
    have h0 : ¬ nI n < 0 := nI_pos (by omega)
    rw [hv]
    have hm : mrw A (upA A 4 (upd (A 4) j (nI n))) j := mrw_up (by omega) mrw_refl
    have hx := hW.2.2.2.2.1
    have hW1 : WM I (upA A 4 (upd (A 4) j (nI n))) j rl W th day (uN r' 2 n) := WM_up hW ⟨rfl, rfl⟩ hm ⟨by rw [upA_s, upd_s]; rfl, by rw [upA_n (by decide)]; exact hx.2.2.2.1, by rw [upA_n (by decide)]; exact hx.2.2.2.2.1, by rw [upA_n (by decide)]; exact hx.2.2.2.2.2⟩ rfl rfl (rOk_2 hW.2.2.2.2.2.2.2.1 (by omega))
    simp (disch := first | assumption | exact mnl_i | exact mnl_r | exact mnl_n | exact mnl_0 | omega) only [↓reduceIte, E159_24, E159_29.1, E159_29.2.1, E159_29.2.2.1, E159_29.2.2.2.1, E159_29.2.2.2.2.1, E159_29.2.2.2.2.2.1, E159_29.2.2.2.2.2.2.1, E159_29.2.2.2.2.2.2.2.1, h0, dShG, dShR, pix_nI]
    refine M157 hW1 _ _ (fun I' A' q1 q2 q3 q4 q5 => ?_)
    rw [hr n (by omega)] at q3 hW1
    have hW2 : WM I' A' j rl W th day (uN r 2 n) := by
      have h9 := WM_A hW1 q5
      refine ⟨h9.1, by rw [q1 9 (by omega)]; exact h9.2.1, h9.2.2.1, h9.2.2.2.1, h9.2.2.2.2.1, by rw [q1 0 (by omega)]; exact h9.2.2.2.2.2.1, h9.2.2.2.2.2.2⟩
    have hr2 : ∀ k, k ≤ 9 → uN (uN r 2 n) 2 k = uN r 2 k := fun k hk => by funext g; unfold uN; split <;> rfl
    have fin : ∀ (I2 A2 : Nat → Nat → Int32), mkp I' I2 → (∀ b, b ≠ 4 → b ≠ 13 → b ≠ 14 → A2 b = A' b) → (∀ i, i ≠ j → A2 4 i = A' 4 i) → mkp I I2 ∧ (∀ b, b ≠ 4 → b ≠ 13 → b ≠ 14 → A2 b = A b) ∧ ∀ i, i ≠ j → A2 4 i = A 4 i :=
      fun I2 A2 g1 g2 g3 => ⟨fun f hf => by rw [g1 f hf, q1 f hf], fun b h4 h13 h14 => by rw [g2 b h4 h13 h14, q5 b h13 h14, upA_n h4], fun i hi => by rw [g3 i hi, q5 4 (by decide) (by decide), upA_s, upd_n hi]⟩
    by_cases c : walksN (trN W th day 240 (uN r 2 n)) = true
    · simp only [dnW, if_pos c] at hP
      have c0 : ¬ I' 0 35 = 0 := by rw [q3, f35_0, c]; decide
      simp (disch := first | assumption | exact mnl_i | exact mnl_r | exact mnl_n | exact mnl_0 | omega) only [↓reduceIte, tolS, E159_29.2.2.2.2.2.2.2.2.1, E159_29.2.2.2.2.2.2.2.2.2.1, E159_29.2.2.2.2.2.2.2.2.2.2.1, E159_29.2.2.2.2.2.2.2.2.2.2.2, E159_53, dShG, c0]
      exact ih fd _ I' A' (by omega) hW2 hr2 (fun I2 A2 g1 g2 g3 => by obtain ⟨a1, a2, a3⟩ := fin I2 A2 g1 g2 g3; exact hP I2 A2 a1 a2 a3)
    · simp only [dnW, if_neg c] at hP
      have c0 : I' 0 35 = 0 := by rw [q3, f35_0]; simpa using c
      simp (disch := first | assumption | exact mnl_i | exact mnl_r | exact mnl_n | exact mnl_0 | omega) only [↓reduceIte, tolS, E159_29.2.2.2.2.2.2.2.2.1, E159_29.2.2.2.2.2.2.2.2.2.1, E159_29.2.2.2.2.2.2.2.2.2.2.1, E159_29.2.2.2.2.2.2.2.2.2.2.2, E159_50, E159_53, dShG, c0]
      exact ih (nI n) _ I' A' (by omega) hW2 hr2 (fun I2 A2 g1 g2 g3 => by obtain ⟨a1, a2, a3⟩ := fin I2 A2 g1 g2 g3; exact hP I2 A2 a1 a2 a3)
theorem M159_in {many : Nat} (hm : I 0 2 = nI many) (h5 : many ≤ 5) (hj : j < many) (h : WM I A j rl W th day r) (d : Nat) (P : MP) (hP : ∀ I' A', mkp I I' → (∀ b, b ≠ 13 → b ≠ 14 → A' b = A b) → P (some (.int (fewN W th day r))) (mkH dSh I' V L A')) : mRun (d + 7) 159 [.ref 0, .int (nI j)] (mkH dSh I V L A) P := by
  have n1 : ¬ (1 : Int32) = 0 := by decide
  have hq := h.1
  simp (disch := first | assumption | exact mnl_i | exact mnl_r | exact mnl_n | exact mnl_0 | omega) only [↓reduceIte, tolS, E159_0, E159_11, B159, dShG, dShR, pix_nI, M116_in hm h5 hj, n1]
  refine M159_loop (j := j) (r := r) d P (A 4 j) 10 (-1) r I A (by omega) h (fun _ _ => rfl) (fun I' A' q1 q2 q3 => ?_)
  simp (disch := first | assumption | exact mnl_i | exact mnl_r | exact mnl_n | exact mnl_0 | omega) only [↓reduceIte, tolS, E159_59, dShG, dShR, pix_nI]
  rw [dn_up]
  refine hP I' _ q1 (fun b h13 h14 => ?_)
  by_cases c4 : b = 4
  · subst c4
    rw [upA_s]
    funext i
    by_cases e : i = j
    · subst e; rw [upd_s]
    · rw [upd_n e]; exact q3 i e
  · rw [upA_n c4]; exact q2 b c4 h13 h14
end M8
