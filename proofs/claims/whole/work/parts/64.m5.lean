/-! the reference: steps till home -/
def f34 (v : Int32) (l : List (Nat × Nat)) : Int32 := l.foldl (fun v g => if g.1 = 4 then v + 1 else v) v
def f35 (v : Int32) (l : List (Nat × Nat)) : Int32 := l.foldl (fun v g => if g.1 = 1 then v + 1 else v) v
def f36 (v : Int32) (l : List (Nat × Nat)) : Int32 := l.foldl (fun v g => if g.1 = 4 then v ||| ((1 : Int32) <<< (nI g.2 &&& 31)) else v) v
theorem goN_mu {W : Nat → List Int32} {th : Nat → Nat} {day : Nat} {r : Nat → Nat} (h : r 3 < 23) : (23 - (goN W th day r).1 3) + (goN W th day r).1 2 < (23 - r 3) + r 2 := by
  unfold goN
  rw [if_pos h]
  split
  · split
    · simp only [uN]; simp; omega
    · simp only [uN]; simp; omega
  · dsimp only
    split
    · simp only [uN]; simp; omega
    · simp only [uN]; simp; omega
section M5
variable {I : Nat → Nat → Int32} {V : Nat → Nat → Nat} {L : Nat → Int64} {A : Nat → Nat → Int32} {q rl : Nat} {W : Nat → List Int32} {th : Nat → Nat} {day : Nat} {r : Nat → Nat}
set_option maxHeartbeats 1000000 in
theorem M157_loop (d : Nat) (P : MP) : ∀ (n k : Nat) (r : Nat → Nat) (I : Nat → Nat → Int32) (A : Nat → Nat → Int32), (23 - r 3) + r 2 ≤ n → WM I A q rl W th day r →
    (∀ I' A', (∀ f, f ≠ 34 → f ≠ 35 → f ≠ 36 → I' 0 f = I 0 f) → I' 0 34 = f34 (I 0 34) (trN W th day n r) → I' 0 35 = f35 (I 0 35) (trN W th day n r) → I' 0 36 = f36 (I 0 36) (trN W th day n r) → mrw A A' q →
      mFr (d + 5) 157 29 [some (.ref 0), some (.int (nI q)), some (.int (nI (k + (trN W th day n r).length)))] [] (mkH dSh I' V L A') P) →
    mFr (d + 5) 157 7 [some (.ref 0), some (.int (nI q)), some (.int (nI k))] [] (mkH dSh I V L A) P := by
  intro n
  induction n with
  | zero =>
    intro k r I A hmu hW hP
    have hq := hW.1
    have hr3 := hW.2.2.2.2.1.2.2.2.1
    have h3 := hW.2.2.2.2.2.2.2.1.2.2.2.1
    have c : r 3 = 23 := by omega
    simp (disch := first | assumption | exact mnl_i | exact mnl_r | exact mnl_n | exact mnl_0 | omega) only [↓reduceIte, E157_7, dShG, dShR, pix_nI, hr3, q_eq, c]
    exact hP I A (fun _ _ _ _ => rfl) rfl rfl rfl mrw_refl
  | succ n ih =>
    intro k r I A hmu hW hP
    have hq := hW.1
    have hr3 := hW.2.2.2.2.1.2.2.2.1
    have h3 := hW.2.2.2.2.2.2.2.1.2.2.2.1
    by_cases c : r 3 = 23
    · have c3 : ¬ r 3 < 23 := by omega
      simp only [trN, if_neg c3] at hP
      simp (disch := first | assumption | exact mnl_i | exact mnl_r | exact mnl_n | exact mnl_0 | omega) only [↓reduceIte, E157_7, dShG, dShR, pix_nI, hr3, q_eq, c]
      exact hP I A (fun _ _ _ _ => rfl) rfl rfl rfl mrw_refl
    · have c3 : r 3 < 23 := by omega
      simp only [trN, if_pos c3] at hP
      simp (disch := first | assumption | exact mnl_i | exact mnl_r | exact mnl_n | exact mnl_0 | omega) only [↓reduceIte, E157_7, E157_18.1, E157_18.2.1, E157_18.2.2.1, dShG, dShR, pix_nI, hr3, q_eq, c]
      refine M150 hW d _ (fun I' A' hc hm hW' => ?_)
      simp (disch := first | assumption | exact mnl_i | exact mnl_r | exact mnl_n | exact mnl_0 | omega) only [↓reduceIte, tolN, E157_18, q_add]
      have hmu' : (23 - (goN W th day r).1 3) + (goN W th day r).1 2 ≤ n := by
        have := goN_mu (W := W) (th := th) (day := day) c3
        omega
      generalize hg : goN W th day r = g at *
      refine ih (k + 1) g.1 I' A' hmu' hW' (fun I2 A2 q1 q2 q3 q4 q5 => ?_)
      have := hP I2 A2 (fun f h1 h2 h3 => by rw [q1 f h1 h2 h3, hc.1 f h1 h2 h3]) (by rw [q2, hc.2.1]; rfl) (by rw [q3, hc.2.2.1]; rfl) (by rw [q4, hc.2.2.2]; rfl)
        ⟨fun b h1 h2 h3 h4 h5 h6 => by rw [q5.1 b h1 h2 h3 h4 h5 h6, hm.1 b h1 h2 h3 h4 h5 h6], fun b j hj h5 h6 => by rw [q5.2 b j hj h5 h6, hm.2 b j hj h5 h6]⟩
      rw [List.length_cons, show k + ((trN W th day n g.1).length + 1) = k + 1 + (trN W th day n g.1).length by omega] at this
      exact this
/-- the fields that a ride in thought leaves as they are -/
def mkp (I I' : Nat → Nat → Int32) : Prop := ∀ f, f < 30 ∨ 36 < f → I' 0 f = I 0 f
set_option maxHeartbeats 1000000 in
theorem M157 (h : WM I A q rl W th day r) (d : Nat) (P : MP) (hP : ∀ I' A', mkp I I' → I' 0 34 = f34 0 (trN W th day 240 r) → I' 0 35 = f35 0 (trN W th day 240 r) → I' 0 36 = f36 0 (trN W th day 240 r) → (∀ b, b ≠ 13 → b ≠ 14 → A' b = A b) → P (some (.int (nI (takesN W th day r)))) (mkH dSh I' V L A')) : mRun (d + 6) 157 [.ref 0, .int (nI q)] (mkH dSh I V L A) P := by
  have hq := h.1
  have k2 := h.2.2.2.2.2.2.2.1.2.2.1
  simp (disch := first | assumption | exact mnl_i | exact mnl_r | exact mnl_n | exact mnl_0 | omega) only [↓reduceIte, tolN, E157_0, B157, E154_0, B154, dShG, dShP, dShR, pix_nI]
  refine M157_loop d P 240 0 r _ A (by omega) ⟨h.1, h.2.1, h.2.2⟩ (fun I' A' q1 q2 q3 q4 q5 => ?_)
  have w30 : I' 0 30 = A 4 q := by rw [q1 30 (by omega) (by omega) (by omega)]; simp [up2]
  have w31 : I' 0 31 = A 5 q := by rw [q1 31 (by omega) (by omega) (by omega)]; simp [up2]
  have w32 : I' 0 32 = A 6 q := by rw [q1 32 (by omega) (by omega) (by omega)]; simp [up2]
  have w33 : I' 0 33 = A 7 q := by rw [q1 33 (by omega) (by omega) (by omega)]; simp [up2]
  simp (disch := first | assumption | exact mnl_i | exact mnl_r | exact mnl_n | exact mnl_0 | omega) only [↓reduceIte, tolN, E157_29, E155_0, B155, dShG, dShP, dShR, pix_nI, upA_n, w30, w31, w32, w33]
  rw [Nat.zero_add]
  refine hP I' _ (fun f hf => ?_) q2 q3 q4 (fun b h13 h14 => ?_)
  · rw [q1 f (by omega) (by omega) (by omega)]
    have e : ∀ g, g = 30 ∨ g = 31 ∨ g = 32 ∨ g = 33 ∨ g = 34 ∨ g = 35 ∨ g = 36 → f ≠ g := fun g hg => by omega
    rw [up2_f (e 36 (by omega)), up2_f (e 35 (by omega)), up2_f (e 34 (by omega)), up2_f (e 33 (by omega)), up2_f (e 32 (by omega)), up2_f (e 31 (by omega)), up2_f (e 30 (by omega))]
  · have row : ∀ c, c ≠ 13 → c ≠ 14 → upd (A' c) q (A c q) = A c := fun c g1 g2 => by
      funext j
      by_cases e : j = q
      · subst e; rw [upd_s]
      · rw [upd_n e]; exact q5.2 c j e g1 g2
    rw [row 4 (by decide) (by decide), row 5 (by decide) (by decide), row 6 (by decide) (by decide), row 7 (by decide) (by decide)]
    by_cases c7 : b = 7
    · subst c7; rw [upA_s]
    · rw [upA_n c7]
      by_cases c6 : b = 6
      · subst c6; rw [upA_s]
      · rw [upA_n c6]
        by_cases c5 : b = 5
        · subst c5; rw [upA_s]
        · rw [upA_n c5]
          by_cases c4 : b = 4
          · subst c4; rw [upA_s]
          · rw [upA_n c4]
            exact q5.1 b c4 c5 c6 c7 h13 h14
end M5
