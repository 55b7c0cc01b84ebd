/-! the class: a step -/
def uN (r : Nat → Nat) (f v : Nat) : Nat → Nat := fun g => if g = f then v else r g
theorem uN_s {r : Nat → Nat} {f v : Nat} : uN r f v f = v := if_pos rfl
theorem uN_n {r : Nat → Nat} {f g v : Nat} (h : g ≠ f) : uN r f v g = r g := if_neg h
/-- a step: the rider behind it; what it was: 0 none, 1 walked, 2 patched, 3 rode, 4 flat -/
def goN (W : Nat → List Int32) (th : Nat → Nat) (day : Nat) (r : Nat → Nat) : (Nat → Nat) × Nat :=
  if r 3 < 23 then (if r 4 = 0 then (if r 2 = 0 then (uN r 3 (r 3 + 1), 1) else (uN (uN r 4 (holdsN (r 0) (valN W 1 th day r))) 2 (r 2 - 1), 2)) else
    let r1 := uN r 3 (r 3 + 1)
    let air := min 99 (r 4 + pumpsN (r 0) (r 1) day (valN W 2 th day r1)) - letsN (r 0) (r 1) (r 3 + 1) (th (r 3 + 1)) (valN W 0 th day r1)
    if 0 < air then (uN r1 4 air, 3) else (uN (uN r1 4 0) 5 (min 999 (r 5 + 1)), 4)) else (r, 0)
theorem holdsN_le {k v : Nat} (h : v ≤ 99) : holdsN k v ≤ 99 := by unfold holdsN; split <;> omega
theorem pumpsN_le {k n d v : Nat} (h : v ≤ 99) (hn : n ≤ 9) : pumpsN k n d v ≤ 99 := by unfold pumpsN; split <;> first | omega | (split <;> omega)
theorem letsN_le {k n a t v : Nat} (h : v ≤ 99) : letsN k n a t v ≤ 99 := by unfold letsN; split <;> first | omega | (split <;> omega)
theorem goN_ok {W : Nat → List Int32} {th : Nat → Nat} {day : Nat} {r : Nat → Nat} (h : rOk r) : rOk (goN W th day r).1 := by
  obtain ⟨k0, k1, k2, k3, k4, k5⟩ := h
  have e1 : holdsN (r 0) (valN W 1 th day r) ≤ 99 := holdsN_le valN_le
  unfold goN
  split
  · split
    · split
      · simp only [rOk, uN]; simp; omega
      · simp only [rOk, uN]; simp; omega
    · dsimp only
      split
      · simp only [rOk, uN]; simp; omega
      · simp only [rOk, uN]; simp; omega
  · exact ⟨k0, k1, k2, k3, k4, k5⟩
section C5
variable {I : Nat → Nat → Int32} {V : Nat → Nat → Nat} {L : Nat → Int64} {A : Nat → Nat → Int32} {a b t : Nat} {W : Nat → List Int32} {th : Nat → Nat} {day : Nat} {r : Nat → Nat}
theorem WR_I (h : WR I V A a b t W th day r) {I' : Nat → Nat → Int32} {r' : Nat → Nat} (hI : ∀ b' g, b' ≠ a → I' b' g = I b' g) (hr' : ∀ f, f < 6 → I' a f = nI (r' f)) (ok : rOk r') : WR I' V A a b t W th day r' := by
  obtain ⟨hs, hv, ht, hr, hd, hth, hrk, h6⟩ := h
  exact ⟨hs, hv, ht, hr', by rw [hI b 1 (fun z => hs.2.2.2.2.2.2.2.2 z.symm)]; exact hd, hth, ok, h6⟩
theorem up2_six {I : Nat → Nat → Int32} {a f v : Nat} {r : Nat → Nat} (hr : ∀ f, f < 6 → I a f = nI (r f)) : ∀ g, g < 6 → up2 I a f (nI v) a g = nI (uN r f v g) := by
  intro g hg
  by_cases e : g = f
  · subst e; rw [up2_s, uN_s]
  · rw [up2_f e, uN_n e, hr g hg]
theorem up2_oth {I : Nat → Nat → Int32} {a f : Nat} {v : Int32} : ∀ b' g, b' ≠ a → up2 I a f v b' g = I b' g := fun _ _ h => up2_a h
set_option maxHeartbeats 1000000 in
theorem S11 (h : WR I V A a b t W th day r) (d : Nat) (P : MP) (hP : ∀ I' f', (∀ b' g, b' ≠ a → I' b' g = I b' g) → (∀ f, f < 6 → I' a f = nI ((goN W th day r).1 f)) → P (some (.int (nI (goN W th day r).2))) (mkH cSh I' V L (upA A (t + 2) f'))) : mRun (d + 4) 11 [.ref a, .ref b] (mkH cSh I V L A) P := by
  obtain ⟨⟨ha, hb, hb1, ht, h1, h2, h3, hn1, hn2⟩, hv, hte, hr, hd, hth, hrk, hday, hthk⟩ := id h
  obtain ⟨k0, k1, k2, k3, k4, k5⟩ := id hrk
  have hr2 := hr 2 (by omega)
  have hr3 := hr 3 (by omega)
  have hr4 := hr 4 (by omega)
  have hr5 := hr 5 (by omega)
  by_cases c3 : r 3 < 23
  · by_cases c4 : r 4 = 0
    · by_cases c2 : r 2 = 0
      · have hP := hP (up2 I a 3 (nI (r 3 + 1))) (A (t + 2)) up2_oth (by simp only [goN, if_pos c3, if_pos c4, if_pos c2]; exact up2_six hr)
        simp only [goN, if_pos c3, if_pos c4, if_pos c2, upA_self] at hP
        simp (disch := first | assumption | exact mnl_i | exact mnl_r | exact mnl_n | exact mnl_0 | omega) only [↓reduceIte, tolS, E11_0, E11_7, E11_9, E11_16, E11_23, E11_35, E11_42, E11_63, E11_113, E11_115, B11, kRider, S10 ha, hr3, hr4, hr2, q_lt, q_eq, c3, c4, c2, q_add]
        exact hP
      · have hP := hP
        simp only [goN, if_pos c3, if_pos c4, if_neg c2] at hP
        simp (disch := first | assumption | exact mnl_i | exact mnl_r | exact mnl_n | exact mnl_0 | omega) only [↓reduceIte, tolS, E11_0, E11_9, E11_16, E11_35, E11_42, B11, kRider, S10 ha, hr3, hr4, hr2, q_lt, q_eq, c3, c4, c2]
        refine S14 h d _ (fun f' => ?_)
        have e9 : (2 : Nat) ≠ 4 := by decide
        simp (disch := first | assumption | exact mnl_i | exact mnl_r | exact mnl_n | exact mnl_0 | omega) only [↓reduceIte, tolS, E11_42, kRider, up2_f, hr2, q_sub]
        have hsix := up2_six (v := r 2 - 1) (f := 2) (up2_six (v := holdsN (r 0) (valN W 1 th day r)) (f := 4) hr)
        exact hP _ f' (fun b' g hb' => by rw [up2_a hb', up2_a hb']) hsix
    · have hP := hP
      simp only [goN, if_pos c3, if_neg c4] at hP
      simp (disch := first | assumption | exact mnl_i | exact mnl_r | exact mnl_n | exact mnl_0 | omega) only [↓reduceIte, tolS, E11_0, E11_9, E11_16, E11_35, E11_63, B11, kRider, S10 ha, hr3, hr4, q_lt, q_eq, c3, c4, q_add]
      have hW1 : WR (up2 I a 3 (nI (r 3 + 1))) V A a b t W th day (uN r 3 (r 3 + 1)) := WR_I h up2_oth (up2_six hr) ⟨k0, k1, k2, by show r 3 + 1 ≤ 23; omega, k4, k5⟩
      refine S15 hW1 d _ (fun f1 => ?_)
      simp (disch := first | assumption | exact mnl_i | exact mnl_r | exact mnl_n | exact mnl_0 | omega) only [↓reduceIte, tolS, E11_63, kRider]
      refine S12 (WR_A hW1 f1) d _ (fun f2 => ?_)
      rw [upA_u]
      have p0 : uN r 3 (r 3 + 1) 0 = r 0 := rfl
      have p1 : uN r 3 (r 3 + 1) 1 = r 1 := rfl
      have p3 : uN r 3 (r 3 + 1) 3 = r 3 + 1 := rfl
      rw [p0, p1, p3]
      have hin : pumpsN (r 0) (r 1) day (valN W 2 th day (uN r 3 (r 3 + 1))) ≤ 99 := pumpsN_le valN_le k1
      have hou : letsN (r 0) (r 1) (r 3 + 1) (th (r 3 + 1)) (valN W 0 th day (uN r 3 (r 3 + 1))) ≤ 99 := letsN_le valN_le
      generalize pumpsN (r 0) (r 1) day (valN W 2 th day (uN r 3 (r 3 + 1))) = x at hP hin ⊢
      generalize letsN (r 0) (r 1) (r 3 + 1) (th (r 3 + 1)) (valN W 0 th day (uN r 3 (r 3 + 1))) = y at hP hou ⊢
      have e4 : (4 : Nat) ≠ 3 := by decide
      have e5 : (5 : Nat) ≠ 3 := by decide
      have e6 : (5 : Nat) ≠ 4 := by decide
      have hmin : (if (99 : Int32) < nI (r 4 + x) then (99 : Int32) else nI (r 4 + x)) = nI (min 99 (r 4 + x)) := by
        by_cases z : 99 < r 4 + x
        · rw [if_pos (show (99 : Int32) < nI (r 4 + x) from (nI_ltI (a := 99) (by omega) (by omega)).mpr z), Nat.min_eq_left (by omega)]; rfl
        · rw [if_neg (show ¬ (99 : Int32) < nI (r 4 + x) from fun z2 => z ((nI_ltI (a := 99) (by omega) (by omega)).mp z2)), Nat.min_eq_right (by omega)]
      have hmax : (if nI (min 99 (r 4 + x)) - nI y < 0 then (0 : Int32) else nI (min 99 (r 4 + x)) - nI y) = nI (min 99 (r 4 + x) - y) := by
        by_cases z : y ≤ min 99 (r 4 + x)
        · rw [q_ss z, if_neg (nI_pos (by omega))]
        · rw [if_pos (pk_sneg (by omega) (by omega)), show min 99 (r 4 + x) - y = 0 by omega]; rfl
      have hfl : (if (999 : Int32) < nI (r 5 + 1) then (999 : Int32) else nI (r 5 + 1)) = nI (min 999 (r 5 + 1)) := by
        by_cases z : 999 < r 5 + 1
        · rw [if_pos (show (999 : Int32) < nI (r 5 + 1) from (nI_ltI (a := 999) (by omega) (by omega)).mpr z), Nat.min_eq_left (by omega)]; rfl
        · rw [if_neg (show ¬ (999 : Int32) < nI (r 5 + 1) from fun z2 => z ((nI_ltI (a := 999) (by omega) (by omega)).mp z2)), Nat.min_eq_right (by omega)]
      have hu := up2_six (v := r 3 + 1) (f := 3) hr
      by_cases z : 0 < min 99 (r 4 + x) - y
      · rw [if_pos z] at hP
        have z2 : (0 : Int32) < nI (min 99 (r 4 + x) - y) := (nI_ltI (a := 0) (by omega) (by omega)).mpr z
        simp (disch := first | assumption | exact mnl_i | exact mnl_r | exact mnl_n | exact mnl_0 | omega) only [↓reduceIte, tolS, E11_63, E11_113, kRider, up2_f, up2_s, hr4, q_aa, hmin, hmax, z2]
        exact hP _ f2 (fun b' g hb' => by rw [up2_a hb', up2_a hb']) (up2_six hu)
      · rw [if_neg z] at hP
        have z2 : ¬ (0 : Int32) < nI (min 99 (r 4 + x) - y) := fun z3 => z ((nI_ltI (a := 0) (by omega) (by omega)).mp z3)
        have z4 : min 99 (r 4 + x) - y = 0 := by omega
        rw [z4] at hmax z2
        simp (disch := first | assumption | exact mnl_i | exact mnl_r | exact mnl_n | exact mnl_0 | omega) only [↓reduceIte, tolS, E11_63, E11_115, kRider, up2_f, up2_s, hr4, hr5, q_aa, hmin, hmax, z2, q_add, hfl]
        exact hP _ f2 (fun b' g hb' => by rw [up2_a hb', up2_a hb', up2_a hb']) (up2_six (up2_six hu))
  · have hP := hP I (A (t + 2)) (fun _ _ _ => rfl) (by simp only [goN, if_neg c3]; exact hr)
    simp only [goN, if_neg c3, upA_self] at hP
    simp (disch := first | assumption | exact mnl_i | exact mnl_r | exact mnl_n | exact mnl_0 | omega) only [↓reduceIte, tolS, E11_0, E11_7, E11_9, E11_16, E11_23, E11_35, E11_42, E11_63, E11_113, E11_115, B11, kRider, S10 ha, hr3, q_lt, c3, show ¬ (1 : Int32) = 0 by decide]
    exact hP
end C5
