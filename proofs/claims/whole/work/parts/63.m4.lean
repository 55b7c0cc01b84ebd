/-! the reference: a step -/
theorem bQn {o : Nat} (h : o < 2 ^ 31) : (if nI o < 0 then (0 : Int32) else if 99 < o then (99 : Int32) else nI o) = nI (min 99 o) := by
  rw [if_neg (nI_pos h)]
  by_cases z : 99 < o
  · rw [if_pos z, Nat.min_eq_left (by omega)]; rfl
  · rw [if_neg z, Nat.min_eq_right (by omega)]
section M4
variable {I : Nat → Nat → Int32} {V : Nat → Nat → Nat} {L : Nat → Int64} {A : Nat → Nat → Int32} {q rl : Nat} {W : Nat → List Int32} {th : Nat → Nat} {day : Nat} {r : Nat → Nat}
/-- what a step leaves of the reference's counts: flat (34), walked (35), flatAt (36) -/
def mct (I I' : Nat → Nat → Int32) (g : (Nat → Nat) × Nat) : Prop := (∀ f, f ≠ 34 → f ≠ 35 → f ≠ 36 → I' 0 f = I 0 f) ∧ I' 0 34 = (if g.2 = 4 then I 0 34 + 1 else I 0 34) ∧ I' 0 35 = (if g.2 = 1 then I 0 35 + 1 else I 0 35) ∧ I' 0 36 = (if g.2 = 4 then I 0 36 ||| ((1 : Int32) <<< (nI (g.1 3) &&& 31)) else I 0 36)
/-- a rider's rows but the place q -/
def mrw (A A' : Nat → Nat → Int32) (q : Nat) : Prop := (∀ b, b ≠ 4 → b ≠ 5 → b ≠ 6 → b ≠ 7 → b ≠ 13 → b ≠ 14 → A' b = A b) ∧ ∀ b j, j ≠ q → b ≠ 13 → b ≠ 14 → A' b j = A b j
theorem mrw_refl {q : Nat} : mrw A A q := ⟨fun _ _ _ _ _ _ _ => rfl, fun _ _ _ _ _ => rfl⟩
theorem mrw_A {A A' : Nat → Nat → Int32} {q : Nat} (h : ∀ b, b ≠ 13 → b ≠ 14 → A' b = A b) : mrw A A' q := ⟨fun b _ _ _ _ h5 h6 => h b h5 h6, fun b j _ h5 h6 => by rw [h b h5 h6]⟩
theorem mrw_up {A A' : Nat → Nat → Int32} {q b : Nat} {v : Int32} (hb : b = 4 ∨ b = 5 ∨ b = 6 ∨ b = 7) (h : mrw A A' q) : mrw A (upA A' b (upd (A' b) q v)) q := by
  refine ⟨fun c h1 h2 h3 h4 h5 h6 => by rw [upA_n (by omega)]; exact h.1 c h1 h2 h3 h4 h5 h6, fun c j hj h5 h6 => ?_⟩
  by_cases e : c = b
  · subst e; rw [upA_s, upd_n hj]; exact h.2 c j hj h5 h6
  · rw [upA_n e]; exact h.2 c j hj h5 h6
theorem WM_up (h : WM I A q rl W th day r) {I' A' : Nat → Nat → Int32} {r' : Nat → Nat} (hI : I' 0 9 = I 0 9 ∧ I' 0 0 = I 0 0) (hA : mrw A A' q) (hr : A' 4 q = nI (r' 2) ∧ A' 5 q = nI (r' 3) ∧ A' 6 q = nI (r' 4) ∧ A' 7 q = nI (r' 5)) (h0 : r' 0 = r 0) (h1 : r' 1 = r 1) (ok : rOk r') : WM I' A' q rl W th day r' := by
  obtain ⟨hq, hrl, hr6, htx, ⟨r0, r1, r2, r3, r4, r5⟩, hd, hth, hrk, h9⟩ := h
  have e : ∀ b, b ≠ 4 → b ≠ 5 → b ≠ 6 → b ≠ 7 → b ≠ 13 → b ≠ 14 → A' b = A b := hA.1
  refine ⟨hq, by rw [hI.1]; exact hrl, hr6, ?_, ⟨by rw [e 2 (by omega) (by omega) (by omega) (by omega) (by omega) (by omega), h0]; exact r0, by rw [e 3 (by omega) (by omega) (by omega) (by omega) (by omega) (by omega), h1]; exact r1, hr⟩, by rw [hI.2]; exact hd, by rw [e 1 (by omega) (by omega) (by omega) (by omega) (by omega) (by omega)]; exact hth, ok, h9⟩
  unfold mtx
  rw [e 9 (by omega) (by omega) (by omega) (by omega) (by omega) (by omega), e 10 (by omega) (by omega) (by omega) (by omega) (by omega) (by omega), e 11 (by omega) (by omega) (by omega) (by omega) (by omega) (by omega)]
  exact htx
set_option maxHeartbeats 2000000 in
theorem M150 (h : WM I A q rl W th day r) (d : Nat) (P : MP) (hP : ∀ I' A', mct I I' (goN W th day r) → mrw A A' q → WM I' A' q rl W th day (goN W th day r).1 → P none (mkH dSh I' V L A')) : mRun (d + 5) 150 [.ref 0, .int (nI q)] (mkH dSh I V L A) P := by
  have hok := goN_ok (W := W) (th := th) (day := day) h.2.2.2.2.2.2.2.1
  obtain ⟨hq, hrl, hr6, htx, ⟨r0, r1, r2, r3, r4, r5⟩, hd, hth, hrk, hday, hthk⟩ := id h
  obtain ⟨k0, k1, k2, k3, k4, k5⟩ := id hrk
  by_cases c3 : r 3 < 23
  · have c3' : ¬ r 3 = 23 := by omega
    by_cases c4 : r 4 = 0
    · by_cases c2 : r 2 = 0
      · simp only [goN, if_pos c3, if_pos c4, if_pos c2] at hP hok
        simp (disch := first | assumption | exact mnl_i | exact mnl_r | exact mnl_n | exact mnl_0 | omega) only [↓reduceIte, tolN, E150_0, E150_12, E150_21, E150_30, B150, dShG, dShP, dShR, pix_nI, r2, r3, r4, q_eq, c3', c4, c2, q_add]
        refine hP _ _ ⟨fun f h1 h2 h3 => up2_f h2, rfl, by rw [up2_s]; rfl, rfl⟩ (mrw_up (by omega) mrw_refl) (WM_up h ⟨rfl, rfl⟩ (mrw_up (by omega) mrw_refl) ⟨?_, ?_, ?_, ?_⟩ rfl rfl hok)
        · rw [upA_n (by decide)]; exact r2
        · rw [upA_s, upd_s]; rfl
        · rw [upA_n (by decide)]; exact r4
        · rw [upA_n (by decide)]; exact r5
      · simp only [goN, if_pos c3, if_pos c4, if_neg c2] at hP hok
        simp (disch := first | assumption | exact mnl_i | exact mnl_r | exact mnl_n | exact mnl_0 | omega) only [↓reduceIte, tolN, E150_0, E150_12, E150_21, E150_51, E150_60, B150, dShG, dShP, dShR, pix_nI, r2, r3, r4, q_eq, c3', c4, c2]
        refine M148 h d _ (fun A' hA => ?_)
        have e4 : A' 4 = A 4 := hA 4 (by omega) (by omega)
        have e5 : A' 5 = A 5 := hA 5 (by omega) (by omega)
        have e7 : A' 7 = A 7 := hA 7 (by omega) (by omega)
        have e6 : (4 : Nat) ≠ 6 := by decide
        simp (disch := first | assumption | exact mnl_i | exact mnl_r | exact mnl_n | exact mnl_0 | omega) only [↓reduceIte, tolS, E150_60, dShG, dShP, dShR, pix_nI, upA_n, e4, r2, q_sub]
        have hm : mrw A (upA (upA A' 6 (upd (A' 6) q (nI (holdsN (r 0) (valN W 1 th day r))))) 4 (upd (A 4) q (nI (r 2 - 1)))) q := by
          have := mrw_up (b := 4) (v := nI (r 2 - 1)) (by omega) (mrw_up (b := 6) (v := nI (holdsN (r 0) (valN W 1 th day r))) (by omega) (mrw_A (q := q) hA))
          rw [upA_n (show 4 ≠ 6 by decide), e4] at this
          exact this
        refine hP _ _ ⟨fun f h1 h2 h3 => rfl, rfl, rfl, rfl⟩ hm (WM_up h ⟨rfl, rfl⟩ hm ⟨?_, ?_, ?_, ?_⟩ rfl rfl hok)
        · rw [upA_s, upd_s]; rfl
        · rw [upA_n (by decide), upA_n (by decide), e5]; exact r3
        · rw [upA_n (by decide), upA_s, upd_s]; rfl
        · rw [upA_n (by decide), upA_n (by decide), e7]; exact r5
    · simp only [goN, if_pos c3, if_neg c4] at hP hok
      simp (disch := first | assumption | exact mnl_i | exact mnl_r | exact mnl_n | exact mnl_0 | omega) only [↓reduceIte, tolN, E150_0, E150_12, E150_51, E150_82, B150, dShG, dShP, dShR, pix_nI, r3, r4, q_eq, c3', c4, q_add]
      refine M149 h (pl := r 3 + 1) (by omega) d _ (fun A1 hA1 => ?_)
      simp (disch := first | assumption | exact mnl_i | exact mnl_r | exact mnl_n | exact mnl_0 | omega) only [↓reduceIte, tolS, E150_82, dShG]
      refine M147 (WM_A h hA1) (pl := r 3 + 1) (by omega) d _ (fun A2 hA2 => ?_)
      have hA : ∀ b, b ≠ 13 → b ≠ 14 → A2 b = A b := fun b h1 h2 => by rw [hA2 b h1 h2, hA1 b h1 h2]
      have e4 : A2 4 = A 4 := hA 4 (by omega) (by omega)
      have e5 : A2 5 = A 5 := hA 5 (by omega) (by omega)
      have e6 : A2 6 = A 6 := hA 6 (by omega) (by omega)
      have e7 : A2 7 = A 7 := hA 7 (by omega) (by omega)
      have hin : pumpsN (r 0) (r 1) day (valN W 2 th day (uN r 3 (r 3 + 1))) ≤ 99 := pumpsN_le valN_le k1
      have hou : letsN (r 0) (r 1) (r 3 + 1) (th (r 3 + 1)) (valN W 0 th day (uN r 3 (r 3 + 1))) ≤ 99 := letsN_le valN_le
      generalize pumpsN (r 0) (r 1) day (valN W 2 th day (uN r 3 (r 3 + 1))) = x at hP hin hok ⊢
      generalize letsN (r 0) (r 1) (r 3 + 1) (th (r 3 + 1)) (valN W 0 th day (uN r 3 (r 3 + 1))) = y at hP hou hok ⊢
      have hF : min 99 (r 4 + x) ≤ 99 := by omega
      have n0 : ¬ (0 : Int32) < 0 := by decide
      have hm0 : mrw A A2 q := mrw_A hA
      have hm1 : mrw A (upA A2 5 (upd (A 5) q (nI (r 3 + 1)))) q := by have := mrw_up (b := 5) (v := nI (r 3 + 1)) (by omega) hm0; rw [e5] at this; exact this
      have hm2 : ∀ v, mrw A (upA (upA A2 5 (upd (A 5) q (nI (r 3 + 1)))) 6 (upd (A 6) q v)) q := fun v => by
        have := mrw_up (b := 6) (v := v) (by omega) hm1; rw [upA_n (show 6 ≠ 5 by decide), e6] at this; exact this
      have hm3 : ∀ v w, mrw A (upA (upA (upA A2 5 (upd (A 5) q (nI (r 3 + 1)))) 6 (upd (A 6) q v)) 7 (upd (A 7) q w)) q := fun v w => by
        have := mrw_up (b := 7) (v := w) (by omega) (hm2 v); rw [upA_n (show 7 ≠ 6 by decide), upA_n (show 7 ≠ 5 by decide), e7] at this; exact this
      have g4 : ∀ v, (upA (upA A2 5 (upd (A 5) q (nI (r 3 + 1)))) 6 (upd (A 6) q v)) 4 q = nI (r 2) := fun v => by rw [upA_n (by decide), upA_n (by decide), e4]; exact r2
      have g5 : ∀ v, (upA (upA A2 5 (upd (A 5) q (nI (r 3 + 1)))) 6 (upd (A 6) q v)) 5 q = nI (r 3 + 1) := fun v => by rw [upA_n (by decide), upA_s, upd_s]
      have g7 : ∀ v, (upA (upA A2 5 (upd (A 5) q (nI (r 3 + 1)))) 6 (upd (A 6) q v)) 7 q = nI (r 5) := fun v => by rw [upA_n (by decide), upA_n (by decide), e7]; exact r5
      by_cases z : 0 < min 99 (r 4 + x) - y
      · rw [if_pos z] at hP hok
        have z1 : ¬ min 99 (r 4 + x) < y := by omega
        have z2 : y ≤ min 99 (r 4 + x) := by omega
        simp (disch := first | assumption | exact mnl_i | exact mnl_r | exact mnl_n | exact mnl_0 | omega) only [↓reduceIte, tolS, E150_82, E150_143, E150_148, E150_158, dShG, dShP, dShR, pix_nI, upA_n, upA_s, upd_s, e5, e6, r4, q_aa, M115, bQn, q_ll, z1, q_ss, q_gt, z]
        refine hP _ _ ⟨fun f h1 h2 h3 => rfl, rfl, rfl, rfl⟩ (hm2 _) (WM_up h ⟨rfl, rfl⟩ (hm2 _) ⟨g4 _, g5 _, ?_, g7 _⟩ rfl rfl hok)
        rw [upA_s, upd_s]; rfl
      · rw [if_neg z] at hP hok
        have n1 : (0 : Int32) < 999 := by decide
        have hr3' : uN (uN (uN r 3 (r 3 + 1)) 4 0) 5 (min 999 (r 5 + 1)) 3 = r 3 + 1 := rfl
        have key : ∀ (v : Int32), v = 0 → (mFr (d + 4) 150 148 [some (.ref 0), some (.int (nI q)), some (.int (nI (r 3 + 1))), some (.int (nI x)), some (.int (nI y)), some (.int (nI (min 99 (r 4 + x))))] [.int v, .int (nI q), .ref 6] (mkH dSh I V L (upA A2 5 (upd (A 5) q (nI (r 3 + 1))))) P) := by
          intro v hv
          by_cases z5 : r 5 < 999
          · simp (disch := first | assumption | exact mnl_i | exact mnl_r | exact mnl_n | exact mnl_0 | omega) only [↓reduceIte, E150_148, E150_159, E150_193, E150_203, dShG, dShP, dShR, pix_nI, upA_n, upA_s, upd_s, e6, e7, r5, hv, n0, q_lt, z5, q_add, up2_f, up2_s]
            refine hP _ _ ⟨fun f h1 h2 h3 => by rw [up2_f h3, up2_f h1], by rw [up2_f (by decide), up2_s]; rfl, rfl, by rw [up2_s]; rfl⟩ (hm3 _ _) (WM_up h ⟨rfl, rfl⟩ (hm3 _ _) ⟨?_, ?_, ?_, ?_⟩ rfl rfl hok)
            · rw [upA_n (by decide)]; exact g4 _
            · rw [upA_n (by decide)]; exact g5 _
            · rw [upA_n (by decide), upA_s, upd_s]; rfl
            · rw [upA_s, upd_s]
              show nI (r 5 + 1) = nI (min 999 (r 5 + 1))
              rw [Nat.min_eq_right (by omega)]
          · simp (disch := first | assumption | exact mnl_i | exact mnl_r | exact mnl_n | exact mnl_0 | omega) only [↓reduceIte, E150_148, E150_159, E150_193, E150_203, dShG, dShP, dShR, pix_nI, upA_n, upA_s, upd_s, e6, e7, r5, hv, n0, q_lt, z5, q_add, up2_f, up2_s]
            refine hP _ _ ⟨fun f h1 h2 h3 => by rw [up2_f h3, up2_f h1], by rw [up2_f (by decide), up2_s]; rfl, rfl, by rw [up2_s]; rfl⟩ (hm2 _) (WM_up h ⟨rfl, rfl⟩ (hm2 _) ⟨g4 _, g5 _, ?_, ?_⟩ rfl rfl hok)
            · rw [upA_s, upd_s]; rfl
            · rw [g7]
              show nI (r 5) = nI (min 999 (r 5 + 1))
              rw [show min 999 (r 5 + 1) = r 5 by omega]
        by_cases z1 : min 99 (r 4 + x) < y
        · simp (disch := first | assumption | exact mnl_i | exact mnl_r | exact mnl_n | exact mnl_0 | omega) only [↓reduceIte, tolS, E150_82, E150_139, dShG, dShP, dShR, pix_nI, upA_n, upA_s, upd_s, e5, e6, r4, q_aa, M115, bQ0, q_ll, z1]
          exact key 0 rfl
        · have z2 : y ≤ min 99 (r 4 + x) := by omega
          simp (disch := first | assumption | exact mnl_i | exact mnl_r | exact mnl_n | exact mnl_0 | omega) only [↓reduceIte, tolS, E150_82, E150_143, dShG, dShP, dShR, pix_nI, upA_n, upA_s, upd_s, e5, e6, r4, q_aa, M115, bQ0, q_ll, z1, q_ss]
          exact key _ (by rw [show min 99 (r 4 + x) - y = 0 by omega]; rfl)
  · have c3' : r 3 = 23 := by omega
    simp only [goN, if_neg c3] at hP
    simp (disch := first | assumption | exact mnl_i | exact mnl_r | exact mnl_n | exact mnl_0 | omega) only [↓reduceIte, tolN, E150_0, E150_11, B150, dShG, dShR, pix_nI, r3, q_eq, c3']
    exact hP I A ⟨fun _ _ _ _ => rfl, rfl, rfl, rfl⟩ mrw_refl h
end M4
