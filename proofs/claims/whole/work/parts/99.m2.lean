/-! spread: the steps of a deal; the reference's deal -/
def mSz (I A I1 A1 : TI) : Prop := mSx I A I1 (upA A1 4 (A 4))
def RP (R : Nat → Nat → Nat) (p : Nat → Nat) : Nat → Nat → Nat := fun j => uN (R j) 2 (p j)
theorem rm10b {x : Nat} (h : x < 2 ^ 31) : nI x - nI (10 * (x / 10)) = nI (x % 10) := by rw [← ml10]; exact rm10 h
theorem sub1 (x : Int32) : x - 1 = x + (-1) := by rw [Int32.sub_eq_add_neg]
theorem nI_dn1 {n : Nat} (h : 0 < n) : nI n + (-1) = nI (n - 1) := by
  have := pk_m1 (n - 1)
  rw [Nat.sub_add_cancel h] at this
  exact this
section M2
variable {I I' A A' I1 A1 : TI} {V V' V1 : TV} {L L' : Nat → Int64} {nt many day rl : Nat} {R : Nat → Nat → Nat} {th th' : Nat → Nat} {W : Nat → Nat → List Int32} {e : TE}
theorem mSz_refl : mSz I A I A := by unfold mSz; rw [upA_self]; exact mSx_refl
theorem FB_z (hF : FB nt many R th day rl e) {p : Nat → Nat} (hp : ∀ j, p j ≤ 9) : FB nt many (RP R p) th day rl e :=
  ⟨⟨hF.1.1, fun j hj => rOk_2 (hF.1.2.1 j hj) (hp j), hF.1.2.2⟩, FE_R hF.2 (fun j _ => uN_n (by decide))⟩
theorem MB_z (hm : MB I A nt W many R th day rl e) (s : mSz I A I1 A1) {p : Nat → Nat} (h4 : ∀ j, j < many → A1 4 j = nI (p j)) : MB I1 A1 nt W many (RP R p) th day rl e := by
  obtain ⟨g1, g2, g3, g4, g5⟩ := MG_S hm.1 s
  have ht := MT_S hm.2.1 s
  have he := ME_S hm.2.2 s
  refine ⟨⟨g1, fun j hj f hf => ?_, g3, by rw [upA_n (by omega)] at g4; exact g4, g5⟩, MT_fr ht rfl rfl (fun b hb => (upA_n (by omega)).symm), ⟨he.1.1, fun i hi => by have := he.1.2 i hi; rw [upA_n (by omega)] at this; exact this⟩, MK_fr he.2.1 (fun _ _ => rfl) (upA_n (by omega)).symm (upA_n (by omega)).symm, MH_fr he.2.2 (upA_n (by omega)).symm (upA_n (by omega)).symm (upA_n (by omega)).symm⟩
  have := g2 j hj f hf
  by_cases c : f = 2
  · rw [c]; show A1 4 j = nI (uN (R j) 2 (p j) 2); rw [uN_s]; exact h4 j hj
  · rw [upA_n (by omega)] at this
    rw [this]
    show nI (R j f) = nI (uN (R j) 2 (p j) f)
    rw [uN_n c]
theorem S91 {TP : Nat → Nat → Nat} (hTP : ∀ x p, TP x p ≤ 240) {c : Nat} (hc : c ≤ 1000) (h3 : many ≤ 3) (h41 : I1 4 1 = nI many) (h22 : ∀ x, x < many → ∀ p, p < 10 → A1 22 (10 * x + p) = nI (TP x p)) (d : Nat) (P : MP) (hP : P (some (.int (nI (sumN (fun k => TP (many - 1 - k) (dg c k)) many)))) (mkH cSh I1 V1 L A1)) : mRun (d + 1) 91 [.ref 0, .int (nI c)] (mkH cSh I1 V1 L A1) P := by
  have up := fun (k : Nat) => dv_le c k
  simp (disch := first | assumption | exact mnl_i | exact mnl_r | exact mnl_n | exact mnl_0 | omega) only [↓reduceIte, tolS, E91_0, B91, cShG, h41, sub1]
  have z0 : c = c / 10 ^ 0 := by rw [Nat.pow_zero, Nat.div_one]
  have z1 : ∀ x : Nat, x = c → mFr d 91 15 [some (.ref 0), some (.int (nI c)), some (.int 0), some (.int (nI x)), some (.int (nI many + (-1))), none] [] (mkH cSh I1 V1 L A1) P → mFr d 91 15 [some (.ref 0), some (.int (nI c)), some (.int 0), some (.int (nI c)), some (.int (nI many + (-1))), none] [] (mkH cSh I1 V1 L A1) P := fun x hx hh => by rw [hx] at hh; exact hh
  refine z1 (c / 10 ^ 0) z0.symm ?_
  refine up_loop many (fun k (s' : Option Value) => mFr d 91 15 [some (.ref 0), some (.int (nI c)), some (.int (nI (sumN (fun k => TP (many - 1 - k) (dg c k)) k))), some (.int (nI (c / 10 ^ k))), some (.int (nI (many - k) + (-1))), s'] [] (mkH cSh I1 V1 L A1) P) (fun _ s' => mnl s' = true) (fun k l5 hk hi ih => ?_) (fun l5 hi => ?_) none rfl
  · have u1 := up k
    have u2 : c / 10 ^ k < 2 ^ 31 := by omega
    have u3 : nI (many - k) + (-1) = nI (many - 1 - k) := by rw [nI_dn1 (by omega), show many - k - 1 = many - 1 - k by omega]
    have u4 : many - (k + 1) = many - 1 - k := by omega
    have d9 := dg_9 c k
    have ed : dg c k = c / 10 ^ k % 10 := rfl
    have hv := h22 (many - 1 - k) (by omega) (dg c k) (by omega)
    have g1 : 10 * (many - 1 - k) + dg c k < 30 := by omega
    have g2 : 10 * (many - 1 - k) + dg c k < 2 ^ 31 := by omega
    have ih := ih (some (.int (nI (10 * (many - 1 - k) + dg c k)))) rfl
    simp only [sumN, u4, dv_s] at ih
    rw [u3]
    rw [ed] at ih hv g1 g2
    simp (disch := first | assumption | exact mnl_i | exact mnl_r | exact mnl_n | exact mnl_0 | omega) only [↓reduceIte, tolS, E91_15, E91_20, E91_37, E91_47, cShG, cShR, q_neg, ml10, show ¬ (10 : Int32) = 0 by decide, dv10 u2, rm10b u2, q_aa, nI_d, q_ll, g1, pix_nI, hv]
    simp (disch := first | assumption | exact mnl_i | exact mnl_r | exact mnl_n | exact mnl_0 | omega) only [↓reduceIte, tolS, E91_57, show ¬ (10 : Int32) = 0 by decide, dv10 u2]
    exact ih
  · rw [Nat.sub_self]
    simp (disch := first | assumption | exact mnl_i | exact mnl_r | exact mnl_n | exact mnl_0 | omega) only [↓reduceIte, tolS, E91_15, E91_68, show nI 0 + (-1) < 0 by decide]
    exact hP
end M2
