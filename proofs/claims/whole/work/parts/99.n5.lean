/-! tells: the reference's airs, texts, thoughts -/
def mSg (I A I1 A1 : TI) : Prop := mSx I A (up2 I1 0 9 (I 0 9)) A1
def mSp (p : Nat) (I A I1 A1 : TI) : Prop := mSy I A I1 A1 ∧ ∀ k, k ≠ p → A1 1 k = A 1 k
section N5
variable {I I' A A' I1 A1 I2 A2 : TI} {V V' V1 : TV} {L L' : Nat → Int64} {nt many day rl t : Nat} {R : Nat → Nat → Nat} {th th' : Nat → Nat} {W : Nat → Nat → List Int32} {w : Nat → List Int32} {r : Nat → Nat} {ce : Nat → Int32} {e : TE}
theorem M176 {j s N q : Nat} (hF : FB nt many R th day rl e) (hm : MB I A nt W many R th day rl e) (hj : j < many) (hs : s < 4) (hN : N ≤ 40) (hsz : A 21 s = nI N) (hce : ∀ i, i < 40 → A 22 (40 * s + i) = ce i) (x : Nat → Int32) (hx : ∀ k, x k = fdN (airN (W rl) th day (uN (R j) 4 k)) ce N) (hq : q < 2) (d : Nat) (P : MP) (hP : ∀ I2 A2, mSx I A I2 A2 → P (some (.int (if q = 0 then nI (acN x 100).1 else (acN x 100).2))) (mkH dSh I2 V L A2)) : mRun (d + 9) 176 [.ref 0, .int (nI s), .int (nI j), .int (nI q)] (mkH dSh I V L A) P := by
  have h5 := hF.1.1
  have hj5 : j < 5 := by omega
  have hok := hF.1.2.1 j hj
  obtain ⟨k0, k1, k2, k3, k4, k5⟩ := hok
  have e99 : (99 : Int32) = nI (100 - 0) + (-1) := by decide
  simp (disch := first | assumption | exact mnl_i | exact mnl_r | exact mnl_n | exact mnl_0 | omega) only [↓reduceIte, tolS, E176_0, B176, dShG, dShR, pix_nI, hj5]
  rw [e99]
  refine up_loop 100 (fun i (s' : TI × TI) => mFr (d + 8) 176 18 [some (.ref 0), some (.int (nI s)), some (.int (nI j)), some (.int (nI q)), some (.int (A 6 j)), some (.int (nI (acN x i).1)), some (.int (acN x i).2), some (.int (nI (100 - i) + (-1)))] [] (mkH dSh s'.1 V L s'.2) P) (fun k s' => mSf 4 j I A s'.1 s'.2) (fun i s' hk hi ih => ?_) (fun s' hi => ?_) (I, A) mSf_refl
  · obtain ⟨I3, A3⟩ := s'
    replace hi : mSf 4 j I A I3 A3 := hi
    have hok' : rOk (uN (R j) 4 (99 - i)) := ⟨k0, k1, k2, k3, by show 99 - i ≤ 99; omega, k5⟩
    have s4 := mSf_w (v := nI (99 - i)) hi
    have hW := WM_f hF hm s4 (by omega) hj hok' (by rw [upA_s, upd_s])
    have z1 : upA A3 (2 + 4) (upd (A3 (2 + 4)) j (nI (99 - i))) 21 s = nI N := by
      have := s4.1.2 21 (by omega)
      rw [upA_n (by omega)] at this
      rw [this]; exact hsz
    have z2 : ∀ i', i' < 40 → upA A3 (2 + 4) (upd (A3 (2 + 4)) j (nI (99 - i))) 22 (40 * s + i') = ce i' := by
      have := s4.1.2 22 (by omega)
      rw [upA_n (by omega)] at this
      rw [this]; exact hce
    have u3 : nI (100 - i) + (-1) = nI (99 - i) := by rw [nI_dn1 (by omega), show 100 - i - 1 = 99 - i by omega]
    have u4 : 100 - (i + 1) = 99 - i := by omega
    have hle := acN_le (x := x) i
    show mFr (d + 8) 176 18 [some (.ref 0), some (.int (nI s)), some (.int (nI j)), some (.int (nI q)), some (.int (A 6 j)), some (.int (nI (acN x i).1)), some (.int (acN x i).2), some (.int (nI (100 - i) + (-1)))] [] (mkH dSh I3 V L A3) P
    rw [u3]
    simp (disch := first | assumption | exact mnl_i | exact mnl_r | exact mnl_n | exact mnl_0 | omega) only [↓reduceIte, tolS, E176_18, E176_23.1, E176_23.2.1, E176_23.2.2.1, E176_23.2.2.2.1, E176_23.2.2.2.2.1, E176_23.2.2.2.2.2.1, E176_23.2.2.2.2.2.2.1, E176_23.2.2.2.2.2.2.2.1, E176_23.2.2.2.2.2.2.2.2.1, dShG, dShR, pix_nI, hj5, q_neg]
    refine M172 hW hok' hj5 hs hN z1 z2 _ _ (fun I5 A5 p1 p2 => ?_)
    rw [← hx]
    have ih' := ih (I5, A5) (mSf_t (by omega) s4 p1 p2)
    simp only [acN, u4] at ih'
    by_cases c : x (99 - i) = -1
    · rw [if_pos c] at ih'
      simp (disch := first | assumption | exact mnl_i | exact mnl_r | exact mnl_n | exact mnl_0 | omega) only [↓reduceIte, tolS, E176_23.2.2.2.2.2.2.2.2.2, E176_43, c, n10, q_add]
      simp (disch := first | assumption | exact mnl_i | exact mnl_r | exact mnl_n | exact mnl_0 | omega) only [↓reduceIte, tolS, E176_50]
      exact ih'
    · rw [if_neg c] at ih'
      simp (disch := first | assumption | exact mnl_i | exact mnl_r | exact mnl_n | exact mnl_0 | omega) only [↓reduceIte, tolS, E176_23.2.2.2.2.2.2.2.2.2, E176_40, c, n10]
      simp (disch := first | assumption | exact mnl_i | exact mnl_r | exact mnl_n | exact mnl_0 | omega) only [↓reduceIte, tolS, E176_50]
      exact ih'
  · obtain ⟨I3, A3⟩ := s'
    replace hi : mSf 4 j I A I3 A3 := hi
    have hneg : nI (100 - 100) + (-1) < 0 := by decide
    have fin := hP I3 _ (mSf_e hi)
    by_cases c : q = 0
    · rw [if_pos c] at fin
      simp (disch := first | assumption | exact mnl_i | exact mnl_r | exact mnl_n | exact mnl_0 | omega) only [↓reduceIte, tolS, E176_18, E176_56, E176_68, E176_75, dShG, dShR, pix_nI, hj5, hneg, q_eq, c]
      exact fin
    · rw [if_neg c] at fin
      simp (disch := first | assumption | exact mnl_i | exact mnl_r | exact mnl_n | exact mnl_0 | omega) only [↓reduceIte, tolS, E176_18, E176_56, E176_73, E176_75, dShG, dShR, pix_nI, hj5, hneg, q_eq, c]
      exact fin
theorem WM_g {j v : Nat} (hF : FB nt many R th day rl e) (hm : MB I A nt W many R th day rl e) (s : mSg I A I1 A1) (hj : j < many) (hv : v < nt) (h9 : I1 0 9 = nI v) : WM I1 A1 j v (W v) th day (R j) := by
  have g := MG_S hm.1 s
  have ht := MT_S hm.2.1 s
  have u : ∀ f, f ≠ 9 → I1 0 f = up2 I1 0 9 (I 0 9) 0 f := fun f hf => by rw [up2_f hf]
  exact WM_of (rl := v) ⟨hF.1.1, hF.1.2.1, hF.1.2.2.1, hF.1.2.2.2.1, hv, hF.1.2.2.2.2.2⟩ ⟨by rw [u 2 (by omega)]; exact g.1, g.2.1, by rw [u 0 (by omega)]; exact g.2.2.1, g.2.2.2.1, h9⟩ (MT_fr ht (u 12 (by omega)) (u 16 (by omega)) (fun _ _ => rfl)) hj
theorem WM_p {j p v : Nat} (hF : FB nt many R th day rl e) (hm : MB I A nt W many R th day rl e) (s : mSp p I A I1 A1) (hj : j < many) (hv : v ≤ 9) (h1 : A1 1 p = nI v) : WM I1 A1 j rl (W rl) (upT th p v) day (R j) := by
  have g := MG_S hm.1 s.1
  have ht := MT_S hm.2.1 s.1
  refine WM_of (th := upT th p v) ⟨hF.1.1, hF.1.2.1, hF.1.2.2.1, upT_9 hF hv, hF.1.2.2.2.2⟩ ⟨g.1, fun j hj f hf => ?_, g.2.2.1, fun k hk => ?_, g.2.2.2.2⟩ (MT_fr ht rfl rfl (fun b hb => (upA_n (by omega)).symm)) hj
  · have := g.2.1 j hj f hf
    rw [upA_n (by omega)] at this
    exact this
  · unfold upT
    by_cases c : k = p
    · rw [if_pos c, c]; exact h1
    · rw [if_neg c, s.2 k c]; exact hm.1.2.2.2.1 k hk
end N5
