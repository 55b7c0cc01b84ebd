/-! tells: the reference's texts, thoughts -/
section N6
variable {I I' A A' I1 A1 I2 A2 : TI} {V V' V1 : TV} {L L' : Nat → Int64} {nt many day rl t : Nat} {R : Nat → Nat → Nat} {th th' : Nat → Nat} {W : Nat → Nat → List Int32} {w : Nat → List Int32} {r : Nat → Nat} {ce : Nat → Int32} {e : TE}
theorem mSg_refl : mSg I A I A := by
  refine ⟨fun f hf => ?_, fun _ _ => rfl⟩
  by_cases c : f = 9
  · rw [c, up2_s]
  · rw [up2_f c]
theorem mSg_w {v : Int32} (s : mSg I A I1 A1) : mSg I A (up2 I1 0 9 v) A1 := by
  refine ⟨fun f hf => ?_, s.2⟩
  have := s.1 f hf
  by_cases c : f = 9
  · rw [c, up2_s]
  · rw [up2_f c] at this ⊢
    rw [up2_f c]; exact this
theorem mSg_t (s : mSg I A I1 A1) (p1 : mkp I1 I2) (p2 : ∀ b, b ≠ 13 → b ≠ 14 → A2 b = A1 b) : mSg I A I2 A2 := by
  refine ⟨fun f hf => ?_, fun b hb => by rw [p2 b (by omega) (by omega)]; exact s.2 b hb⟩
  have := s.1 f hf
  by_cases c : f = 9
  · rw [c, up2_s]
  · rw [up2_f c] at this ⊢
    rw [p1 f hf]; exact this
theorem M177 {j s N : Nat} (hF : FB nt many R th day rl e) (hm : MB I A nt W many R th day rl e) (hj : j < many) (hs : s < 4) (hN : N ≤ 40) (hsz : A 21 s = nI N) (hce : ∀ i, i < 40 → A 22 (40 * s + i) = ce i) (x : Nat → Int32) (hx : ∀ k, x k = fdN (airN (W k) th day (R j)) ce N) (d : Nat) (P : MP) (hP : ∀ I2 A2, mSx I A I2 A2 → P (some (.int (bitN x nt))) (mkH dSh I2 V L A2)) : mRun (d + 9) 177 [.ref 0, .int (nI s), .int (nI j)] (mkH dSh I V L A) P := by
  have h5 := hF.1.1
  have hj5 : j < 5 := by omega
  have hok := hF.1.2.1 j hj
  have hnt : nt ≤ 6 := hF.1.2.2.2.2.2
  have h12 : I 0 12 = nI nt := hm.2.1.1
  simp (disch := first | assumption | exact mnl_i | exact mnl_r | exact mnl_n | exact mnl_0 | omega) only [↓reduceIte, tolS, E177_0, B177, dShG, dShR]
  refine up_loop nt (fun k (s' : TI × TI) => mFr (d + 8) 177 11 [some (.ref 0), some (.int (nI s)), some (.int (nI j)), some (.int (I 0 9)), some (.int (bitN x k)), some (.int (nI k))] [] (mkH dSh s'.1 V L s'.2) P) (fun k s' => mSg I A s'.1 s'.2) (fun k s' hk hi ih => ?_) (fun s' hi => ?_) (I, A) mSg_refl
  · obtain ⟨I3, A3⟩ := s'
    replace hi : mSg I A I3 A3 := hi
    have s4 := mSg_w (v := nI k) hi
    have hW := WM_g hF hm s4 hj hk up2_s
    have g12 : I3 0 12 = nI nt := by
      have := hi.1 12 (by omega)
      rw [up2_f (by omega)] at this
      rw [this]; exact h12
    have z1 : A3 21 s = nI N := by rw [hi.2 21 (by omega)]; exact hsz
    have z2 : ∀ i, i < 40 → A3 22 (40 * s + i) = ce i := by rw [hi.2 22 (by omega)]; exact hce
    simp (disch := first | assumption | exact mnl_i | exact mnl_r | exact mnl_n | exact mnl_0 | omega) only [↓reduceIte, tolS, E177_11, dShG, g12, q_ll, hk]
    simp (disch := first | assumption | exact mnl_i | exact mnl_r | exact mnl_n | exact mnl_0 | omega) only [↓reduceIte, tolS, E177_20.1, E177_20.2.1, E177_20.2.2.1, E177_20.2.2.2.1, E177_20.2.2.2.2.1, E177_20.2.2.2.2.2.1, E177_20.2.2.2.2.2.2.1, dShG, dShP]
    refine M172 hW hok hj5 hs hN z1 z2 _ _ (fun I5 A5 p1 p2 => ?_)
    rw [← hx]
    have ih' := ih (I5, A5) (mSg_t s4 p1 p2)
    simp only [bitN] at ih'
    by_cases c : x k = -1
    · rw [if_pos c] at ih'
      simp (disch := first | assumption | exact mnl_i | exact mnl_r | exact mnl_n | exact mnl_0 | omega) only [↓reduceIte, tolS, E177_20.2.2.2.2.2.2.2, E177_35, c, n10]
      simp (disch := first | assumption | exact mnl_i | exact mnl_r | exact mnl_n | exact mnl_0 | omega) only [↓reduceIte, tolS, E177_44, q_add]
      exact ih'
    · rw [if_neg c] at ih'
      simp (disch := first | assumption | exact mnl_i | exact mnl_r | exact mnl_n | exact mnl_0 | omega) only [↓reduceIte, tolS, E177_20.2.2.2.2.2.2.2, c, n10]
      simp (disch := first | assumption | exact mnl_i | exact mnl_r | exact mnl_n | exact mnl_0 | omega) only [↓reduceIte, tolS, E177_44, q_add]
      exact ih'
  · obtain ⟨I3, A3⟩ := s'
    replace hi : mSg I A I3 A3 := hi
    have g12 : I3 0 12 = nI nt := by
      have := hi.1 12 (by omega)
      rw [up2_f (by omega)] at this
      rw [this]; exact h12
    have e1 : ¬ nt < nt := by omega
    simp (disch := first | assumption | exact mnl_i | exact mnl_r | exact mnl_n | exact mnl_0 | omega) only [↓reduceIte, tolS, E177_11, E177_50, dShG, dShP, g12, q_ll, e1]
    exact hP _ A3 hi
theorem M178 {j s N p : Nat} (hF : FB nt many R th day rl e) (hm : MB I A nt W many R th day rl e) (hj : j < many) (hs : s < 4) (hN : N ≤ 40) (hsz : A 21 s = nI N) (hce : ∀ i, i < 40 → A 22 (40 * s + i) = ce i) (hp : p < 24) (x : Nat → Int32) (hx : ∀ k, x k = fdN (airN (W rl) (upT th p k) day (R j)) ce N) (d : Nat) (P : MP) (hP : ∀ I2 A2, mSx I A I2 A2 → P (some (.int (bitN x 10))) (mkH dSh I2 V L A2)) : mRun (d + 9) 178 [.ref 0, .int (nI s), .int (nI j), .int (nI p)] (mkH dSh I V L A) P := by
  have h5 := hF.1.1
  have hj5 : j < 5 := by omega
  have hok := hF.1.2.1 j hj
  simp (disch := first | assumption | exact mnl_i | exact mnl_r | exact mnl_n | exact mnl_0 | omega) only [↓reduceIte, tolS, E178_0, B178, dShG, dShR, pix_nI]
  refine up_loop 10 (fun k (s' : TI × TI) => mFr (d + 8) 178 14 [some (.ref 0), some (.int (nI s)), some (.int (nI j)), some (.int (nI p)), some (.int (A 1 p)), some (.int (bitN x k)), some (.int (nI k))] [] (mkH dSh s'.1 V L s'.2) P) (fun k s' => mSp p I A s'.1 s'.2) (fun k s' hk hi ih => ?_) (fun s' hi => ?_) (I, A) ⟨mSy_refl, fun _ _ => rfl⟩
  · obtain ⟨I3, A3⟩ := s'
    replace hi : mSp p I A I3 A3 := hi
    have s4 : mSp p I A I3 (upA A3 1 (upd (A3 1) p (nI k))) := ⟨by unfold mSy; rw [upA_upA]; exact hi.1, fun x hx => by rw [upA_s, upd_n hx]; exact hi.2 x hx⟩
    have hW := WM_p hF hm s4 hj (show k ≤ 9 by omega) (by rw [upA_s, upd_s])
    have z1 : upA A3 1 (upd (A3 1) p (nI k)) 21 s = nI N := by
      have := s4.1.2 21 (by omega)
      rw [upA_n (by omega)] at this
      rw [this]; exact hsz
    have z2 : ∀ i, i < 40 → upA A3 1 (upd (A3 1) p (nI k)) 22 (40 * s + i) = ce i := by
      have := s4.1.2 22 (by omega)
      rw [upA_n (by omega)] at this
      rw [this]; exact hce
    simp (disch := first | assumption | exact mnl_i | exact mnl_r | exact mnl_n | exact mnl_0 | omega) only [↓reduceIte, tolS, E178_14, q_lt, hk]
    simp (disch := first | assumption | exact mnl_i | exact mnl_r | exact mnl_n | exact mnl_0 | omega) only [↓reduceIte, tolS, E178_21.1, E178_21.2.1, E178_21.2.2.1, E178_21.2.2.2.1, E178_21.2.2.2.2.1, E178_21.2.2.2.2.2.1, E178_21.2.2.2.2.2.2.1, E178_21.2.2.2.2.2.2.2.1, E178_21.2.2.2.2.2.2.2.2.1, dShG, dShR, pix_nI]
    refine M172 hW hok hj5 hs hN z1 z2 _ _ (fun I5 A5 p1 p2 => ?_)
    rw [← hx]
    have s5 : mSp p I A I5 A5 := by
      refine ⟨⟨fun g hg => by rw [p1 g hg]; exact s4.1.1 g hg, fun b hb => ?_⟩, fun y hy => by rw [p2 1 (by omega) (by omega)]; exact s4.2 y hy⟩
      have := s4.1.2 b hb
      by_cases c : b = 1
      · rw [c, upA_s]
      · rw [upA_n c] at this ⊢
        rw [p2 b (by omega) (by omega)]; exact this
    have ih' := ih (I5, A5) s5
    simp only [bitN] at ih'
    by_cases c : x k = -1
    · rw [if_pos c] at ih'
      simp (disch := first | assumption | exact mnl_i | exact mnl_r | exact mnl_n | exact mnl_0 | omega) only [↓reduceIte, tolS, E178_21.2.2.2.2.2.2.2.2.2, E178_38, c, n10]
      simp (disch := first | assumption | exact mnl_i | exact mnl_r | exact mnl_n | exact mnl_0 | omega) only [↓reduceIte, tolS, E178_47, q_add]
      exact ih'
    · rw [if_neg c] at ih'
      simp (disch := first | assumption | exact mnl_i | exact mnl_r | exact mnl_n | exact mnl_0 | omega) only [↓reduceIte, tolS, E178_21.2.2.2.2.2.2.2.2.2, c, n10]
      simp (disch := first | assumption | exact mnl_i | exact mnl_r | exact mnl_n | exact mnl_0 | omega) only [↓reduceIte, tolS, E178_47, q_add]
      exact ih'
  · obtain ⟨I3, A3⟩ := s'
    replace hi : mSp p I A I3 A3 := hi
    have hk2 : ¬ 10 < 10 := by omega
    have fin : mSx I A I3 (upA A3 1 (upd (A3 1) p (A 1 p))) := by
      have e1 : upd (A3 1) p (A 1 p) = A 1 := by
        funext y
        by_cases c : y = p
        · rw [c, upd_s]
        · rw [upd_n c]; exact hi.2 y c
      rw [e1]
      exact hi.1
    simp (disch := first | assumption | exact mnl_i | exact mnl_r | exact mnl_n | exact mnl_0 | omega) only [↓reduceIte, tolS, E178_14, E178_53, dShG, dShR, pix_nI, q_lt, hk2]
    exact hP I3 _ fin
end N6
