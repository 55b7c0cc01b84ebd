/-! tells: the reference's loops over kinds, numbers, patches, airs -/
def mSf (f j : Nat) (I A I1 A1 : TI) : Prop := mSx I A I1 (upA A1 (2 + f) (A (2 + f))) ∧ ∀ k, k ≠ j → A1 (2 + f) k = A (2 + f) k
section N4
variable {I I' A A' I1 A1 I2 A2 : TI} {V V' V1 : TV} {L L' : Nat → Int64} {nt many day rl t : Nat} {R : Nat → Nat → Nat} {th th' : Nat → Nat} {W : Nat → Nat → List Int32} {w : Nat → List Int32} {r : Nat → Nat} {ce : Nat → Int32} {e : TE}
theorem mSf_refl {f j : Nat} : mSf f j I A I A := ⟨by rw [upA_self]; exact mSx_refl, fun _ _ => rfl⟩
theorem mSf_t {f j : Nat} (hf : f < 6) (s : mSf f j I A I1 A1) (p1 : mkp I1 I2) (p2 : ∀ b, b ≠ 13 → b ≠ 14 → A2 b = A1 b) : mSf f j I A I2 A2 := by
  refine ⟨⟨fun g hg => by rw [p1 g hg]; exact s.1.1 g hg, fun b hb => ?_⟩, fun k hk => by rw [p2 _ (by omega) (by omega)]; exact s.2 k hk⟩
  have := s.1.2 b hb
  by_cases c : b = 2 + f
  · rw [c, upA_s]
  · rw [upA_n c] at this ⊢
    rw [p2 b (by omega) (by omega)]; exact this
theorem mSf_w {f j : Nat} {v : Int32} (s : mSf f j I A I1 A1) : mSf f j I A I1 (upA A1 (2 + f) (upd (A1 (2 + f)) j v)) :=
  ⟨by rw [upA_upA]; exact s.1, fun k hk => by rw [upA_s, upd_n hk]; exact s.2 k hk⟩
theorem mSf_e {f j : Nat} (s : mSf f j I A I1 A1) : mSx I A I1 (upA A1 (2 + f) (upd (A1 (2 + f)) j (A (2 + f) j))) := by
  have : upd (A1 (2 + f)) j (A (2 + f) j) = A (2 + f) := by
    funext k
    by_cases c : k = j
    · rw [c, upd_s]
    · rw [upd_n c]; exact s.2 k c
  rw [this]
  exact s.1
theorem WM_f {f j v : Nat} (hF : FB nt many R th day rl e) (hm : MB I A nt W many R th day rl e) (s : mSf f j I A I1 A1) (hf : f < 6) (hj : j < many) (hok : rOk (uN (R j) f v)) (h1 : A1 (2 + f) j = nI v) : WM I1 A1 j rl (W rl) th day (uN (R j) f v) := by
  have g := MG_S hm.1 s.1
  have ht := MT_S hm.2.1 s.1
  have g2 : MGm I1 A1 many (updR R j (uN (R j) f v)) th day rl := by
    refine MG_upR g (fun _ _ => rfl) (upA_n (by omega)).symm (fun b k hb hk => ?_) (fun x hx => ?_)
    · by_cases c : b = 2 + f
      · rw [c, upA_s]; exact s.2 k hk
      · rw [upA_n c]
    · by_cases c : x = f
      · rw [c, uN_s]; exact h1
      · rw [uN_n c]
        have := g.2.1 j hj x hx
        rw [upA_n (by omega)] at this
        exact this
  have := WM_of (FG_upR hF.1 hok) g2 (MT_fr ht rfl rfl (fun b hb => (upA_n (by omega)).symm)) hj
  rw [updR_s] at this
  exact this
theorem M173 {j s N : Nat} (hF : FB nt many R th day rl e) (hm : MB I A nt W many R th day rl e) (hj : j < many) (hs : s < 4) (hN : N ≤ 40) (hsz : A 21 s = nI N) (hce : ∀ i, i < 40 → A 22 (40 * s + i) = ce i) (x : Nat → Int32) (hx : ∀ k, x k = fdN (airN (W rl) th day (uN (R j) 0 k)) ce N) (d : Nat) (P : MP) (hP : ∀ I2 A2, mSx I A I2 A2 → P (some (.int (bitN x 6))) (mkH dSh I2 V L A2)) : mRun (d + 9) 173 [.ref 0, .int (nI s), .int (nI j)] (mkH dSh I V L A) P := by
  have h5 := hF.1.1
  have hj5 : j < 5 := by omega
  have hok := hF.1.2.1 j hj
  obtain ⟨k0, k1, k2, k3, k4, k5⟩ := hok
  simp (disch := first | assumption | exact mnl_i | exact mnl_r | exact mnl_n | exact mnl_0 | omega) only [↓reduceIte, tolS, E173_0, B173, dShG, dShR, pix_nI, hj5]
  refine up_loop 6 (fun k (s' : TI × TI) => mFr (d + 8) 173 13 [some (.ref 0), some (.int (nI s)), some (.int (nI j)), some (.int (A 2 j)), some (.int (bitN x k)), some (.int (nI k))] [] (mkH dSh s'.1 V L s'.2) P) (fun k s' => mSf 0 j I A s'.1 s'.2) (fun k s' hk hi ih => ?_) (fun s' hi => ?_) (I, A) mSf_refl
  · obtain ⟨I3, A3⟩ := s'
    replace hi : mSf 0 j I A I3 A3 := hi
    have hok' : rOk (uN (R j) 0 k) := ⟨by show k ≤ 5; omega, k1, k2, k3, k4, k5⟩
    have s4 := mSf_w (v := nI k) hi
    have hW := WM_f hF hm s4 (by omega) hj hok' (by rw [upA_s, upd_s])
    have z1 : upA A3 (2 + 0) (upd (A3 (2 + 0)) j (nI k)) 21 s = nI N := by
      have := s4.1.2 21 (by omega)
      rw [upA_n (by omega)] at this
      rw [this]; exact hsz
    have z2 : ∀ i, i < 40 → upA A3 (2 + 0) (upd (A3 (2 + 0)) j (nI k)) 22 (40 * s + i) = ce i := by
      have := s4.1.2 22 (by omega)
      rw [upA_n (by omega)] at this
      rw [this]; exact hce
    simp (disch := first | assumption | exact mnl_i | exact mnl_r | exact mnl_n | exact mnl_0 | omega) only [↓reduceIte, tolS, E173_13, q_lt, hk]
    simp (disch := first | assumption | exact mnl_i | exact mnl_r | exact mnl_n | exact mnl_0 | omega) only [↓reduceIte, tolS, E173_20.1, E173_20.2.1, E173_20.2.2.1, E173_20.2.2.2.1, E173_20.2.2.2.2.1, E173_20.2.2.2.2.2.1, E173_20.2.2.2.2.2.2.1, E173_20.2.2.2.2.2.2.2.1, E173_20.2.2.2.2.2.2.2.2.1, dShG, dShR, pix_nI, hj5]
    refine M172 hW hok' hj5 hs hN z1 z2 _ _ (fun I5 A5 p1 p2 => ?_)
    rw [← hx]
    have ih' := ih (I5, A5) (mSf_t (by omega) s4 p1 p2)
    simp only [bitN] at ih'
    by_cases c : x k = -1
    · rw [if_pos c] at ih'
      simp (disch := first | assumption | exact mnl_i | exact mnl_r | exact mnl_n | exact mnl_0 | omega) only [↓reduceIte, tolS, E173_20.2.2.2.2.2.2.2.2.2, E173_37, c, n10]
      simp (disch := first | assumption | exact mnl_i | exact mnl_r | exact mnl_n | exact mnl_0 | omega) only [↓reduceIte, tolS, E173_46, q_add]
      exact ih'
    · rw [if_neg c] at ih'
      simp (disch := first | assumption | exact mnl_i | exact mnl_r | exact mnl_n | exact mnl_0 | omega) only [↓reduceIte, tolS, E173_20.2.2.2.2.2.2.2.2.2, c, n10]
      simp (disch := first | assumption | exact mnl_i | exact mnl_r | exact mnl_n | exact mnl_0 | omega) only [↓reduceIte, tolS, E173_46, q_add]
      exact ih'
  · obtain ⟨I3, A3⟩ := s'
    replace hi : mSf 0 j I A I3 A3 := hi
    have hk2 : ¬ 6 < 6 := by omega
    simp (disch := first | assumption | exact mnl_i | exact mnl_r | exact mnl_n | exact mnl_0 | omega) only [↓reduceIte, tolS, E173_13, E173_52, dShG, dShR, pix_nI, hj5, q_lt, hk2]
    exact hP I3 _ (mSf_e hi)
theorem M174 {j s N : Nat} (hF : FB nt many R th day rl e) (hm : MB I A nt W many R th day rl e) (hj : j < many) (hs : s < 4) (hN : N ≤ 40) (hsz : A 21 s = nI N) (hce : ∀ i, i < 40 → A 22 (40 * s + i) = ce i) (x : Nat → Int32) (hx : ∀ k, x k = fdN (airN (W rl) th day (uN (R j) 1 k)) ce N) (d : Nat) (P : MP) (hP : ∀ I2 A2, mSx I A I2 A2 → P (some (.int (bitN x 10))) (mkH dSh I2 V L A2)) : mRun (d + 9) 174 [.ref 0, .int (nI s), .int (nI j)] (mkH dSh I V L A) P := by
  have h5 := hF.1.1
  have hj5 : j < 5 := by omega
  have hok := hF.1.2.1 j hj
  obtain ⟨k0, k1, k2, k3, k4, k5⟩ := hok
  simp (disch := first | assumption | exact mnl_i | exact mnl_r | exact mnl_n | exact mnl_0 | omega) only [↓reduceIte, tolS, E174_0, B174, dShG, dShR, pix_nI, hj5]
  refine up_loop 10 (fun k (s' : TI × TI) => mFr (d + 8) 174 13 [some (.ref 0), some (.int (nI s)), some (.int (nI j)), some (.int (A 3 j)), some (.int (bitN x k)), some (.int (nI k))] [] (mkH dSh s'.1 V L s'.2) P) (fun k s' => mSf 1 j I A s'.1 s'.2) (fun k s' hk hi ih => ?_) (fun s' hi => ?_) (I, A) mSf_refl
  · obtain ⟨I3, A3⟩ := s'
    replace hi : mSf 1 j I A I3 A3 := hi
    have hok' : rOk (uN (R j) 1 k) := ⟨k0, by show k ≤ 9; omega, k2, k3, k4, k5⟩
    have s4 := mSf_w (v := nI k) hi
    have hW := WM_f hF hm s4 (by omega) hj hok' (by rw [upA_s, upd_s])
    have z1 : upA A3 (2 + 1) (upd (A3 (2 + 1)) j (nI k)) 21 s = nI N := by
      have := s4.1.2 21 (by omega)
      rw [upA_n (by omega)] at this
      rw [this]; exact hsz
    have z2 : ∀ i, i < 40 → upA A3 (2 + 1) (upd (A3 (2 + 1)) j (nI k)) 22 (40 * s + i) = ce i := by
      have := s4.1.2 22 (by omega)
      rw [upA_n (by omega)] at this
      rw [this]; exact hce
    simp (disch := first | assumption | exact mnl_i | exact mnl_r | exact mnl_n | exact mnl_0 | omega) only [↓reduceIte, tolS, E174_13, q_lt, hk]
    simp (disch := first | assumption | exact mnl_i | exact mnl_r | exact mnl_n | exact mnl_0 | omega) only [↓reduceIte, tolS, E174_20.1, E174_20.2.1, E174_20.2.2.1, E174_20.2.2.2.1, E174_20.2.2.2.2.1, E174_20.2.2.2.2.2.1, E174_20.2.2.2.2.2.2.1, E174_20.2.2.2.2.2.2.2.1, E174_20.2.2.2.2.2.2.2.2.1, dShG, dShR, pix_nI, hj5]
    refine M172 hW hok' hj5 hs hN z1 z2 _ _ (fun I5 A5 p1 p2 => ?_)
    rw [← hx]
    have ih' := ih (I5, A5) (mSf_t (by omega) s4 p1 p2)
    simp only [bitN] at ih'
    by_cases c : x k = -1
    · rw [if_pos c] at ih'
      simp (disch := first | assumption | exact mnl_i | exact mnl_r | exact mnl_n | exact mnl_0 | omega) only [↓reduceIte, tolS, E174_20.2.2.2.2.2.2.2.2.2, E174_37, c, n10]
      simp (disch := first | assumption | exact mnl_i | exact mnl_r | exact mnl_n | exact mnl_0 | omega) only [↓reduceIte, tolS, E174_46, q_add]
      exact ih'
    · rw [if_neg c] at ih'
      simp (disch := first | assumption | exact mnl_i | exact mnl_r | exact mnl_n | exact mnl_0 | omega) only [↓reduceIte, tolS, E174_20.2.2.2.2.2.2.2.2.2, c, n10]
      simp (disch := first | assumption | exact mnl_i | exact mnl_r | exact mnl_n | exact mnl_0 | omega) only [↓reduceIte, tolS, E174_46, q_add]
      exact ih'
  · obtain ⟨I3, A3⟩ := s'
    replace hi : mSf 1 j I A I3 A3 := hi
    have hk2 : ¬ 10 < 10 := by omega
    simp (disch := first | assumption | exact mnl_i | exact mnl_r | exact mnl_n | exact mnl_0 | omega) only [↓reduceIte, tolS, E174_13, E174_52, dShG, dShR, pix_nI, hj5, q_lt, hk2]
    exact hP I3 _ (mSf_e hi)
theorem M175 {j s N : Nat} (hF : FB nt many R th day rl e) (hm : MB I A nt W many R th day rl e) (hj : j < many) (hs : s < 4) (hN : N ≤ 40) (hsz : A 21 s = nI N) (hce : ∀ i, i < 40 → A 22 (40 * s + i) = ce i) (x : Nat → Int32) (hx : ∀ k, x k = fdN (airN (W rl) th day (uN (R j) 2 k)) ce N) (d : Nat) (P : MP) (hP : ∀ I2 A2, mSx I A I2 A2 → P (some (.int (bitN x 10))) (mkH dSh I2 V L A2)) : mRun (d + 9) 175 [.ref 0, .int (nI s), .int (nI j)] (mkH dSh I V L A) P := by
  have h5 := hF.1.1
  have hj5 : j < 5 := by omega
  have hok := hF.1.2.1 j hj
  obtain ⟨k0, k1, k2, k3, k4, k5⟩ := hok
  simp (disch := first | assumption | exact mnl_i | exact mnl_r | exact mnl_n | exact mnl_0 | omega) only [↓reduceIte, tolS, E175_0, B175, dShG, dShR, pix_nI, hj5]
  refine up_loop 10 (fun k (s' : TI × TI) => mFr (d + 8) 175 13 [some (.ref 0), some (.int (nI s)), some (.int (nI j)), some (.int (A 4 j)), some (.int (bitN x k)), some (.int (nI k))] [] (mkH dSh s'.1 V L s'.2) P) (fun k s' => mSf 2 j I A s'.1 s'.2) (fun k s' hk hi ih => ?_) (fun s' hi => ?_) (I, A) mSf_refl
  · obtain ⟨I3, A3⟩ := s'
    replace hi : mSf 2 j I A I3 A3 := hi
    have hok' : rOk (uN (R j) 2 k) := ⟨k0, k1, by show k ≤ 9; omega, k3, k4, k5⟩
    have s4 := mSf_w (v := nI k) hi
    have hW := WM_f hF hm s4 (by omega) hj hok' (by rw [upA_s, upd_s])
    have z1 : upA A3 (2 + 2) (upd (A3 (2 + 2)) j (nI k)) 21 s = nI N := by
      have := s4.1.2 21 (by omega)
      rw [upA_n (by omega)] at this
      rw [this]; exact hsz
    have z2 : ∀ i, i < 40 → upA A3 (2 + 2) (upd (A3 (2 + 2)) j (nI k)) 22 (40 * s + i) = ce i := by
      have := s4.1.2 22 (by omega)
      rw [upA_n (by omega)] at this
      rw [this]; exact hce
    simp (disch := first | assumption | exact mnl_i | exact mnl_r | exact mnl_n | exact mnl_0 | omega) only [↓reduceIte, tolS, E175_13, q_lt, hk]
    simp (disch := first | assumption | exact mnl_i | exact mnl_r | exact mnl_n | exact mnl_0 | omega) only [↓reduceIte, tolS, E175_20.1, E175_20.2.1, E175_20.2.2.1, E175_20.2.2.2.1, E175_20.2.2.2.2.1, E175_20.2.2.2.2.2.1, E175_20.2.2.2.2.2.2.1, E175_20.2.2.2.2.2.2.2.1, E175_20.2.2.2.2.2.2.2.2.1, dShG, dShR, pix_nI, hj5]
    refine M172 hW hok' hj5 hs hN z1 z2 _ _ (fun I5 A5 p1 p2 => ?_)
    rw [← hx]
    have ih' := ih (I5, A5) (mSf_t (by omega) s4 p1 p2)
    simp only [bitN] at ih'
    by_cases c : x k = -1
    · rw [if_pos c] at ih'
      simp (disch := first | assumption | exact mnl_i | exact mnl_r | exact mnl_n | exact mnl_0 | omega) only [↓reduceIte, tolS, E175_20.2.2.2.2.2.2.2.2.2, E175_37, c, n10]
      simp (disch := first | assumption | exact mnl_i | exact mnl_r | exact mnl_n | exact mnl_0 | omega) only [↓reduceIte, tolS, E175_46, q_add]
      exact ih'
    · rw [if_neg c] at ih'
      simp (disch := first | assumption | exact mnl_i | exact mnl_r | exact mnl_n | exact mnl_0 | omega) only [↓reduceIte, tolS, E175_20.2.2.2.2.2.2.2.2.2, c, n10]
      simp (disch := first | assumption | exact mnl_i | exact mnl_r | exact mnl_n | exact mnl_0 | omega) only [↓reduceIte, tolS, E175_46, q_add]
      exact ih'
  · obtain ⟨I3, A3⟩ := s'
    replace hi : mSf 2 j I A I3 A3 := hi
    have hk2 : ¬ 10 < 10 := by omega
    simp (disch := first | assumption | exact mnl_i | exact mnl_r | exact mnl_n | exact mnl_0 | omega) only [↓reduceIte, tolS, E175_13, E175_52, dShG, dShR, pix_nI, hj5, q_lt, hk2]
    exact hP I3 _ (mSf_e hi)
end N4
