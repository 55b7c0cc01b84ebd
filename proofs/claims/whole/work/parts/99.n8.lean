/-! tells: the class's bits by what is asked -/
section N8
variable {I I' A A' I1 A1 I2 A2 : TI} {V V' V1 : TV} {L L' : Nat → Int64} {nt many day rl rl' t : Nat} {R : Nat → Nat → Nat} {th th' : Nat → Nat} {W : Nat → Nat → List Int32} {w : Nat → List Int32} {r : Nat → Nat} {ce : Nat → Int32} {e : TE}
theorem S96_1 (hF : FB nt many R th day rl e) (hc : CB I V A nt W many R th day rl e) {j : Nat} (hj : j < many) (st : ST I V A day I1 V1 A1 rl th (R j)) {s n : Nat} (hs : s < 4) (hn : n ≤ 40) (hsz : I (47 + 2 * s) 2 = nI n) (hce : ∀ i, i < 40 → A (48 + 2 * s) i = ce i) (x : Nat → Int32) (hx : ∀ k, x k = fdN (airN (W rl) th day (uN (R j) 0 k)) ce n) (d : Nat) (P : MP) (hP : ∀ I2 V2 A2, cS I V A I2 V2 A2 → P (some (.int (bitN x 6))) (mkH cSh I2 V2 L A2)) : mRun (d + 7) 96 [.ref 0, .ref (47 + 2 * s), .int (nI 1)] (mkH cSh I1 V1 L A1) P := by
  have hok := hF.1.2.1 j hj
  obtain ⟨k0, k1, k2, k3, k4, k5⟩ := hok
  have eN : (6 : Int32) = nI 6 := by decide
  simp (disch := first | assumption | exact mnl_i | exact mnl_r | exact mnl_n | exact mnl_0 | omega) only [↓reduceIte, tolS, E96_0, E96_5, E96_25, B96, q_eq, Nat.reduceEqDiff]
  rw [eN]
  refine S96_loop (s := s) (by omega) (by omega) x (fun I3 V3 A3 => ∃ v, ST I V A day I3 V3 A3 rl th (uN (R j) 0 v)) (fun k I3 V3 A3 => ST I V A day I3 V3 A3 rl th (uN (R j) 0 k)) (c47 hs).1 (fun k hk I3 V3 A3 hi => ?_) (fun k hk I3 V3 A3 hi d P hP => ?_) d P ⟨R j 0, by rw [uN_id]; exact st⟩ (fun I2 V2 A2 hi => ?_)
  · obtain ⟨v, hi⟩ := hi
    exact ⟨_, _, _, fun d P => S97_1 (d + 1) P, ST_f hi⟩
  · rw [hx] at hP
    exact ST94 hF hc hi hF.1.2.2.2.2.1 hF.1.2.2.2.1 ⟨by show k ≤ 5; omega, k1, k2, k3, k4, k5⟩ hs hn hsz hce d P (fun I2 A2 q => hP I2 A2 ⟨k, q⟩)
  · obtain ⟨v, hi⟩ := hi
    exact hP _ _ _ hi.1
theorem S96_2 (hF : FB nt many R th day rl e) (hc : CB I V A nt W many R th day rl e) {j : Nat} (hj : j < many) (st : ST I V A day I1 V1 A1 rl th (R j)) {s n : Nat} (hs : s < 4) (hn : n ≤ 40) (hsz : I (47 + 2 * s) 2 = nI n) (hce : ∀ i, i < 40 → A (48 + 2 * s) i = ce i) (x : Nat → Int32) (hx : ∀ k, x k = fdN (airN (W rl) th day (uN (R j) 1 k)) ce n) (d : Nat) (P : MP) (hP : ∀ I2 V2 A2, cS I V A I2 V2 A2 → P (some (.int (bitN x 10))) (mkH cSh I2 V2 L A2)) : mRun (d + 7) 96 [.ref 0, .ref (47 + 2 * s), .int (nI 2)] (mkH cSh I1 V1 L A1) P := by
  have hok := hF.1.2.1 j hj
  obtain ⟨k0, k1, k2, k3, k4, k5⟩ := hok
  have eN : (10 : Int32) = nI 10 := by decide
  simp (disch := first | assumption | exact mnl_i | exact mnl_r | exact mnl_n | exact mnl_0 | omega) only [↓reduceIte, tolS, E96_0, E96_10, E96_23, E96_25, B96, q_eq, Nat.reduceEqDiff]
  rw [eN]
  refine S96_loop (s := s) (by omega) (by omega) x (fun I3 V3 A3 => ∃ v, ST I V A day I3 V3 A3 rl th (uN (R j) 1 v)) (fun k I3 V3 A3 => ST I V A day I3 V3 A3 rl th (uN (R j) 1 k)) (c47 hs).1 (fun k hk I3 V3 A3 hi => ?_) (fun k hk I3 V3 A3 hi d P hP => ?_) d P ⟨R j 1, by rw [uN_id]; exact st⟩ (fun I2 V2 A2 hi => ?_)
  · obtain ⟨v, hi⟩ := hi
    exact ⟨_, _, _, fun d P => S97_2 (d + 1) P, ST_f hi⟩
  · rw [hx] at hP
    exact ST94 hF hc hi hF.1.2.2.2.2.1 hF.1.2.2.2.1 ⟨k0, by show k ≤ 9; omega, k2, k3, k4, k5⟩ hs hn hsz hce d P (fun I2 A2 q => hP I2 A2 ⟨k, q⟩)
  · obtain ⟨v, hi⟩ := hi
    exact hP _ _ _ hi.1
theorem S96_3 (hF : FB nt many R th day rl e) (hc : CB I V A nt W many R th day rl e) {j : Nat} (hj : j < many) (st : ST I V A day I1 V1 A1 rl th (R j)) {s n : Nat} (hs : s < 4) (hn : n ≤ 40) (hsz : I (47 + 2 * s) 2 = nI n) (hce : ∀ i, i < 40 → A (48 + 2 * s) i = ce i) (x : Nat → Int32) (hx : ∀ k, x k = fdN (airN (W rl) th day (uN (R j) 2 k)) ce n) (d : Nat) (P : MP) (hP : ∀ I2 V2 A2, cS I V A I2 V2 A2 → P (some (.int (bitN x 10))) (mkH cSh I2 V2 L A2)) : mRun (d + 7) 96 [.ref 0, .ref (47 + 2 * s), .int (nI 3)] (mkH cSh I1 V1 L A1) P := by
  have hok := hF.1.2.1 j hj
  obtain ⟨k0, k1, k2, k3, k4, k5⟩ := hok
  have eN : (10 : Int32) = nI 10 := by decide
  simp (disch := first | assumption | exact mnl_i | exact mnl_r | exact mnl_n | exact mnl_0 | omega) only [↓reduceIte, tolS, E96_0, E96_10, E96_23, E96_25, B96, q_eq, Nat.reduceEqDiff]
  rw [eN]
  refine S96_loop (s := s) (by omega) (by omega) x (fun I3 V3 A3 => ∃ v, ST I V A day I3 V3 A3 rl th (uN (R j) 2 v)) (fun k I3 V3 A3 => ST I V A day I3 V3 A3 rl th (uN (R j) 2 k)) (c47 hs).1 (fun k hk I3 V3 A3 hi => ?_) (fun k hk I3 V3 A3 hi d P hP => ?_) d P ⟨R j 2, by rw [uN_id]; exact st⟩ (fun I2 V2 A2 hi => ?_)
  · obtain ⟨v, hi⟩ := hi
    exact ⟨_, _, _, fun d P => S97_3 (d + 1) P, ST_f hi⟩
  · rw [hx] at hP
    exact ST94 hF hc hi hF.1.2.2.2.2.1 hF.1.2.2.2.1 ⟨k0, k1, by show k ≤ 9; omega, k3, k4, k5⟩ hs hn hsz hce d P (fun I2 A2 q => hP I2 A2 ⟨k, q⟩)
  · obtain ⟨v, hi⟩ := hi
    exact hP _ _ _ hi.1
theorem S96_6 (hF : FB nt many R th day rl e) (hc : CB I V A nt W many R th day rl e) {j : Nat} (hj : j < many) (st : ST I V A day I1 V1 A1 rl th (R j)) {s n : Nat} (hs : s < 4) (hn : n ≤ 40) (hsz : I (47 + 2 * s) 2 = nI n) (hce : ∀ i, i < 40 → A (48 + 2 * s) i = ce i) (x : Nat → Int32) (hx : ∀ k, x k = fdN (airN (W k) th day (R j)) ce n) (d : Nat) (P : MP) (hP : ∀ I2 V2 A2, cS I V A I2 V2 A2 → P (some (.int (bitN x nt))) (mkH cSh I2 V2 L A2)) : mRun (d + 7) 96 [.ref 0, .ref (47 + 2 * s), .int (nI 6)] (mkH cSh I1 V1 L A1) P := by
  have hok := hF.1.2.1 j hj
  have hnt : nt ≤ 6 := hF.1.2.2.2.2.2
  have g03 : ∀ {I3 V3 A3}, cS I V A I3 V3 A3 → I3 0 3 = nI nt := fun s => by rw [s.1 0 3 (by unfold scI; omega)]; exact hc.2.1.1
  simp (disch := first | assumption | exact mnl_i | exact mnl_r | exact mnl_n | exact mnl_0 | omega) only [↓reduceIte, tolS, E96_0, E96_10, E96_16, E96_25, B96, cShG, q_eq, Nat.reduceEqDiff, g03 st.1]
  refine S96_loop (s := s) (by omega) (by omega) x (fun I3 V3 A3 => ∃ v, ST I V A day I3 V3 A3 v th (R j)) (fun k I3 V3 A3 => ST I V A day I3 V3 A3 k th (R j)) (c47 hs).1 (fun k hk I3 V3 A3 hi => ?_) (fun k hk I3 V3 A3 hi d P hP => ?_) d P ⟨rl, st⟩ (fun I2 V2 A2 hi => ?_)
  · obtain ⟨v, hi⟩ := hi
    exact ⟨_, _, _, fun d P => S97_6 (g03 hi.1) hnt hk d P, ST_g hi⟩
  · rw [hx] at hP
    exact ST94 hF hc hi hk hF.1.2.2.2.1 hok hs hn hsz hce d P (fun I2 A2 q => hP I2 A2 ⟨k, q⟩)
  · obtain ⟨v, hi⟩ := hi
    exact hP _ _ _ hi.1
theorem S96_t (hF : FB nt many R th day rl e) (hc : CB I V A nt W many R th day rl e) {j : Nat} (hj : j < many) (st : ST I V A day I1 V1 A1 rl th (R j)) {s n p : Nat} (hp : p < 24) (hs : s < 4) (hn : n ≤ 40) (hsz : I (47 + 2 * s) 2 = nI n) (hce : ∀ i, i < 40 → A (48 + 2 * s) i = ce i) (x : Nat → Int32) (hx : ∀ k, x k = fdN (airN (W rl) (upT th p k) day (R j)) ce n) (d : Nat) (P : MP) (hP : ∀ I2 V2 A2, cS I V A I2 V2 A2 → P (some (.int (bitN x 10))) (mkH cSh I2 V2 L A2)) : mRun (d + 7) 96 [.ref 0, .ref (47 + 2 * s), .int (nI (p + 10))] (mkH cSh I1 V1 L A1) P := by
  have hok := hF.1.2.1 j hj
  have eN : (10 : Int32) = nI 10 := by decide
  have m1 : ¬ p + 10 = 1 := by omega
  have m6 : ¬ p + 10 = 6 := by omega
  simp (disch := first | assumption | exact mnl_i | exact mnl_r | exact mnl_n | exact mnl_0 | omega) only [↓reduceIte, tolS, E96_0, E96_10, E96_23, E96_25, B96, q_eq, m1, m6]
  rw [eN]
  refine S96_loop (s := s) (by omega) (by omega) x (fun I3 V3 A3 => ∃ v, ST I V A day I3 V3 A3 rl (upT th p v) (R j)) (fun k I3 V3 A3 => ST I V A day I3 V3 A3 rl (upT th p k) (R j)) (c47 hs).1 (fun k hk I3 V3 A3 hi => ?_) (fun k hk I3 V3 A3 hi d P hP => ?_) d P ⟨th p, st.1, st.2.1, DR_ext st.2.2 (fun q hq => by unfold upT; split <;> simp [*])⟩ (fun I2 V2 A2 hi => ?_)
  · obtain ⟨v, hi⟩ := hi
    exact ⟨_, _, _, fun d P => S97_t hp d P, ST_t hi⟩
  · rw [hx] at hP
    exact ST94 hF hc hi hF.1.2.2.2.2.1 (upT_9 hF (by omega)) hok hs hn hsz hce d P (fun I2 A2 q => hP I2 A2 ⟨k, q⟩)
  · obtain ⟨v, hi⟩ := hi
    exact hP _ _ _ hi.1
theorem S95_a (hF : FB nt many R th day rl e) (hc : CB I V A nt W many R th day rl e) {j : Nat} (hj : j < many) (st : ST I V A day I1 V1 A1 rl th (R j)) {s n w0 : Nat} (hw : w0 < 2 ^ 31) (hs : s < 4) (hn : n ≤ 40) (hsz : I (47 + 2 * s) 2 = nI n) (hce : ∀ i, i < 40 → A (48 + 2 * s) i = ce i) (x : Nat → Int32) (hx : ∀ k, x k = fdN (airN (W rl) th day (uN (R j) 4 k)) ce n) (d : Nat) (P : MP) (hP : ∀ I2 V2 A2, cS I V A I2 V2 A2 → P (some (.int (if w0 = 4 then nI (acN x 100).1 else (acN x 100).2))) (mkH cSh I2 V2 L A2)) : mRun (d + 7) 95 [.ref 0, .ref (47 + 2 * s), .int (nI w0)] (mkH cSh I1 V1 L A1) P := by
  have hok := hF.1.2.1 j hj
  obtain ⟨k0, k1, k2, k3, k4, k5⟩ := hok
  refine S95 (c47 hs).1 x (fun I3 V3 A3 => ∃ v, ST I V A day I3 V3 A3 rl th (uN (R j) 4 v)) (fun k I3 V3 A3 => ST I V A day I3 V3 A3 rl th (uN (R j) 4 k)) (fun k hk I3 V3 A3 hi => ?_) (fun k hk I3 V3 A3 hi d P hP => ?_) hw d P ⟨R j 4, by rw [uN_id]; exact st⟩ (fun I2 V2 A2 hi => ?_)
  · obtain ⟨v, hi⟩ := hi
    exact ST_f hi
  · rw [hx] at hP
    exact ST94 hF hc hi hF.1.2.2.2.2.1 hF.1.2.2.2.1 ⟨k0, k1, k2, k3, by show k ≤ 99; omega, k5⟩ hs hn hsz hce d P (fun I2 A2 q => hP I2 A2 ⟨k, q⟩)
  · obtain ⟨v, hi⟩ := hi
    exact hP _ _ _ hi.1
end N8
