/-! tells on both sides -/
def ST (I : TI) (V : TV) (A : TI) (day : Nat) (I1 : TI) (V1 : TV) (A1 : TI) (rl : Nat) (th r : Nat → Nat) : Prop := cS I V A I1 V1 A1 ∧ (∀ f, f < 6 → I1 19 f = nI (r f)) ∧ DR I1 V1 A1 day rl th
section N7
variable {I I' A A' I1 A1 I2 A2 : TI} {V V' V1 : TV} {L L' : Nat → Int64} {nt many day rl rl' t : Nat} {R : Nat → Nat → Nat} {th th' : Nat → Nat} {W : Nat → Nat → List Int32} {w : Nat → List Int32} {r : Nat → Nat} {ce : Nat → Int32} {e : TE}
theorem ST94 (hF : FB nt many R th day rl e) (hc : CB I V A nt W many R th day rl e) (st : ST I V A day I1 V1 A1 rl' th' r) (hr : rl' < nt) (h9 : ∀ p, p < 24 → th' p ≤ 9) (hk : rOk r) {s n : Nat} (hs : s < 4) (hn : n ≤ 40) (hsz : I (47 + 2 * s) 2 = nI n) (hce : ∀ i, i < 40 → A (48 + 2 * s) i = ce i) (d : Nat) (P : MP) (hP : ∀ I2 A2, ST I V A day I2 V1 A2 rl' th' r → P (some (.int (fdN (airN (W rl') th' day r) ce n))) (mkH cSh I2 V1 L A2)) : mRun (d + 6) 94 [.ref 0, .ref (47 + 2 * s)] (mkH cSh I1 V1 L A1) P := by
  have hnt : nt ≤ 6 := hF.1.2.2.2.2.2
  have hrl : rl' < 6 := by omega
  obtain ⟨s1, s2, s3⟩ := st
  obtain ⟨t1, t2, t3, t4⟩ := c23 hrl
  have ct := CT_S hc.2.1 hnt s1
  have hW : WR I1 V1 A1 19 63 (23 + 4 * rl') (W rl') th' day r := ⟨⟨c19, rfl, rfl, t1, t2, t3, t4, by omega, by decide⟩, s3.2.1, ct.2.1 rl' hr, s2, s3.1, s3.2.2, hk, hF.1.2.2.1, h9⟩
  refine S94 (ce := ce) hW (by omega) hs hn (by rw [s1.1 _ _ (by unfold scI; omega)]; exact hsz) (fun i hi => by rw [s1.2.2 _ (by unfold scA; omega)]; exact hce i hi) d P (fun I2 A2 q1 q2 => ?_)
  exact hP I2 A2 ⟨cS_t hrl s1 q1 q2, fun f hf => by rw [q1 19 f (by omega)]; exact s2 f hf, by rw [q1 63 1 (by omega)]; exact s3.1, s3.2.1, fun p hp => by rw [q2 64 (by omega)]; exact s3.2.2 p hp⟩
theorem ST_f {f k v : Nat} {j : Nat} (st : ST I V A day I1 V1 A1 rl th (uN (R j) f v)) : ST I V A day (up2 I1 19 f (nI k)) V1 A1 rl th (uN (R j) f k) := by
  obtain ⟨s1, s2, s3⟩ := st
  refine ⟨cS_trans s1 ⟨fun b g hb => up2_a (by unfold scI at hb; omega), fun _ _ _ => rfl, fun _ _ => rfl⟩, ?_, by rw [up2_a (by omega)]; exact s3.1, s3.2.1, s3.2.2⟩
  have := up2_six (f := f) (v := k) s2
  rw [uN_u] at this
  exact this
theorem ST_g {k v : Nat} (st : ST I V A day I1 V1 A1 v th r) : ST I V A day I1 (up2 V1 63 2 (23 + 4 * k)) A1 k th r := by
  obtain ⟨s1, s2, s3⟩ := st
  exact ⟨cS_trans s1 ⟨fun _ _ _ => rfl, fun b g hb => up2_a hb, fun _ _ => rfl⟩, s2, s3.1, up2_s, s3.2.2⟩
theorem ST_t {k p v : Nat} (st : ST I V A day I1 V1 A1 rl (upT th p v) r) : ST I V A day I1 V1 (upA A1 64 (upd (A1 64) p (nI k))) rl (upT th p k) r := by
  obtain ⟨s1, s2, s3⟩ := st
  refine ⟨cS_trans s1 ⟨fun _ _ _ => rfl, fun _ _ _ => rfl, fun b hb => upA_n (by unfold scA at hb; omega)⟩, s2, s3.1, s3.2.1, fun q hq => ?_⟩
  rw [upA_s]
  unfold upT
  by_cases c : q = p
  · rw [c, upd_s, if_pos rfl]
  · rw [upd_n c, if_neg c]
    have := s3.2.2 q hq
    unfold upT at this
    rw [if_neg c] at this
    exact this
theorem S93_y {q : Nat} (h : q ≤ 6 ∨ (10 ≤ q ∧ q < 34)) (d : Nat) (h' : MH) (P : MP) : mRun (d + 1) 93 [.int (nI q)] h' P = P (some (.int 1)) h' := by
  by_cases c : 6 < q
  · have c1 : ¬ q < 10 := by omega
    have c2 : q < 34 := by omega
    simp (disch := first | assumption | exact mnl_i | exact mnl_r | exact mnl_n | exact mnl_0 | omega) only [↓reduceIte, tolS, E93_0, E93_4, E93_10, E93_16, E93_22, E93_26, E93_27, B93, q_neg, q_gt, q_lt, c, c1]
    rw [show (34 : Int32) = nI 34 by decide]
    simp (disch := first | assumption | exact mnl_i | exact mnl_r | exact mnl_n | exact mnl_0 | omega) only [↓reduceIte, q_ll, c2]
  · simp (disch := first | assumption | exact mnl_i | exact mnl_r | exact mnl_n | exact mnl_0 | omega) only [↓reduceIte, tolS, E93_0, E93_4, E93_10, E93_16, E93_22, E93_26, E93_27, B93, q_neg, q_gt, c]
end N7
