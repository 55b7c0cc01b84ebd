/-! tells: airs in the class; the reference's bits -/
def acN (x : Nat → Int32) : Nat → Nat × Int32
  | 0 => (0, -1)
  | i + 1 => if x (99 - i) = -1 then ((acN x i).1 + 1, nI (99 - i)) else acN x i
section N3
variable {I I' A A' I1 A1 I2 A2 : TI} {V V' V1 : TV} {L L' : Nat → Int64} {nt many day rl t : Nat} {R : Nat → Nat → Nat} {th th' : Nat → Nat} {W : Nat → Nat → List Int32} {w : Nat → List Int32} {r : Nat → Nat} {ce : Nat → Int32} {e : TE}
theorem acN_le {x : Nat → Int32} : ∀ i, (acN x i).1 ≤ i := by
  intro i
  induction i with
  | zero => exact Nat.le_refl _
  | succ i ih =>
    simp only [acN]
    split
    · show (acN x i).1 + 1 ≤ i + 1; omega
    · omega
theorem S95 {sr : Nat} (hsr : cSh[sr]? = some sSheet) (x : Nat → Int32) (Inv : TI → TV → TI → Prop) (InvK : Nat → TI → TV → TI → Prop)
    (hput : ∀ k, k < 100 → ∀ I1 V1 A1, Inv I1 V1 A1 → InvK k (up2 I1 19 4 (nI k)) V1 A1)
    (h94 : ∀ k, k < 100 → ∀ I1 V1 A1, InvK k I1 V1 A1 → ∀ d P, (∀ I2 A2, Inv I2 V1 A2 → P (some (.int (x k))) (mkH cSh I2 V1 L A2)) → mRun (d + 6) 94 [.ref 0, .ref sr] (mkH cSh I1 V1 L A1) P)
    {w0 : Nat} (hw : w0 < 2 ^ 31) (d : Nat) (P : MP) (h0 : Inv I V A) (hP : ∀ I2 V2 A2, Inv I2 V2 A2 → P (some (.int (if w0 = 4 then nI (acN x 100).1 else (acN x 100).2))) (mkH cSh I2 V2 L A2)) :
    mRun (d + 7) 95 [.ref 0, .ref sr, .int (nI w0)] (mkH cSh I V L A) P := by
  have h19 := c19
  have e99 : (99 : Int32) = nI (100 - 0) + (-1) := by decide
  simp (disch := first | assumption | exact mnl_i | exact mnl_r | exact mnl_n | exact mnl_0 | omega) only [↓reduceIte, tolS, E95_0, B95, cShG]
  rw [e99]
  refine up_loop 100 (fun i (s' : TI × TV × TI) => mFr (d + 6) 95 9 [some (.ref 0), some (.ref sr), some (.int (nI w0)), some (.int (nI (acN x i).1)), some (.int (acN x i).2), some (.int (nI (100 - i) + (-1)))] [] (mkH cSh s'.1 s'.2.1 L s'.2.2) P) (fun i s' => Inv s'.1 s'.2.1 s'.2.2) (fun i s' hk hi ih => ?_) (fun s' hi => ?_) (I, V, A) h0
  · obtain ⟨I3, V3, A3⟩ := s'
    replace hi : Inv I3 V3 A3 := hi
    have hk' : 99 - i < 100 := by omega
    have hi4 := hput (99 - i) hk' I3 V3 A3 hi
    have u3 : nI (100 - i) + (-1) = nI (99 - i) := by rw [nI_dn1 (by omega), show 100 - i - 1 = 99 - i by omega]
    have u4 : 100 - (i + 1) = 99 - i := by omega
    have hle := acN_le (x := x) i
    show mFr (d + 6) 95 9 [some (.ref 0), some (.ref sr), some (.int (nI w0)), some (.int (nI (acN x i).1)), some (.int (acN x i).2), some (.int (nI (100 - i) + (-1)))] [] (mkH cSh I3 V3 L A3) P
    rw [u3]
    simp (disch := first | assumption | exact mnl_i | exact mnl_r | exact mnl_n | exact mnl_0 | omega) only [↓reduceIte, tolS, E95_9, E95_14.1, E95_14.2.1, E95_14.2.2.1, E95_14.2.2.2.1, E95_14.2.2.2.2.1, E95_14.2.2.2.2.2.1, E95_14.2.2.2.2.2.2.1, E95_14.2.2.2.2.2.2.2.1, cShG, kRider, h19, q_neg]
    refine h94 (99 - i) hk' _ V3 A3 hi4 _ _ (fun I5 A5 hi5 => ?_)
    have ih' := ih (I5, V3, A5) hi5
    simp only [acN, u4] at ih'
    by_cases c : x (99 - i) = -1
    · rw [if_pos c] at ih'
      rw [c]
      simp (disch := first | assumption | exact mnl_i | exact mnl_r | exact mnl_n | exact mnl_0 | omega) only [↓reduceIte, tolS, E95_14.2.2.2.2.2.2.2.2.1, E95_14.2.2.2.2.2.2.2.2.2, E95_32, q_add]
      simp (disch := first | assumption | exact mnl_i | exact mnl_r | exact mnl_n | exact mnl_0 | omega) only [↓reduceIte, tolS, E95_39]
      exact ih'
    · rw [if_neg c] at ih'
      simp (disch := first | assumption | exact mnl_i | exact mnl_r | exact mnl_n | exact mnl_0 | omega) only [↓reduceIte, tolS, E95_14.2.2.2.2.2.2.2.2.1, E95_14.2.2.2.2.2.2.2.2.2, c]
      simp (disch := first | assumption | exact mnl_i | exact mnl_r | exact mnl_n | exact mnl_0 | omega) only [↓reduceIte, tolS, E95_39]
      exact ih'
  · obtain ⟨I3, V3, A3⟩ := s'
    have hneg : nI (100 - 100) + (-1) < 0 := by decide
    have fin := hP I3 V3 A3 hi
    by_cases c : w0 = 4
    · rw [if_pos c] at fin
      simp (disch := first | assumption | exact mnl_i | exact mnl_r | exact mnl_n | exact mnl_0 | omega) only [↓reduceIte, tolS, E95_9, E95_45, E95_50, E95_56, hneg, q_eq, c]
      exact fin
    · rw [if_neg c] at fin
      simp (disch := first | assumption | exact mnl_i | exact mnl_r | exact mnl_n | exact mnl_0 | omega) only [↓reduceIte, tolS, E95_9, E95_45, E95_54, E95_56, hneg, q_eq, c]
      exact fin
theorem M172 {q s n : Nat} (hW : WM I A q rl w th day r) (hok : rOk r) (hq : q < 5) (hs : s < 4) (hn : n ≤ 40) (hsz : A 21 s = nI n) (hce : ∀ i, i < 40 → A 22 (40 * s + i) = ce i) (d : Nat) (P : MP) (hP : ∀ I2 A2, mkp I I2 → (∀ b, b ≠ 13 → b ≠ 14 → A2 b = A b) → P (some (.int (if fdN (airN w th day r) ce n = -1 then 1 else 0))) (mkH dSh I2 V L A2)) : mRun (d + 8) 172 [.ref 0, .int (nI s), .int (nI q)] (mkH dSh I V L A) P := by
  simp (disch := first | assumption | exact mnl_i | exact mnl_r | exact mnl_n | exact mnl_0 | omega) only [↓reduceIte, tolS, E172_0.1, E172_0.2.1, E172_0.2.2.1, E172_0.2.2.2.1, B172, dShG]
  refine M171 hW hok hq hs hn hsz hce _ _ (fun I2 A2 q1 q2 => ?_)
  have fin := hP I2 A2 q1 q2
  by_cases c : fdN (airN w th day r) ce n = -1
  · rw [if_pos c] at fin
    rw [c]
    simp (disch := first | assumption | exact mnl_i | exact mnl_r | exact mnl_n | exact mnl_0 | omega) only [↓reduceIte, tolS, E172_0.2.2.2.2.1, E172_0.2.2.2.2.2, E172_10, E172_15]
    exact fin
  · rw [if_neg c] at fin
    simp (disch := first | assumption | exact mnl_i | exact mnl_r | exact mnl_n | exact mnl_0 | omega) only [↓reduceIte, tolS, E172_0.2.2.2.2.1, E172_0.2.2.2.2.2, E172_14, E172_15, c]
    exact fin
end N3
