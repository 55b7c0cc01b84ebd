/-! tells: the class supposes -/
section N2
variable {I I' A A' I1 A1 I2 A2 : TI} {V V' V1 : TV} {L L' : Nat → Int64} {nt many day rl t : Nat} {R : Nat → Nat → Nat} {th th' : Nat → Nat} {W : Nat → Nat → List Int32} {w : Nat → List Int32} {r : Nat → Nat} {ce : Nat → Int32} {e : TE}
theorem S97_1 {k : Nat} (d : Nat) (P : MP) : mRun (d + 1) 97 [.ref 0, .int (nI 1), .int (nI k)] (mkH cSh I V L A) P = P none (mkH cSh (up2 I 19 0 (nI k)) V L A) := by
  have h19 := c19
  simp (disch := first | assumption | exact mnl_i | exact mnl_r | exact mnl_n | exact mnl_0 | omega) only [↓reduceIte, tolS, E97_0, E97_40, E97_51, E97_62, E97_73, E97_83, E97_94, E97_106, B97, cShG, kRider, q_eq, Nat.reduceEqDiff]
theorem S97_2 {k : Nat} (d : Nat) (P : MP) : mRun (d + 1) 97 [.ref 0, .int (nI 2), .int (nI k)] (mkH cSh I V L A) P = P none (mkH cSh (up2 I 19 1 (nI k)) V L A) := by
  have h19 := c19
  simp (disch := first | assumption | exact mnl_i | exact mnl_r | exact mnl_n | exact mnl_0 | omega) only [↓reduceIte, tolS, E97_0, E97_40, E97_51, E97_62, E97_73, E97_83, E97_94, E97_106, B97, cShG, kRider, q_eq, Nat.reduceEqDiff]
theorem S97_3 {k : Nat} (d : Nat) (P : MP) : mRun (d + 1) 97 [.ref 0, .int (nI 3), .int (nI k)] (mkH cSh I V L A) P = P none (mkH cSh (up2 I 19 2 (nI k)) V L A) := by
  have h19 := c19
  simp (disch := first | assumption | exact mnl_i | exact mnl_r | exact mnl_n | exact mnl_0 | omega) only [↓reduceIte, tolS, E97_0, E97_40, E97_51, E97_62, E97_73, E97_83, E97_94, E97_106, B97, cShG, kRider, q_eq, Nat.reduceEqDiff]
theorem S97_6 {k : Nat} (ht : I 0 3 = nI nt) (hn : nt ≤ 6) (hk : k < nt) (d : Nat) (P : MP) : mRun (d + 2) 97 [.ref 0, .int (nI 6), .int (nI k)] (mkH cSh I V L A) P = P none (mkH cSh I (up2 V 63 2 (23 + 4 * k)) L A) := by
  have hlt : 23 + 4 * k < 900 := by omega
  simp (disch := first | assumption | exact mnl_i | exact mnl_r | exact mnl_n | exact mnl_0 | omega) only [↓reduceIte, tolS, E97_0, E97_73, E97_83, E97_106, B97, cShG, cShP, kRoad, q_eq, Nat.reduceEqDiff, S70_in ht hn hk, hlt]
theorem S97_t {k p : Nat} (hp : p < 24) (d : Nat) (P : MP) : mRun (d + 2) 97 [.ref 0, .int (nI (p + 10)), .int (nI k)] (mkH cSh I V L A) P = P none (mkH cSh I V L (upA A 64 (upd (A 64) p (nI k)))) := by
  have h18 := fun d v P => S18 (I := I) (V := V) (L := L) (A := A) (b := 63) rfl rfl hp d v P
  have e10 : nI (p + 10) - 10 = nI p := by
    rw [n10i, pk_sub (by omega), Nat.add_sub_cancel]
  have m1 : ¬ p + 10 = 1 := by omega
  have m2 : ¬ p + 10 = 2 := by omega
  have m3 : ¬ p + 10 = 3 := by omega
  have m4 : ¬ p + 10 = 4 := by omega
  have m5 : ¬ p + 10 = 5 := by omega
  have m6 : ¬ p + 10 = 6 := by omega
  simp (disch := first | assumption | exact mnl_i | exact mnl_r | exact mnl_n | exact mnl_0 | omega) only [↓reduceIte, tolN, tolS, E97_0, E97_94, E97_106, B97, cShG, q_eq, m1, m2, m3, m4, m5, m6, e10, h18]
def bitN (x : Nat → Int32) : Nat → Int32
  | 0 => 0
  | k + 1 => if x k = -1 then bitN x k ||| ((1 : Int32) <<< (nI k &&& 31)) else bitN x k
theorem S96_loop {n w0 s : Nat} (hn : n ≤ 31) (hw : w0 < 2 ^ 31) (x : Nat → Int32) (Inv : TI → TV → TI → Prop) (InvK : Nat → TI → TV → TI → Prop) {sr : Nat} (hsr : cSh[sr]? = some sSheet)
    (h97 : ∀ k, k < n → ∀ I1 V1 A1, Inv I1 V1 A1 → ∃ I2 V2 A2, (∀ d P, mRun (d + 2) 97 [.ref 0, .int (nI w0), .int (nI k)] (mkH cSh I1 V1 L A1) P = P none (mkH cSh I2 V2 L A2)) ∧ InvK k I2 V2 A2)
    (h94 : ∀ k, k < n → ∀ I1 V1 A1, InvK k I1 V1 A1 → ∀ d P, (∀ I2 A2, Inv I2 V1 A2 → P (some (.int (x k))) (mkH cSh I2 V1 L A2)) → mRun (d + 6) 94 [.ref 0, .ref sr] (mkH cSh I1 V1 L A1) P)
    (d : Nat) (P : MP) (h0 : Inv I V A) (hP : ∀ I2 V2 A2, Inv I2 V2 A2 → P (some (.int (bitN x n))) (mkH cSh I2 V2 L A2)) :
    mFr (d + 6) 96 32 [some (.ref 0), some (.ref sr), some (.int (nI w0)), some (.int (nI n)), some (.int 0), some (.int 0)] [] (mkH cSh I V L A) P := by
  refine up_loop n (fun k (s' : TI × TV × TI) => mFr (d + 6) 96 32 [some (.ref 0), some (.ref sr), some (.int (nI w0)), some (.int (nI n)), some (.int (bitN x k)), some (.int (nI k))] [] (mkH cSh s'.1 s'.2.1 L s'.2.2) P) (fun k s' => Inv s'.1 s'.2.1 s'.2.2) (fun k s' hk hi ih => ?_) (fun s' hi => ?_) (I, V, A) h0
  · obtain ⟨I3, V3, A3⟩ := s'
    replace hi : Inv I3 V3 A3 := hi
    obtain ⟨I4, V4, A4, e1, hi4⟩ := h97 k hk I3 V3 A3 hi
    simp (disch := first | assumption | exact mnl_i | exact mnl_r | exact mnl_n | exact mnl_0 | omega) only [↓reduceIte, tolS, E96_32, q_ll, hk]
    simp (disch := first | assumption | exact mnl_i | exact mnl_r | exact mnl_n | exact mnl_0 | omega) only [↓reduceIte, tolS, E96_38.1, E96_38.2.1, E96_38.2.2.1, E96_38.2.2.2.1, cShG]
    rw [e1]
    simp (disch := first | assumption | exact mnl_i | exact mnl_r | exact mnl_n | exact mnl_0 | omega) only [↓reduceIte, tolN, tolS, E96_38.2.2.2.2.1, E96_38.2.2.2.2.2.1, E96_38.2.2.2.2.2.2.1, E96_38.2.2.2.2.2.2.2.1, cShG]
    refine h94 k hk I4 V4 A4 hi4 _ _ (fun I5 A5 hi5 => ?_)
    have ih' := ih (I5, V4, A5) hi5
    simp only [bitN] at ih'
    by_cases c : x k = -1
    · rw [if_pos c] at ih'
      rw [c]
      simp (disch := first | assumption | exact mnl_i | exact mnl_r | exact mnl_n | exact mnl_0 | omega) only [↓reduceIte, tolS, E96_38.2.2.2.2.2.2.2.2.1, E96_38.2.2.2.2.2.2.2.2.2, E96_54]
      simp (disch := first | assumption | exact mnl_i | exact mnl_r | exact mnl_n | exact mnl_0 | omega) only [↓reduceIte, tolS, E96_63, q_add]
      exact ih'
    · rw [if_neg c] at ih'
      simp (disch := first | assumption | exact mnl_i | exact mnl_r | exact mnl_n | exact mnl_0 | omega) only [↓reduceIte, tolS, E96_38.2.2.2.2.2.2.2.2.1, E96_38.2.2.2.2.2.2.2.2.2, c]
      simp (disch := first | assumption | exact mnl_i | exact mnl_r | exact mnl_n | exact mnl_0 | omega) only [↓reduceIte, tolS, E96_63, q_add]
      exact ih'
  · obtain ⟨I3, V3, A3⟩ := s'
    have e1 : ¬ n < n := by omega
    simp (disch := first | assumption | exact mnl_i | exact mnl_r | exact mnl_n | exact mnl_0 | omega) only [↓reduceIte, tolS, E96_32, E96_69, q_ll, e1]
    exact hP I3 V3 A3 hi
end N2
