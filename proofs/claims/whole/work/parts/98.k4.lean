/-! riders() on both sides -/
/-- who came of m rows from place a on: the answer, who there is -/
def rdr (ce : Nat → Int32) (z : Nat) : Nat → Nat → Nat × (Nat → Nat → Nat) → Nat → Int32 × (Nat × (Nat → Nat → Nat))
  | 0, _, s, c => (nI c, s)
  | m + 1, a, s, c => if a + 3 ≤ z then rdr ce z m (a + 3) (ad s (ce a) (ce (a + 1)) (ce (a + 2))) (if resA s.1 (ce a) (ce (a + 1)) (ce (a + 2)) < 0 then c else c + 1) else (-12, s)
section K4
variable {I I' A A' : TI} {V V' : TV} {L L' : Nat → Int64} {nt many day rl : Nat} {R : Nat → Nat → Nat} {th : Nat → Nat} {W : Nat → Nat → List Int32} {e : TE}
theorem S24 {j q : Nat} (hj : j < 4) (hq : q < 40) (d : Nat) (P : MP) : mRun (d + 1) 24 [.ref (47 + 2 * j), .int (nI q)] (mkH cSh I V L A) P = P (some (.int (A (48 + 2 * j) q))) (mkH cSh I V L A) := by
  obtain ⟨t1, t2⟩ := c47 hj
  have e1 : 47 + 2 * j + 1 = 48 + 2 * j := by omega
  simp (disch := first | assumption | exact mnl_i | exact mnl_r | exact mnl_n | exact mnl_0 | omega) only [↓reduceIte, E24_0, E24_4, E24_13, E24_22, E24_23, B24, kSheet, e1, kA t2, q_neg, nI_d, q_ll, hq, pix_nI]
theorem FB_ad {s : Nat × (Nat → Nat → Nat)} (hF : FB nt s.1 s.2 th day rl e) (k n p : Int32) : FB nt (ad s k n p).1 (ad s k n p).2 th day rl e := by
  unfold ad
  by_cases c : vkB k n p = true ∧ s.1 < 5
  · rw [if_pos c]
    obtain ⟨c1, c2⟩ := c
    unfold vkB at c1
    simp only [Bool.and_eq_true, decide_eq_true_eq] at c1
    obtain ⟨⟨⟨⟨⟨x1, x2⟩, x3⟩, x4⟩, x5⟩, x6⟩ := c1
    have cl : ∀ (v : Int32) (n : Nat), n < 2 ^ 31 → ¬ v < 0 → v < nI n → v.toNatClampNeg < n := by
      intro v n hn h1 h2
      obtain ⟨j, hj, rfl⟩ := nI_of h1
      rw [clN hj]
      exact (nI_ltI hj hn).mp h2
    exact FB_new hF (cl k 6 (by omega) x1 x2) (cl n 10 (by omega) x3 x4) (cl p 10 (by omega) x5 x6) c2
  · rw [if_neg c]; exact hF
theorem S109_loop {j z a0 n : Nat} {ce : Nat → Int32} (hj : j < 4) (hz2 : z ≤ 40) (hn5 : n ≤ 5) (l1 l2 : Option Value) (d : Nat) (P : MP) : ∀ (m k a c : Nat) (s : Nat × (Nat → Nat → Nat)) (I : TI) (l8 : Option Value), k + m = n → a = a0 + 3 * k → c ≤ k → a0 < 2 ^ 31 → (k = 0 ∨ a ≤ 40) → FB nt s.1 s.2 th day rl e → CB I V A nt W s.1 s.2 th day rl e → I (47 + 2 * j) 2 = nI z → (∀ i, i < 40 → A (48 + 2 * j) i = ce i) →
    (∀ I', FB nt (rdr ce z m a s c).2.1 (rdr ce z m a s c).2.2 th day rl e → CB I' V A nt W (rdr ce z m a s c).2.1 (rdr ce z m a s c).2.2 th day rl e → P (some (.int (rdr ce z m a s c).1)) (mkH cSh I' V L A)) →
    mFr (d + 4) 109 65 [some (.ref 0), l1, l2, some (.int (nI a0)), some (.int (nI n)), some (.ref (47 + 2 * j)), some (.int (nI c)), some (.int (nI k)), l8] [] (mkH cSh I V L A) P := by
  obtain ⟨t1, t2⟩ := c47 hj
  intro m
  induction m with
  | zero =>
    intro k a c s I l8 hk ha hck ha0 hka hF hc hz hce hP
    have hlt : ¬ k < n := by omega
    simp (disch := first | assumption | exact mnl_i | exact mnl_r | exact mnl_n | exact mnl_0 | omega) only [↓reduceIte, tolS, E109_65, E109_135, q_ll, hlt]
    exact hP I hF hc
  | succ m ih =>
    intro k a c s I l8 hk ha hck ha0 hka hF hc hz hce hP
    have hlt : k < n := by omega
    have e3 : (3 : Int32) * nI k = nI (3 * k) := q_mul.2.2.1 k
    by_cases c3 : a + 3 ≤ z
    · have hin : a0 + 3 * k + 3 ≤ z := by omega
      have p0 : a0 + 3 * k < 40 := by omega
      have p1 : a0 + 3 * k + 1 < 40 := by omega
      have p2 : a0 + 3 * k + 2 < 40 := by omega
      simp only [rdr, if_pos c3] at hP
      rw [ha] at hP
      have g0 := hce _ p0
      have g1 := hce _ p1
      have g2 := hce _ p2
      simp (disch := first | assumption | exact mnl_i | exact mnl_r | exact mnl_n | exact mnl_0 | omega) only [↓reduceIte, tolS, E109_65, E109_72.1, E109_72.2.1, E109_72.2.2.1, E109_72.2.2.2.1, E109_72.2.2.2.2.1, E109_72.2.2.2.2.2.1, E109_72.2.2.2.2.2.2.1, E109_72.2.2.2.2.2.2.2.1, E109_72.2.2.2.2.2.2.2.2.1, E109_72.2.2.2.2.2.2.2.2.2.1, E109_72.2.2.2.2.2.2.2.2.2.2.1, q_ll, hlt, e3, q_aa, kSheet]
      refine Eq.mpr (S23_y (m := 3) hj hz hz2 hin _ _) ?_
      simp (disch := first | assumption | exact mnl_i | exact mnl_r | exact mnl_n | exact mnl_0 | omega) only [↓reduceIte, tolS, E109_72.2.2.2.2.2.2.2.2.2.2.2, E109_94.1, E109_94.2.1, E109_94.2.2.1, E109_94.2.2.2.1, E109_94.2.2.2.2.1, E109_94.2.2.2.2.2.1, E109_94.2.2.2.2.2.2.1, E109_94.2.2.2.2.2.2.2.1, E109_94.2.2.2.2.2.2.2.2.1, E109_94.2.2.2.2.2.2.2.2.2.1, E109_94.2.2.2.2.2.2.2.2.2.2.1, E109_94.2.2.2.2.2.2.2.2.2.2.2.1, E109_94.2.2.2.2.2.2.2.2.2.2.2.2.1, E109_94.2.2.2.2.2.2.2.2.2.2.2.2.2.1, E109_94.2.2.2.2.2.2.2.2.2.2.2.2.2.2.1, E109_94.2.2.2.2.2.2.2.2.2.2.2.2.2.2.2.1, E109_94.2.2.2.2.2.2.2.2.2.2.2.2.2.2.2.2.1, E109_94.2.2.2.2.2.2.2.2.2.2.2.2.2.2.2.2.2.1, n10, cShG, kSheet, q_add, S24 hj p0, S24 hj p1, S24 hj p2, g0, g1, g2]
      refine S63 hF hc _ _ _ _ _ (fun I1 q1 q2 => ?_)
      have hz' : I1 (47 + 2 * j) 2 = nI z := by
        have x1 := (q1.2.2.2.2 j hj).2.1
        have x2 := (hc.2.2.2.2 j hj).2.1
        rw [x1, ← x2]; exact hz
      have go : ∀ c', c' ≤ k + 1 → c' = (if resA s.1 (ce (a0 + 3 * k)) (ce (a0 + 3 * k + 1)) (ce (a0 + 3 * k + 2)) < 0 then c else c + 1) → mFr (d + 4) 109 129 [some (.ref 0), l1, l2, some (.int (nI a0)), some (.int (nI n)), some (.ref (47 + 2 * j)), some (.int (nI c')), some (.int (nI k)), some (.int (nI (a0 + 3 * k)))] [] (mkH cSh I1 V L A) P := by
        intro c' hc' e'
        rw [← e'] at hP
        simp (disch := first | assumption | exact mnl_i | exact mnl_r | exact mnl_n | exact mnl_0 | omega) only [E109_129, q_add]
        exact ih (k + 1) (a0 + 3 * k + 3) c' _ I1 _ (by omega) (by omega) hc' ha0 (Or.inr (by omega)) q2 q1 hz' hce hP
      by_cases cr : resA s.1 (ce (a0 + 3 * k)) (ce (a0 + 3 * k + 1)) (ce (a0 + 3 * k + 2)) < 0
      · simp (disch := first | assumption | exact mnl_i | exact mnl_r | exact mnl_n | exact mnl_0 | omega) only [↓reduceIte, tolS, E109_94.2.2.2.2.2.2.2.2.2.2.2.2.2.2.2.2.2.2, cr]
        exact go c (by omega) (by rw [if_pos cr])
      · simp (disch := first | assumption | exact mnl_i | exact mnl_r | exact mnl_n | exact mnl_0 | omega) only [↓reduceIte, tolS, E109_94.2.2.2.2.2.2.2.2.2.2.2.2.2.2.2.2.2.2, E109_126, cr, q_add]
        exact go (c + 1) (by omega) (by rw [if_neg cr])
    · simp only [rdr, if_neg c3] at hP
      simp (disch := first | assumption | exact mnl_i | exact mnl_r | exact mnl_n | exact mnl_0 | omega) only [↓reduceIte, tolS, E109_65, E109_72.1, E109_72.2.1, E109_72.2.2.1, E109_72.2.2.2.1, E109_72.2.2.2.2.1, E109_72.2.2.2.2.2.1, E109_72.2.2.2.2.2.2.1, E109_72.2.2.2.2.2.2.2.1, E109_72.2.2.2.2.2.2.2.2.1, E109_72.2.2.2.2.2.2.2.2.2.1, E109_72.2.2.2.2.2.2.2.2.2.2.1, q_ll, hlt, e3, q_aa, kSheet]
      refine Eq.mpr (S23_n (m := 3) hj hz hz2 (by omega) (Or.inr ⟨a0 + 3 * k, by omega, by omega, rfl⟩) _ _) ?_
      simp (disch := first | assumption | exact mnl_i | exact mnl_r | exact mnl_n | exact mnl_0 | omega) only [↓reduceIte, tolS, E109_72.2.2.2.2.2.2.2.2.2.2.2, E109_91]
      exact hP I hF hc
end K4
