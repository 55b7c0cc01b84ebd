/-! cell, taken -/
section J5
variable {I I' A A' : TI} {V V' : TV} {L L' : Nat → Int64} {nt many day rl : Nat} {R : Nat → Nat → Nat} {th : Nat → Nat} {W : Nat → Nat → List Int32} {e : TE}
def cv (so v : Int32) : Int32 := if so = 0 then v.toInt8.toInt32 else if so = 1 then v.toInt16.toInt32 else v
theorem S23_y {j z q m : Nat} (hj : j < 4) (hz : I (47 + 2 * j) 2 = nI z) (hz2 : z ≤ 40) (h : q + m ≤ z) (d : Nat) (P : MP) : mRun (d + 1) 23 [.ref (47 + 2 * j), .int (nI q), .int (nI m)] (mkH cSh I V L A) P = P (some (.int 1)) (mkH cSh I V L A) := by
  have t1 := (c47 hj).1
  have h1 : ¬ z < m := by omega
  have h2 : ¬ z - m < q := by omega
  have h3 : m ≤ z := by omega
  simp (disch := first | assumption | exact mnl_i | exact mnl_r | exact mnl_n | exact mnl_0 | omega) only [↓reduceIte, E23_0, E23_4, E23_8, E23_16, E23_26, E23_30, E23_31, B23, kSheet, q_neg, hz, q_ll, h1, q_ss, h2]
theorem S23_n {j z m : Nat} {i : Int32} (hj : j < 4) (hz : I (47 + 2 * j) 2 = nI z) (hz2 : z ≤ 40) (hm : m ≤ 3) (h : i < 0 ∨ ∃ q, z < q + m ∧ q < 2 ^ 31 ∧ i = nI q) (d : Nat) (P : MP) : mRun (d + 1) 23 [.ref (47 + 2 * j), .int i, .int (nI m)] (mkH cSh I V L A) P = P (some (.int 0)) (mkH cSh I V L A) := by
  have t1 := (c47 hj).1
  rcases h with h | ⟨q, hq, hq2, rfl⟩
  · simp (disch := first | assumption | exact mnl_i | exact mnl_r | exact mnl_n | exact mnl_0 | omega) only [↓reduceIte, E23_0, E23_30, E23_31, B23, kSheet, h]
  · by_cases c : z < m
    · simp (disch := first | assumption | exact mnl_i | exact mnl_r | exact mnl_n | exact mnl_0 | omega) only [↓reduceIte, E23_0, E23_4, E23_8, E23_30, E23_31, B23, kSheet, q_neg, hz, q_ll, c]
    · have h2 : z - m < q := by omega
      have h3 : m ≤ z := by omega
      simp (disch := first | assumption | exact mnl_i | exact mnl_r | exact mnl_n | exact mnl_0 | omega) only [↓reduceIte, E23_0, E23_4, E23_8, E23_16, E23_30, E23_31, B23, kSheet, q_neg, hz, q_ll, c, q_ss, h2]
theorem S25 {j q : Nat} {so : Int32} (hj : j < 4) (hs : I (47 + 2 * j) 1 = so) (hq : q < 40) (d : Nat) (v : Int32) (P : MP) : mRun (d + 1) 25 [.ref (47 + 2 * j), .int (nI q), .int v] (mkH cSh I V L A) P = P none (mkH cSh I V L (upA A (48 + 2 * j) (upd (A (48 + 2 * j)) q (cv so v)))) := by
  obtain ⟨t1, t2⟩ := c47 hj
  have e1 : 47 + 2 * j + 1 = 48 + 2 * j := by omega
  unfold cv
  by_cases c0 : so = 0
  · rw [if_pos c0]
    simp (disch := first | assumption | exact mnl_i | exact mnl_r | exact mnl_n | exact mnl_0 | omega) only [↓reduceIte, E25_0, E25_4, E25_13, E25_25, E25_44, E25_45, B25, kSheet, e1, kA t2, q_neg, nI_d, q_ll, hq, hs, c0, pix_nI]
  · rw [if_neg c0]
    by_cases c1 : so = 1
    · rw [if_pos c1]
      simp (disch := first | assumption | exact mnl_i | exact mnl_r | exact mnl_n | exact mnl_0 | omega) only [↓reduceIte, E25_0, E25_4, E25_13, E25_30, E25_38, E25_44, E25_45, B25, kSheet, e1, kA t2, q_neg, nI_d, q_ll, hq, hs, c1, n10, pix_nI]
    · rw [if_neg c1]
      simp (disch := first | assumption | exact mnl_i | exact mnl_r | exact mnl_n | exact mnl_0 | omega) only [↓reduceIte, E25_0, E25_4, E25_13, E25_30, E25_43, E25_44, E25_45, B25, kSheet, e1, kA t2, q_neg, nI_d, q_ll, hq, hs, c0, c1, pix_nI]
theorem so_neg {so : Int32} (h : so = -1 ∨ so = 0 ∨ so = 1 ∨ so = 2) : (so < 0) = (so = -1) := by
  rcases h with rfl | rfl | rfl | rfl <;> decide
theorem M188_put {j q : Nat} {so : Int32} (hj : j < 4) (hs : A 20 j = so) (hq : q < 40) (d : Nat) (x i v : Int32) (P : MP) (hP : P (some (.int 1)) (mkH dSh I V L (upA A 22 (upd (A 22) (40 * j + q) (cv so v))))) : mFr d 188 41 [some (.ref 0), some (.int (nI j)), some (.int (nI q)), some (.int v)] [] (mkH dSh I V L A) P := by
  have hx : 40 * j + q < 160 := by omega
  unfold cv at hP
  by_cases c0 : so = 0
  · rw [if_pos c0] at hP
    simp (disch := first | assumption | exact mnl_i | exact mnl_r | exact mnl_n | exact mnl_0 | omega) only [↓reduceIte, E188_41, E188_60, E188_81, dShG, dShR, pix_nI, hs, c0, q_mul, q_aa]
    exact hP
  · rw [if_neg c0] at hP
    by_cases c1 : so = 1
    · rw [if_pos c1] at hP
      simp (disch := first | assumption | exact mnl_i | exact mnl_r | exact mnl_n | exact mnl_0 | omega) only [↓reduceIte, E188_41, E188_65, E188_75, E188_81, dShG, dShR, pix_nI, hs, c1, n10, q_mul, q_aa]
      exact hP
    · rw [if_neg c1] at hP
      simp (disch := first | assumption | exact mnl_i | exact mnl_r | exact mnl_n | exact mnl_0 | omega) only [↓reduceIte, E188_41, E188_65, E188_80, E188_81, dShG, dShR, pix_nI, hs, c0, c1, q_mul, q_aa]
      exact hP
theorem J107 {hC hM : MH} (h : REL hC hM) (d : Nat) (x i v : Int32) : JR (d + 90) 107 188 [.int x, .int i, .int v] hC hM := by
  obtain ⟨I, V, L, A, I', V', L', A', nt, W, many, R, th, day, rl, e, ec, em, hF, hc, hm⟩ := REL_B h
  rw [ec, em]
  unfold JR
  rcases i32_ix x 4 with ⟨j, hj, hj2, rfl⟩ | ho
  · have hlt : 47 + 2 * j < 900 := by omega
    have ht1 := (c47 hj).1
    obtain ⟨s1, s2, s3⟩ := hc.2.2.2.2 j hj
    obtain ⟨u1, u2, u3⟩ := hm.2.2.2.2 j hj
    obtain ⟨hso, hsz⟩ := hF.2.2.2 j hj
    generalize hv : e.2.2.1 j = so at *
    generalize hz : e.2.2.2.1 j = z at *
    by_cases cm : so = -1
    · simp (disch := first | assumption | exact mnl_i | exact mnl_r | exact mnl_n | exact mnl_0 | omega) only [↓reduceIte, tolS, E107_0, E107_15, E107_24, B107, cShG, kSheet, S112_in hj, hlt, s1, cm]
      simp (disch := first | assumption | exact mnl_i | exact mnl_r | exact mnl_n | exact mnl_0 | omega) only [↓reduceIte, tolS, E188_0, E188_10, E188_19, B188, dShG, dShR, M118_in hj, n10, pix_nI, u1, cm, show (-1 : Int32) < 0 by decide]
      exact JR_B hF hc hm
    · have cn : ¬ so < 0 := by rw [so_neg hso]; exact cm
      have out : (i < 0 ∨ ∃ q, z < q + 1 ∧ q < 2 ^ 31 ∧ i = nI q) → mRun (d + 90) 107 [.ref 0, .int (nI j), .int i, .int v] (mkH cSh I V L A) (fun v' h => mRun (d + 90) 188 [.ref 0, .int (nI j), .int i, .int v] (mkH dSh I' V' L' A') (fun v'' h' => JQ v' h v'' h')) := by
        intro hi
        have hw : ∀ d h P, mRun (d + 1) 114 [.int i, .int 0, .int (nI z - 1)] h P = P (some (.int 0)) h := by
          intro d h P
          rcases hi with hi | ⟨q, h1, h2, rfl⟩
          · rw [M114p, if_pos hi]
          · rcases Nat.eq_zero_or_pos z with hz0 | hz0
            · rw [M114p, if_neg (nI_pos h2), hz0, if_pos (m1lt h2)]
            · rw [q_sub.1 z hz0]
              exact M114_out (n := z - 1) rfl (Or.inr ⟨q, by omega, h2, rfl⟩) d h P
        simp (disch := first | assumption | exact mnl_i | exact mnl_r | exact mnl_n | exact mnl_0 | omega) only [↓reduceIte, tolS, E107_0, E107_15, E107_27.1, E107_27.2.1, E107_27.2.2.1, E107_27.2.2.2.1, E107_27.2.2.2.2.1, B107, cShG, kSheet, S112_in hj, hlt, s1, cm]
        refine Eq.mpr (S23_n (m := 1) hj s2 hsz (by omega) hi _ _) ?_
        simp (disch := first | assumption | exact mnl_i | exact mnl_r | exact mnl_n | exact mnl_0 | omega) only [↓reduceIte, tolS, E107_27.2.2.2.2.2, E107_37]
        simp (disch := first | assumption | exact mnl_i | exact mnl_r | exact mnl_n | exact mnl_0 | omega) only [↓reduceIte, tolS, E188_0, E188_10, E188_22, E188_38, B188, dShG, dShR, M118_in hj, n10, pix_nI, u1, u2, cn, hw]
        exact JR_B hF hc hm
      rcases i32_ix i z with ⟨q, hq, hq2, rfl⟩ | hi | ⟨q, hq, hq2, rfl⟩
      · have hq40 : q < 40 := by omega
        have hz1 : nI z - 1 = nI (z - 1) := q_sub.1 z (by omega)
        have hq1 : q ≤ z - 1 := by omega
        have hw := fun d h P => M114_in (y := nI (z - 1)) (n := z - 1) rfl hq1 (by omega) d h P
        simp (disch := first | assumption | exact mnl_i | exact mnl_r | exact mnl_n | exact mnl_0 | omega) only [↓reduceIte, tolS, E107_0, E107_15, E107_27.1, E107_27.2.1, E107_27.2.2.1, E107_27.2.2.2.1, E107_27.2.2.2.2.1, B107, cShG, kSheet, S112_in hj, hlt, s1, cm]
        refine Eq.mpr (S23_y (m := 1) hj s2 hsz (by omega) _ _) ?_
        simp (disch := first | assumption | exact mnl_i | exact mnl_r | exact mnl_n | exact mnl_0 | omega) only [↓reduceIte, tolS, E107_27.2.2.2.2.2, E107_40.1, E107_40.2.1, E107_40.2.2.1, E107_40.2.2.2.1, E107_40.2.2.2.2.1, n10, kSheet, S25 hj s1 hq40, tolN]
        simp (disch := first | assumption | exact mnl_i | exact mnl_r | exact mnl_n | exact mnl_0 | omega) only [↓reduceIte, tolS, tolN, E107_40.2.2.2.2.2.1, E107_40.2.2.2.2.2.2]
        simp (disch := first | assumption | exact mnl_i | exact mnl_r | exact mnl_n | exact mnl_0 | omega) only [↓reduceIte, tolS, E188_0, E188_10, E188_22, B188, dShG, dShR, M118_in hj, n10, pix_nI, u1, u2, cn, hz1, hw]
        refine M188_put hj u1 hq40 _ 0 0 v _ ?_
        refine JR_B (e := setE e j z so (upd (e.2.2.2.2 j) q (cv so v))) (FB_set hF hso hsz) (CB_set hF hc hj (fun _ _ _ => rfl) (fun b hb => upA_n hb) s1 s2 (fun k hk => ?_)) (MB_set hm (fun _ _ => rfl) (fun b _ _ _ _ h5 => upA_n h5) (fun _ _ => rfl) (fun _ _ => rfl) (fun k hk => by rw [upA_s, upd_n (by omega)]) u1 u2 (fun k hk => ?_))
        · rw [upA_s]
          by_cases ck : k = q
          · rw [ck, upd_s, upd_s]
          · rw [upd_n ck, upd_n ck]; exact s3 k hk
        · rw [upA_s]
          by_cases ck : k = q
          · rw [ck, upd_s, upd_s]
          · rw [upd_n (by omega), upd_n ck]; exact u3 k hk
      · exact out (Or.inl hi)
      · exact out (Or.inr ⟨q, by omega, hq2, rfl⟩)
  · simp (disch := first | assumption | exact mnl_i | exact mnl_r | exact mnl_n | exact mnl_0 | omega) only [↓reduceIte, tolS, E107_0, E107_12, B107, cShG, S112_out ho]
    simp (disch := first | assumption | exact mnl_i | exact mnl_r | exact mnl_n | exact mnl_0 | omega) only [↓reduceIte, tolS, E188_0, E188_7, B188, dShG, dShR, M118_out ho]
    exact JR_B hF hc hm
def undB (a b : Nat) : Bool := a == b || b == 0 || (a == 3 && b == 1) || (a == 4 && b == 2)
theorem palen_U {h : MH} {K : Nat → Prop} : palen h 1001 K = K 6 := rfl
theorem pial_U {h : MH} {i : Int32} {K : Int32 → Prop} : pial h 1001 i K = pix i 6 (fun j => K (([-1, 0, 0, 1, 2, 0] : List Int32).getD j 0)) := rfl
theorem pixL {n : Nat} {K : Nat → Prop} (h : n < 2 ^ 31) : (0 < n → pix (0 : Int32) n K = K 0) ∧ (1 < n → pix (1 : Int32) n K = K 1) ∧ (2 < n → pix (2 : Int32) n K = K 2) ∧ (3 < n → pix (3 : Int32) n K = K 3) ∧ (4 < n → pix (4 : Int32) n K = K 4) ∧ (5 < n → pix (5 : Int32) n K = K 5) :=
  ⟨fun g => pix_nI (j := 0) g h, fun g => pix_nI (j := 1) g h, fun g => pix_nI (j := 2) g h, fun g => pix_nI (j := 3) g h, fun g => pix_nI (j := 4) g h, fun g => pix_nI (j := 5) g h⟩
/-- the kinds above a kind, one after the other -/
def upK (a : Nat) : Nat := if a = 3 then 1 else if a = 4 then 2 else 0
theorem S111_loop {b : Nat} (hb : b < 6) (a0 : Int32) (h : MH) (d : Nat) (P : MP) : ∀ (m k a : Nat), k + m = 6 → a < 6 → (if a = 0 then 1 else if a = 3 ∨ a = 4 then 3 else 2) ≤ m → P (some (.int (if undB a b = true then 1 else 0))) h → mFr d 111 4 [some (.int a0), some (.int (nI b)), some (.int (nI a)), some (.int (nI k))] [] h P := by
  intro m
  induction m with
  | zero => intro k a _ _ hm; split at hm <;> first | omega | (split at hm <;> omega)
  | succ m ih =>
    intro k a hk ha hm hP
    have hk6 : k < 6 := by omega
    have h6 : nI a < Int32.ofNat 6 := nI_lt ha (by omega)
    simp (disch := first | assumption | exact mnl_i | exact mnl_r | exact mnl_n | exact mnl_0 | omega) only [↓reduceIte, E111_4, E111_10, E111_14, E111_22, q_lt, hk6, q_neg, palen_U, h6, q_ee]
    by_cases c : a = b
    · subst c
      have hu : undB a a = true := by unfold undB; simp
      rw [if_pos hu] at hP
      simp (disch := first | assumption | exact mnl_i | exact mnl_r | exact mnl_n | exact mnl_0 | omega) only [↓reduceIte, E111_27]
      exact hP
    · rw [if_neg c]
      by_cases c0 : a = 0
      · subst c0
        have hu : ¬ undB 0 b = true := by unfold undB; simp; omega
        rw [if_neg hu] at hP
        have hm1 : (([-1, 0, 0, 1, 2, 0] : List Int32).getD 0 0) = -1 := rfl
        have hlast : mFr d 111 4 [some (.int a0), some (.int (nI b)), some (.int (-1)), some (.int (nI (k + 1)))] [] h P := by
          by_cases ck : k + 1 < 6
          · simp (disch := first | assumption | exact mnl_i | exact mnl_r | exact mnl_n | exact mnl_0 | omega) only [↓reduceIte, E111_4, E111_10, E111_41, q_lt, ck, show (-1 : Int32) < 0 by decide]
            exact hP
          · simp (disch := first | assumption | exact mnl_i | exact mnl_r | exact mnl_n | exact mnl_0 | omega) only [↓reduceIte, E111_4, E111_41, q_lt, ck]
            exact hP
        simp (disch := first | assumption | exact mnl_i | exact mnl_r | exact mnl_n | exact mnl_0 | omega) only [↓reduceIte, E111_29, pial_U, pix_nI, hm1, q_add]
        exact hlast
      · have hval : (([-1, 0, 0, 1, 2, 0] : List Int32).getD a 0) = nI (upK a) := by
          have : ∀ a, a < 6 → a ≠ 0 → (([-1, 0, 0, 1, 2, 0] : List Int32).getD a 0) = nI (upK a) := by decide
          exact this a ha c0
        have hu : undB a b = undB (upK a) b := by
          have : ∀ a, a < 6 → a ≠ 0 → ∀ b, b < 6 → a ≠ b → undB a b = undB (upK a) b := by decide
          exact this a ha c0 b hb c
        rw [hu] at hP
        simp (disch := first | assumption | exact mnl_i | exact mnl_r | exact mnl_n | exact mnl_0 | omega) only [↓reduceIte, E111_29, pial_U, pix_nI, hval, q_add]
        have hup : upK a < 6 := by unfold upK; split <;> first | omega | (split <;> omega)
        refine ih (k + 1) (upK a) (by omega) hup ?_ hP
        have : ∀ a, a < 6 → a ≠ 0 → (if upK a = 0 then 1 else if upK a = 3 ∨ upK a = 4 then 3 else 2) + 1 ≤ (if a = 0 then 1 else if a = 3 ∨ a = 4 then 3 else 2) := by decide
        have := this a ha c0
        omega
theorem M191_loop {b : Nat} (hb : b < 6) (l0 l1 : Option Value) (h : MH) (d : Nat) (P : MP) : ∀ (m a : Nat), a < 6 → (if a = 0 then 0 else if a = 3 ∨ a = 4 then 2 else 1) ≤ m → (∀ z, z < 6 → ((z = b) = (undB a b = true)) → mFr d 191 62 [l0, l1, some (.int (nI b)), some (.int (nI z))] [] h P) → mFr d 191 30 [l0, l1, some (.int (nI b)), some (.int (nI a))] [] h P := by
  intro m
  induction m with
  | zero =>
    intro a ha hm hP
    have c0 : a = 0 := by
      rcases Nat.eq_zero_or_pos a with z | z
      · exact z
      · rw [if_neg (by omega)] at hm
        split at hm <;> omega
    subst c0
    have hP := hP 0 (by omega) (by have : ∀ b, b < 6 → ((0 = b) = (undB 0 b = true)) := by decide
                                   exact this b hb)
    by_cases c : 0 = b
    · simp (disch := first | assumption | exact mnl_i | exact mnl_r | exact mnl_n | exact mnl_0 | omega) only [↓reduceIte, E191_30, q_ee, c]
      rw [← c] at hP ⊢
      exact hP
    · simp (disch := first | assumption | exact mnl_i | exact mnl_r | exact mnl_n | exact mnl_0 | omega) only [↓reduceIte, E191_30, E191_35, q_ee, c, show ¬ (0 : Int32) < nI 0 by decide]
      exact hP
  | succ m ih =>
    intro a ha hm hP
    by_cases c : a = b
    · subst c
      simp (disch := first | assumption | exact mnl_i | exact mnl_r | exact mnl_n | exact mnl_0 | omega) only [↓reduceIte, E191_30]
      exact hP a ha (by have : ∀ b, b < 6 → ((b = b) = (undB b b = true)) := by decide
                        exact this a ha)
    · by_cases c0 : a = 0
      · subst c0
        simp (disch := first | assumption | exact mnl_i | exact mnl_r | exact mnl_n | exact mnl_0 | omega) only [↓reduceIte, E191_30, E191_35, q_ee, c, show ¬ (0 : Int32) < nI 0 by decide]
        exact hP 0 (by omega) (by have : ∀ b, b < 6 → ((0 = b) = (undB 0 b = true)) := by decide
                                  exact this b hb)
      · have hpos : (0 : Int32) < nI a := (nI_ltI (a := 0) (by omega) (by omega)).mpr (by omega)
        have hu : undB a b = undB (upK a) b := by
          have : ∀ a, a < 6 → a ≠ 0 → ∀ b, b < 6 → a ≠ b → undB a b = undB (upK a) b := by decide
          exact this a ha c0 b hb c
        have hup : upK a < 6 := by unfold upK; split <;> first | omega | (split <;> omega)
        have hrec := ih (upK a) hup (by
          have : ∀ a, a < 6 → a ≠ 0 → (if upK a = 0 then 0 else if upK a = 3 ∨ upK a = 4 then 2 else 1) + 1 ≤ (if a = 0 then 0 else if a = 3 ∨ a = 4 then 2 else 1) := by decide
          have := this a ha c0
          omega) (fun z hz he => hP z hz (by rw [hu]; exact he))
        by_cases c3 : a = 3
        · subst c3
          simp (disch := first | assumption | exact mnl_i | exact mnl_r | exact mnl_n | exact mnl_0 | omega) only [↓reduceIte, E191_30, E191_35, E191_39, E191_44, q_ee, c, hpos, q_eq]
          simp (disch := first | assumption | exact mnl_i | exact mnl_r | exact mnl_n | exact mnl_0 | omega) only [E191_58]
          exact hrec
        · by_cases c4 : a = 4
          · subst c4
            simp (disch := first | assumption | exact mnl_i | exact mnl_r | exact mnl_n | exact mnl_0 | omega) only [↓reduceIte, E191_30, E191_35, E191_39, E191_48, E191_53, q_ee, c, hpos, q_eq, Nat.reduceEqDiff]
            simp (disch := first | assumption | exact mnl_i | exact mnl_r | exact mnl_n | exact mnl_0 | omega) only [E191_58]
            exact hrec
          · have hk0 : upK a = 0 := by unfold upK; rw [if_neg c3, if_neg c4]
            rw [hk0] at hrec
            simp (disch := first | assumption | exact mnl_i | exact mnl_r | exact mnl_n | exact mnl_0 | omega) only [↓reduceIte, E191_30, E191_35, E191_39, E191_48, E191_57, q_ee, c, hpos, q_eq, c3, c4]
            simp (disch := first | assumption | exact mnl_i | exact mnl_r | exact mnl_n | exact mnl_0 | omega) only [E191_58]
            exact hrec
theorem J110 {hC hM : MH} (h : REL hC hM) (d : Nat) (x k : Int32) : JR (d + 90) 110 191 [.int x, .int k] hC hM := by
  obtain ⟨I, V, L, A, I', V', L', A', nt, W, many, R, th, day, rl, e, ec, em, hF, hc, hm⟩ := REL_B h
  rw [ec, em]
  unfold JR
  rcases i32_ix k 6 with ⟨b, hb, hb2, rfl⟩ | ho
  · have hb5 : b ≤ 5 := by omega
    have w1 := fun d h P => M114_in (y := 5) (n := 5) rfl hb5 (by omega) d h P
    rcases i32_ix x many with ⟨j, hj, hj2, rfl⟩ | hi
    · have j5 : j < 5 := by have := hF.1.1; omega
      have hlt : 6 + 1 * j < 900 := by omega
      have hrid := c6j j5
      have hk0 := hc.1.2.1 j hj 0 (by omega)
      have hk1 := hc.1.2.1 j hj 1 (by omega)
      have mk0 : A' 2 j = nI (R j 0) := hm.1.2.1 j hj 0 (by omega)
      have mk1 : A' 3 j = nI (R j 1) := hm.1.2.1 j hj 1 (by omega)
      have ha := (hF.1.2.1 j hj).1
      generalize R j 0 = a at *
      simp (disch := first | assumption | exact mnl_i | exact mnl_r | exact mnl_n | exact mnl_0 | omega) only [↓reduceIte, tolS, E110_0, E110_4, E110_13, B110, cShG, q_neg, q_lt, hb, S1_in hc.1.1 hF.1.1 hj, hlt]
      simp (disch := first | assumption | exact mnl_i | exact mnl_r | exact mnl_n | exact mnl_0 | omega) only [↓reduceIte, tolS, E110_29.1, E110_29.2.1, E110_29.2.2.1, E110_29.2.2.2.1, E110_29.2.2.2.2.1, kRider, hk0, B111, E111_0]
      refine S111_loop hb _ _ _ _ 6 0 a rfl (by omega) (by split <;> first | omega | (split <;> omega)) ?_
      have fin : ∀ v : Int32, v = (if undB a b = true then nI (R j 1) else -13) → mRun (d + 90) 191 [.ref 0, .int (nI j), .int (nI b)] (mkH dSh I' V' L' A') (fun v' h' => JQ (some (.int v)) (mkH cSh I V L A) v' h') := by
        intro v hv
        simp (disch := first | assumption | exact mnl_i | exact mnl_r | exact mnl_n | exact mnl_0 | omega) only [↓reduceIte, tolS, E191_0, E191_12, E191_23, B191, dShG, dShR, w1, n10, M116_in hm.1.1 hF.1.1 hj, pix_nI, mk0]
        refine M191_loop hb _ _ _ _ _ 2 a (by omega) (by split <;> first | omega | (split <;> omega)) (fun z hz he => ?_)
        by_cases c : z = b
        · have hu : undB a b = true := by rw [← he]; exact c
          rw [if_pos hu] at hv
          simp (disch := first | assumption | exact mnl_i | exact mnl_r | exact mnl_n | exact mnl_0 | omega) only [↓reduceIte, tolS, E191_62, E191_67, E191_78, dShG, dShR, q_ee, c, pix_nI, mk1]
          rw [hv]
          exact JR_B hF hc hm
        · have hu : ¬ undB a b = true := by rw [← he]; exact c
          rw [if_neg hu] at hv
          simp (disch := first | assumption | exact mnl_i | exact mnl_r | exact mnl_n | exact mnl_0 | omega) only [↓reduceIte, tolS, E191_62, E191_76, E191_78, q_ee, c]
          rw [hv]
          exact JR_B hF hc hm
      by_cases hu : undB a b = true
      · rw [if_pos hu]
        simp (disch := first | assumption | exact mnl_i | exact mnl_r | exact mnl_n | exact mnl_0 | omega) only [↓reduceIte, tolS, E110_29.2.2.2.2.2, E110_40, E110_49, kRider, hk1, n10]
        exact fin _ (by rw [if_pos hu])
      · rw [if_neg hu]
        simp (disch := first | assumption | exact mnl_i | exact mnl_r | exact mnl_n | exact mnl_0 | omega) only [↓reduceIte, tolS, E110_29.2.2.2.2.2, E110_47, E110_49, kRider]
        exact fin _ (by rw [if_neg hu])
    · simp (disch := first | assumption | exact mnl_i | exact mnl_r | exact mnl_n | exact mnl_0 | omega) only [↓reduceIte, tolS, E110_0, E110_4, E110_13, E110_26, B110, cShG, q_neg, q_lt, hb, S1_out hc.1.1 hF.1.1 hi]
      simp (disch := first | assumption | exact mnl_i | exact mnl_r | exact mnl_n | exact mnl_0 | omega) only [↓reduceIte, tolS, E191_0, E191_12, E191_20, B191, dShG, dShR, w1, n10, M116_out hm.1.1 hF.1.1 hi]
      exact JR_B hF hc hm
  · have w1 := fun d h P => M114_out (y := 5) (n := 5) rfl ho d h P
    rcases ho with hi | ⟨q, hq, hq2, rfl⟩
    · simp (disch := first | assumption | exact mnl_i | exact mnl_r | exact mnl_n | exact mnl_0 | omega) only [↓reduceIte, tolS, E110_0, E110_10, B110, hi]
      simp (disch := first | assumption | exact mnl_i | exact mnl_r | exact mnl_n | exact mnl_0 | omega) only [↓reduceIte, tolS, E191_0, E191_9, B191, dShG, dShR, w1]
      exact JR_B hF hc hm
    · have h6 : ¬ q < 6 := by omega
      simp (disch := first | assumption | exact mnl_i | exact mnl_r | exact mnl_n | exact mnl_0 | omega) only [↓reduceIte, tolS, E110_0, E110_4, E110_10, B110, q_neg, q_lt, h6]
      simp (disch := first | assumption | exact mnl_i | exact mnl_r | exact mnl_n | exact mnl_0 | omega) only [↓reduceIte, tolS, E191_0, E191_9, B191, dShG, dShR, w1]
      exact JR_B hF hc hm
end J5
