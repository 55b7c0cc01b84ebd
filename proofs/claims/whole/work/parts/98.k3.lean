/-! copy on both sides -/
theorem i64n {a : Nat} (h : a < 2 ^ 31) : (nI a).toInt64 = Int64.ofNat a := by
  apply Int64.toInt_inj.mp
  rw [Int32.toInt_toInt64, nI_toInt h, Int64.toInt_ofNat_of_lt (by omega)]
theorem lcmp_g {u v : Nat} (hu : u < 2 ^ 63) (hv : v < 2 ^ 63) : (0 < lg_cmp (Int64.ofNat u) (Int64.ofNat v)) = (v < u) := by
  unfold lg_cmp
  have e : (Int64.ofNat u > Int64.ofNat v) = (v < u) := by
    show (Int64.ofNat v < Int64.ofNat u) = _
    rw [Int64.lt_iff_toInt_lt, Int64.toInt_ofNat_of_lt hu, Int64.toInt_ofNat_of_lt hv]
    exact propext ⟨fun z => by omega, fun z => by omega⟩
  by_cases h : v < u
  · rw [if_pos (by rw [e]; exact h)]
    exact propext ⟨fun _ => h, fun _ => by decide⟩
  · rw [if_neg (by rw [e]; exact h)]
    refine propext ⟨fun z => ?_, fun z => absurd z h⟩
    exfalso
    revert z
    split <;> decide
theorem lcmp_l {u v : Nat} (hu : u < 2 ^ 63) (hv : v < 2 ^ 63) : (lg_cmp (Int64.ofNat u) (Int64.ofNat v) < 0) = (u < v) := by
  unfold lg_cmp
  have e : (Int64.ofNat u > Int64.ofNat v) = (v < u) := by
    show (Int64.ofNat v < Int64.ofNat u) = _
    rw [Int64.lt_iff_toInt_lt, Int64.toInt_ofNat_of_lt hu, Int64.toInt_ofNat_of_lt hv]
    exact propext ⟨fun z => by omega, fun z => by omega⟩
  have e2 : (Int64.ofNat u = Int64.ofNat v) = (u = v) := propext ⟨fun z => i64_ofNat hu hv z, fun z => by rw [z]⟩
  by_cases h : v < u
  · rw [if_pos (by rw [e]; exact h)]
    exact propext ⟨fun z => absurd z (by decide), fun z => by omega⟩
  · rw [if_neg (by rw [e]; exact h)]
    by_cases h2 : u = v
    · rw [if_pos (by rw [e2]; exact h2)]
      exact propext ⟨fun z => absurd z (by decide), fun z => by omega⟩
    · rw [if_neg (by rw [e2]; exact h2)]
      exact propext ⟨fun _ => by omega, fun _ => by decide⟩
theorem has_dec (i n : Int32) (z : Nat) : (∃ a m, a < 2 ^ 31 ∧ m < 2 ^ 31 ∧ i = nI a ∧ n = nI m ∧ a + m ≤ z) ∨ (i < 0 ∨ n < 0 ∨ ∃ a m, a < 2 ^ 31 ∧ m < 2 ^ 31 ∧ i = nI a ∧ n = nI m ∧ z < a + m) := by
  by_cases h : i < 0
  · exact Or.inr (Or.inl h)
  · by_cases g : n < 0
    · exact Or.inr (Or.inr (Or.inl g))
    · obtain ⟨a, ha, rfl⟩ := nI_of h
      obtain ⟨m, hm, rfl⟩ := nI_of g
      by_cases c : a + m ≤ z
      · exact Or.inl ⟨a, m, ha, hm, rfl, rfl, c⟩
      · exact Or.inr (Or.inr (Or.inr ⟨a, m, ha, hm, rfl, rfl, by omega⟩))
theorem cpy_up {f : Nat → Int32} {sp dp k : Nat} (h : sp + k < dp ∨ dp + k ≤ sp + k) : upd (va_cpy f f sp dp k) (dp + k) (va_cpy f f sp dp k (sp + k)) = va_cpy f f sp dp (k + 1) := by
  funext x
  rw [pk_cpy_out (j := sp + k) (by omega)]
  by_cases c : x = dp + k
  · rw [c, upd_s, pk_cpy_in (by omega) (by omega)]
    congr 1
    omega
  · rw [upd_n c]
    by_cases c2 : dp ≤ x ∧ x < dp + k
    · rw [pk_cpy_in c2.1 c2.2, pk_cpy_in c2.1 (by omega)]
    · rw [pk_cpy_out (by omega), pk_cpy_out (by omega)]
theorem cpy_dn {f : Nat → Int32} {sp dp k m : Nat} (h : sp < dp) : upd (va_cpy f f (sp + (k + 1)) (dp + (k + 1)) m) (dp + k) (va_cpy f f (sp + (k + 1)) (dp + (k + 1)) m (sp + k)) = va_cpy f f (sp + k) (dp + k) (m + 1) := by
  funext x
  rw [pk_cpy_out (j := sp + k) (by omega)]
  by_cases c : x = dp + k
  · rw [c, upd_s, pk_cpy_in (by omega) (by omega)]
    congr 1
    omega
  · rw [upd_n c]
    by_cases c2 : dp + (k + 1) ≤ x ∧ x < dp + (k + 1) + m
    · rw [pk_cpy_in c2.1 c2.2, pk_cpy_in (by omega) (by omega)]
      congr 1
      omega
    · rw [pk_cpy_out (by omega), pk_cpy_out (by omega)]
section K3
variable {I I' A A' : TI} {V V' : TV} {L L' : Nat → Int64} {nt many day rl : Nat} {R : Nat → Nat → Nat} {th : Nat → Nat} {W : Nat → Nat → List Int32} {e : TE}
theorem S23_n2 {j z : Nat} {i n : Int32} (hj : j < 4) (hz : I (47 + 2 * j) 2 = nI z) (hz2 : z ≤ 40) (h : i < 0 ∨ n < 0 ∨ ∃ a m, a < 2 ^ 31 ∧ m < 2 ^ 31 ∧ i = nI a ∧ n = nI m ∧ z < a + m) (d : Nat) (P : MP) : mRun (d + 1) 23 [.ref (47 + 2 * j), .int i, .int n] (mkH cSh I V L A) P = P (some (.int 0)) (mkH cSh I V L A) := by
  have t1 := (c47 hj).1
  by_cases hi : i < 0
  · simp (disch := first | assumption | exact mnl_i | exact mnl_r | exact mnl_n | exact mnl_0 | omega) only [↓reduceIte, E23_0, E23_30, E23_31, B23, kSheet, hi]
  · by_cases hn : n < 0
    · simp (disch := first | assumption | exact mnl_i | exact mnl_r | exact mnl_n | exact mnl_0 | omega) only [↓reduceIte, E23_0, E23_4, E23_30, E23_31, B23, kSheet, hi, hn]
    · rcases h with h | h | ⟨a, m, ha, hm, rfl, rfl, h⟩
      · exact absurd h hi
      · exact absurd h hn
      · by_cases c : z < m
        · simp (disch := first | assumption | exact mnl_i | exact mnl_r | exact mnl_n | exact mnl_0 | omega) only [↓reduceIte, E23_0, E23_4, E23_8, E23_30, E23_31, B23, kSheet, q_neg, hz, q_ll, c]
        · have h2 : z - m < a := by omega
          have h3 : m ≤ z := by omega
          simp (disch := first | assumption | exact mnl_i | exact mnl_r | exact mnl_n | exact mnl_0 | omega) only [↓reduceIte, E23_0, E23_4, E23_8, E23_16, E23_30, E23_31, B23, kSheet, q_neg, hz, q_ll, c, q_ss, h2]
theorem M189_out {s t zs zt : Nat} {i j n : Int32} (hs : s < 4) (ht : t < 4) (h1 : A 21 s = nI zs) (h2 : A 21 t = nI zt) (hzs : zs ≤ 40) (hzt : zt ≤ 40) (h : (i < 0 ∨ n < 0 ∨ ∃ a m, a < 2 ^ 31 ∧ m < 2 ^ 31 ∧ i = nI a ∧ n = nI m ∧ zs < a + m) ∨ (j < 0 ∨ n < 0 ∨ ∃ a m, a < 2 ^ 31 ∧ m < 2 ^ 31 ∧ j = nI a ∧ n = nI m ∧ zt < a + m)) (d : Nat) (P : MP) (hP : P (some (.int (-12))) (mkH dSh I V L A)) : mFr d 189 56 [some (.ref 0), some (.int (nI s)), some (.int i), some (.int (nI t)), some (.int j), some (.int n), none] [] (mkH dSh I V L A) P := by
  by_cases hn : n < 0
  · simp (disch := first | assumption | exact mnl_i | exact mnl_r | exact mnl_n | exact mnl_0 | omega) only [↓reduceIte, tolS, E189_56, E189_105, hn]
    exact hP
  by_cases hi : i < 0
  · simp (disch := first | assumption | exact mnl_i | exact mnl_r | exact mnl_n | exact mnl_0 | omega) only [↓reduceIte, tolS, E189_56, E189_61, E189_105, hn, hi]
    exact hP
  by_cases hj : j < 0
  · simp (disch := first | assumption | exact mnl_i | exact mnl_r | exact mnl_n | exact mnl_0 | omega) only [↓reduceIte, tolS, E189_56, E189_61, E189_65, E189_105, hn, hi, hj]
    exact hP
  obtain ⟨m, hm, rfl⟩ := nI_of hn
  obtain ⟨a, ha, rfl⟩ := nI_of hi
  obtain ⟨b, hb, rfl⟩ := nI_of hj
  have i1 := i64n ha
  have i2 := i64n hm
  have i3 := i64n hb
  have i4 := i64n (a := zs) (by omega)
  have i5 := i64n (a := zt) (by omega)
  have g1 := lcmp_g (u := a + m) (v := zs) (by omega) (by omega)
  have g2 := lcmp_g (u := b + m) (v := zt) (by omega) (by omega)
  by_cases c1 : zs < a + m
  · simp (disch := first | assumption | exact mnl_i | exact mnl_r | exact mnl_n | exact mnl_0 | omega) only [↓reduceIte, tolS, E189_56, E189_61, E189_65, E189_70, E189_105, dShG, dShR, hn, hi, hj, pix_nI, h1, i1, i2, i4, ← Int64.ofNat_add, g1, c1]
    exact hP
  · have c2 : zt < b + m := by
      rcases h with (h | h | ⟨a', m', ha', hm', e1, e2, h⟩) | (h | h | ⟨a', m', ha', hm', e1, e2, h⟩)
      · exact absurd h hi
      · exact absurd h hn
      · have := (nI_eq ha ha').mp e1
        have := (nI_eq hm hm').mp e2
        omega
      · exact absurd h hj
      · exact absurd h hn
      · have := (nI_eq hb ha').mp e1
        have := (nI_eq hm hm').mp e2
        omega
    simp (disch := first | assumption | exact mnl_i | exact mnl_r | exact mnl_n | exact mnl_0 | omega) only [↓reduceIte, tolS, E189_56, E189_61, E189_65, E189_70, E189_87, E189_105, dShG, dShR, hn, hi, hj, pix_nI, h1, h2, i1, i2, i3, i4, i5, ← Int64.ofNat_add, g1, g2, c1, c2]
    exact hP
theorem M189_in {s t zs zt a b m : Nat} (hs : s < 4) (ht : t < 4) (h1 : A 21 s = nI zs) (h2 : A 21 t = nI zt) (hzs : zs ≤ 40) (hzt : zt ≤ 40) (ha : a + m ≤ zs) (hb : b + m ≤ zt) (d : Nat) (P : MP) (hP : P (some (.int (nI m))) (mkH dSh I V L (upA A 22 (va_cpy (A 22) (A 22) (40 * s + a) (40 * t + b) m)))) : mFr d 189 56 [some (.ref 0), some (.int (nI s)), some (.int (nI a)), some (.int (nI t)), some (.int (nI b)), some (.int (nI m)), none] [] (mkH dSh I V L A) P := by
  have i1 := i64n (a := a) (by omega)
  have i2 := i64n (a := m) (by omega)
  have i3 := i64n (a := b) (by omega)
  have i4 := i64n (a := zs) (by omega)
  have i5 := i64n (a := zt) (by omega)
  have g1 := lcmp_g (u := a + m) (v := zs) (by omega) (by omega)
  have g2 := lcmp_g (u := b + m) (v := zt) (by omega) (by omega)
  have c1 : ¬ zs < a + m := by omega
  have c2 : ¬ zt < b + m := by omega
  have n1 : ¬ nI m < 0 := nI_pos (by omega)
  have n2 : ¬ nI a < 0 := nI_pos (by omega)
  have n3 : ¬ nI b < 0 := nI_pos (by omega)
  have up : (s ≠ t ∨ b ≤ a) → mFr d 189 168 [some (.ref 0), some (.int (nI s)), some (.int (nI a)), some (.int (nI t)), some (.int (nI b)), some (.int (nI m)), none] [] (mkH dSh I V L A) P := by
    intro hcond
    simp (disch := first | assumption | exact mnl_i | exact mnl_r | exact mnl_n | exact mnl_0 | omega) only [↓reduceIte, tolS, E189_168]
    refine up_loop m (fun k (A1 : TI) => mFr d 189 171 [some (.ref 0), some (.int (nI s)), some (.int (nI a)), some (.int (nI t)), some (.int (nI b)), some (.int (nI m)), some (.int (nI k))] [] (mkH dSh I V L A1) P) (fun k A1 => A1 = upA A 22 (va_cpy (A 22) (A 22) (40 * s + a) (40 * t + b) k)) (fun k A1 hk hi ih => ?_) (fun A1 hi => ?_) A ?_
    · have x1 : 40 * t + b + k < 160 := by omega
      have x2 : 40 * s + a + k < 160 := by omega
      rw [hi]
      simp (disch := first | assumption | exact mnl_i | exact mnl_r | exact mnl_n | exact mnl_0 | omega) only [↓reduceIte, tolS, E189_171, q_ll, hk]
      simp (disch := first | assumption | exact mnl_i | exact mnl_r | exact mnl_n | exact mnl_0 | omega) only [E189_178, dShG, dShR, q_mul, q_aa, pix_nI, upA_s, upA_u, q_add]
      refine ih _ ?_
      rw [cpy_up (by omega)]
    · have c : ¬ m < m := by omega
      rw [hi]
      simp (disch := first | assumption | exact mnl_i | exact mnl_r | exact mnl_n | exact mnl_0 | omega) only [↓reduceIte, tolS, E189_171, E189_213, q_ll, c]
      exact hP
    · have : va_cpy (A 22) (A 22) (40 * s + a) (40 * t + b) 0 = A 22 := by funext x; exact pk_cpy_out (by omega)
      rw [this, upA_self]
  have down : s = t → a < b → mFr d 189 119 [some (.ref 0), some (.int (nI s)), some (.int (nI a)), some (.int (nI t)), some (.int (nI b)), some (.int (nI m)), none] [] (mkH dSh I V L A) P := by
    intro hst hab
    have e0 : nI m - 1 = nI m + (-1) := Int32.sub_eq_add_neg _ _
    simp (disch := first | assumption | exact mnl_i | exact mnl_r | exact mnl_n | exact mnl_0 | omega) only [↓reduceIte, tolS, E189_119]
    rw [e0]
    have key : ∀ k, k ≤ m → mFr d 189 125 [some (.ref 0), some (.int (nI s)), some (.int (nI a)), some (.int (nI t)), some (.int (nI b)), some (.int (nI m)), some (.int (nI k + (-1)))] [] (mkH dSh I V L (upA A 22 (va_cpy (A 22) (A 22) (40 * s + a + k) (40 * t + b + k) (m - k)))) P := by
      intro k
      induction k with
      | zero =>
        intro _
        simp (disch := first | assumption | exact mnl_i | exact mnl_r | exact mnl_n | exact mnl_0 | omega) only [↓reduceIte, tolS, E189_125, E189_165, E189_213, show (nI 0 + (-1) : Int32) < 0 by decide]
        exact hP
      | succ k ih =>
        intro hk
        have hv : nI (k + 1) + (-1) = nI k := pk_m1 k
        have h0 : ¬ nI k < 0 := nI_pos (by omega)
        have x1 : 40 * t + b + k < 160 := by omega
        have x2 : 40 * s + a + k < 160 := by omega
        rw [hv]
        simp (disch := first | assumption | exact mnl_i | exact mnl_r | exact mnl_n | exact mnl_0 | omega) only [↓reduceIte, tolS, E189_125, h0]
        simp (disch := first | assumption | exact mnl_i | exact mnl_r | exact mnl_n | exact mnl_0 | omega) only [E189_130, dShG, dShR, q_mul, q_aa, pix_nI, upA_s, upA_u]
        rw [show m - (k + 1) = m - k - 1 by omega]
        have := ih (by omega)
        rw [show m - k = (m - k - 1) + 1 by omega, ← cpy_dn (by omega)] at this
        exact this
    have := key m (Nat.le_refl _)
    rw [Nat.sub_self] at this
    have z0 : va_cpy (A 22) (A 22) (40 * s + a + m) (40 * t + b + m) 0 = A 22 := by funext x; exact pk_cpy_out (by omega)
    rw [z0, upA_self] at this
    exact this
  by_cases hst : s = t
  · subst hst
    have hz : zs = zt := (nI_eq (by omega) (by omega)).mp (h1.symm.trans h2)
    subst hz
    by_cases hab : a < b
    · simp (disch := first | assumption | exact mnl_i | exact mnl_r | exact mnl_n | exact mnl_0 | omega) only [↓reduceIte, tolS, E189_56, E189_61, E189_65, E189_70, E189_87, E189_108, E189_113, dShG, dShR, n1, n2, n3, pix_nI, h1, i1, i2, i3, i4, ← Int64.ofNat_add, g1, g2, c1, c2, q_ee, q_ll, hab]
      exact down rfl hab
    · simp (disch := first | assumption | exact mnl_i | exact mnl_r | exact mnl_n | exact mnl_0 | omega) only [↓reduceIte, tolS, E189_56, E189_61, E189_65, E189_70, E189_87, E189_108, E189_113, dShG, dShR, n1, n2, n3, pix_nI, h1, i1, i2, i3, i4, ← Int64.ofNat_add, g1, g2, c1, c2, q_ee, q_ll, hab]
      exact up (Or.inr (by omega))
  · simp (disch := first | assumption | exact mnl_i | exact mnl_r | exact mnl_n | exact mnl_0 | omega) only [↓reduceIte, tolS, E189_56, E189_61, E189_65, E189_70, E189_87, E189_108, dShG, dShR, n1, n2, n3, pix_nI, h1, h2, i1, i2, i3, i4, i5, ← Int64.ofNat_add, g1, g2, c1, c2, q_ee, hst]
    exact up (Or.inl hst)
theorem J108 {hC hM : MH} (h : REL hC hM) (d : Nat) (x i y j n : Int32) : JR (d + 90) 108 189 [.int x, .int i, .int y, .int j, .int n] hC hM := by
  obtain ⟨I, V, L, A, I', V', L', A', nt, W, many, R, th, day, rl, e, ec, em, hF, hc, hm⟩ := REL_B h
  rw [ec, em]
  unfold JR
  rcases i32_ix x 4 with ⟨s, hs, hs2, rfl⟩ | hx
  · have hlts : 47 + 2 * s < 900 := by omega
    obtain ⟨t1, t2⟩ := c47 hs
    obtain ⟨a1, a2, a3⟩ := hc.2.2.2.2 s hs
    obtain ⟨b1, b2, b3⟩ := hm.2.2.2.2 s hs
    obtain ⟨f1, f2⟩ := hF.2.2.2 s hs
    rcases i32_ix y 4 with ⟨t, ht, ht2, rfl⟩ | hy
    · have hltt : 47 + 2 * t < 900 := by omega
      obtain ⟨u1, u2⟩ := c47 ht
      obtain ⟨c1, c2, c3⟩ := hc.2.2.2.2 t ht
      obtain ⟨d1, d2, d3⟩ := hm.2.2.2.2 t ht
      obtain ⟨g1, g2⟩ := hF.2.2.2 t ht
      by_cases m1 : e.2.2.1 s = -1
      · simp (disch := first | assumption | exact mnl_i | exact mnl_r | exact mnl_n | exact mnl_0 | omega) only [↓reduceIte, tolS, E108_0, E108_19, E108_27, E108_45, B108, cShG, kSheet, S112_in hs, S112_in ht, hlts, hltt, a1, m1]
        simp (disch := first | assumption | exact mnl_i | exact mnl_r | exact mnl_n | exact mnl_0 | omega) only [↓reduceIte, tolS, E189_0, E189_7, E189_17, E189_35, B189, dShG, dShR, M118_in hs, M118_in ht, n10, pix_nI, b1, m1, show (-1 : Int32) < 0 by decide]
        exact JR_B hF hc hm
      · have q1 : ¬ e.2.2.1 s < 0 := by rw [so_neg f1]; exact m1
        by_cases m2 : e.2.2.1 t = -1
        · simp (disch := first | assumption | exact mnl_i | exact mnl_r | exact mnl_n | exact mnl_0 | omega) only [↓reduceIte, tolS, E108_0, E108_19, E108_27, E108_36, E108_45, B108, cShG, kSheet, S112_in hs, S112_in ht, hlts, hltt, a1, m1, c1, m2]
          simp (disch := first | assumption | exact mnl_i | exact mnl_r | exact mnl_n | exact mnl_0 | omega) only [↓reduceIte, tolS, E189_0, E189_7, E189_17, E189_26, E189_35, B189, dShG, dShR, M118_in hs, M118_in ht, n10, pix_nI, b1, q1, d1, m2, show (-1 : Int32) < 0 by decide]
          exact JR_B hF hc hm
        · have q2 : ¬ e.2.2.1 t < 0 := by rw [so_neg g1]; exact m2
          by_cases m3 : e.2.2.1 s = e.2.2.1 t
          · have st1 : I (47 + 2 * s) 1 = e.2.2.1 t := by rw [a1, m3]
            have st2 : A' 20 s = e.2.2.1 t := by rw [b1, m3]
            rcases has_dec i n (e.2.2.2.1 s) with ⟨a, m, ha, hmm, rfl, rfl, h1⟩ | hno
            · rcases has_dec j (nI m) (e.2.2.2.1 t) with ⟨b, m', hb, hmm', rfl, em', h2⟩ | hno
              · have emm := (nI_eq hmm hmm').mp em'
                subst emm
                have z0 : ¬ nI a < 0 := nI_pos ha
                have z1 : ¬ nI b < 0 := nI_pos hb
                have z2 : ¬ nI m < 0 := nI_pos hmm
                have e1 : 47 + 2 * s + 1 = 48 + 2 * s := by omega
                have e2 : 47 + 2 * t + 1 = 48 + 2 * t := by omega
                have cond : ¬ nI a < 0 ∧ ¬ nI b < 0 ∧ ¬ nI m < 0 ∧ a + m ≤ 40 ∧ b + m ≤ 40 := ⟨z0, z1, z2, by omega, by omega⟩
                simp (disch := first | assumption | exact mnl_i | exact mnl_r | exact mnl_n | exact mnl_0 | omega) only [↓reduceIte, tolS, E108_0, E108_19, E108_27, E108_36, E108_48, E108_64.1, E108_64.2.1, E108_64.2.2.1, E108_64.2.2.2.1, E108_64.2.2.2.2.1, B108, cShG, kSheet, S112_in hs, S112_in ht, hlts, hltt, st1, m2, c1]
                refine Eq.mpr (S23_y hs a2 f2 h1 _ _) ?_
                simp (disch := first | assumption | exact mnl_i | exact mnl_r | exact mnl_n | exact mnl_0 | omega) only [↓reduceIte, tolS, E108_64.2.2.2.2.2, E108_75.1, E108_75.2.1, E108_75.2.2.1, E108_75.2.2.2.1, E108_75.2.2.2.2.1, n10, kSheet]
                refine Eq.mpr (S23_y ht c2 g2 h2 _ _) ?_
                simp (disch := first | assumption | exact mnl_i | exact mnl_r | exact mnl_n | exact mnl_0 | omega) only [↓reduceIte, tolS, E108_75.2.2.2.2.2, E108_90, n10, kSheet, e1, e2, H_copy t2 u2, if_pos cond, clN ha, clN hb, clN hmm]
                simp (disch := first | assumption | exact mnl_i | exact mnl_r | exact mnl_n | exact mnl_0 | omega) only [↓reduceIte, tolS, E189_0, E189_7, E189_17, E189_26, E189_38, B189, dShG, dShR, M118_in hs, M118_in ht, n10, pix_nI, st2, q2, d1]
                refine M189_in hs ht b2 d2 f2 g2 h1 h2 _ _ ?_
                refine JR_B (e := setE e t (e.2.2.2.1 t) (e.2.2.1 t) (va_cpy (e.2.2.2.2 s) (e.2.2.2.2 t) a b m)) (FB_set hF g1 g2) (CB_set hF hc ht (fun _ _ _ => rfl) (fun b' hb' => upA_n hb') c1 c2 (fun k hk => ?_)) (MB_set hm (fun _ _ => rfl) (fun b' _ _ _ _ h5 => upA_n h5) (fun _ _ => rfl) (fun _ _ => rfl) (fun k hk => ?_) d1 d2 (fun k hk => ?_))
                · rw [upA_s]
                  by_cases c : b ≤ k ∧ k < b + m
                  · rw [pk_cpy_in c.1 c.2, pk_cpy_in c.1 c.2]; exact a3 _ (by omega)
                  · rw [pk_cpy_out (by omega), pk_cpy_out (by omega)]; exact c3 k hk
                · rw [upA_s, pk_cpy_out (by omega)]
                · rw [upA_s]
                  by_cases c : b ≤ k ∧ k < b + m
                  · rw [pk_cpy_in (by omega) (by omega), pk_cpy_in c.1 c.2, show 40 * s + a + (40 * t + k - (40 * t + b)) = 40 * s + (a + (k - b)) by omega]; exact b3 _ (by omega)
                  · rw [pk_cpy_out (by omega), pk_cpy_out (by omega)]; exact d3 k hk
              · simp (disch := first | assumption | exact mnl_i | exact mnl_r | exact mnl_n | exact mnl_0 | omega) only [↓reduceIte, tolS, E108_0, E108_19, E108_27, E108_36, E108_48, E108_64.1, E108_64.2.1, E108_64.2.2.1, E108_64.2.2.2.1, E108_64.2.2.2.2.1, B108, cShG, kSheet, S112_in hs, S112_in ht, hlts, hltt, st1, m2, c1]
                refine Eq.mpr (S23_y hs a2 f2 h1 _ _) ?_
                simp (disch := first | assumption | exact mnl_i | exact mnl_r | exact mnl_n | exact mnl_0 | omega) only [↓reduceIte, tolS, E108_64.2.2.2.2.2, E108_75.1, E108_75.2.1, E108_75.2.2.1, E108_75.2.2.2.1, E108_75.2.2.2.2.1, n10, kSheet]
                refine Eq.mpr (S23_n2 ht c2 g2 hno _ _) ?_
                simp (disch := first | assumption | exact mnl_i | exact mnl_r | exact mnl_n | exact mnl_0 | omega) only [↓reduceIte, tolS, E108_75.2.2.2.2.2, E108_87]
                simp (disch := first | assumption | exact mnl_i | exact mnl_r | exact mnl_n | exact mnl_0 | omega) only [↓reduceIte, tolS, E189_0, E189_7, E189_17, E189_26, E189_38, B189, dShG, dShR, M118_in hs, M118_in ht, n10, pix_nI, st2, q2, d1]
                refine M189_out hs ht b2 d2 f2 g2 (Or.inr hno) _ _ ?_
                exact JR_B hF hc hm
            · simp (disch := first | assumption | exact mnl_i | exact mnl_r | exact mnl_n | exact mnl_0 | omega) only [↓reduceIte, tolS, E108_0, E108_19, E108_27, E108_36, E108_48, E108_64.1, E108_64.2.1, E108_64.2.2.1, E108_64.2.2.2.1, E108_64.2.2.2.2.1, B108, cShG, kSheet, S112_in hs, S112_in ht, hlts, hltt, st1, m2, c1]
              refine Eq.mpr (S23_n2 hs a2 f2 hno _ _) ?_
              simp (disch := first | assumption | exact mnl_i | exact mnl_r | exact mnl_n | exact mnl_0 | omega) only [↓reduceIte, tolS, E108_64.2.2.2.2.2, E108_87]
              simp (disch := first | assumption | exact mnl_i | exact mnl_r | exact mnl_n | exact mnl_0 | omega) only [↓reduceIte, tolS, E189_0, E189_7, E189_17, E189_26, E189_38, B189, dShG, dShR, M118_in hs, M118_in ht, n10, pix_nI, st2, q2, d1]
              refine M189_out hs ht b2 d2 f2 g2 (Or.inl hno) _ _ ?_
              exact JR_B hF hc hm
          · simp (disch := first | assumption | exact mnl_i | exact mnl_r | exact mnl_n | exact mnl_0 | omega) only [↓reduceIte, tolS, E108_0, E108_19, E108_27, E108_36, E108_48, E108_61, B108, cShG, kSheet, S112_in hs, S112_in ht, hlts, hltt, a1, m1, c1, m2, m3]
            simp (disch := first | assumption | exact mnl_i | exact mnl_r | exact mnl_n | exact mnl_0 | omega) only [↓reduceIte, tolS, E189_0, E189_7, E189_17, E189_26, E189_38, E189_53, B189, dShG, dShR, M118_in hs, M118_in ht, n10, pix_nI, b1, q1, d1, q2, m3]
            exact JR_B hF hc hm
    · simp (disch := first | assumption | exact mnl_i | exact mnl_r | exact mnl_n | exact mnl_0 | omega) only [↓reduceIte, tolS, E108_0, E108_19, E108_24, B108, cShG, S112_in hs, S112_out hy, hlts]
      simp (disch := first | assumption | exact mnl_i | exact mnl_r | exact mnl_n | exact mnl_0 | omega) only [↓reduceIte, tolS, E189_0, E189_7, E189_14, B189, dShG, M118_in hs, M118_out hy, n10]
      exact JR_B hF hc hm
  · have hb : mRun (d + 90) 189 [.ref 0, .int x, .int i, .int y, .int j, .int n] (mkH dSh I' V' L' A') (fun v' h' => JQ (some (.int (-2))) (mkH cSh I V L A) v' h') := by
      simp (disch := first | assumption | exact mnl_i | exact mnl_r | exact mnl_n | exact mnl_0 | omega) only [↓reduceIte, tolS, E189_0, E189_14, B189, dShG, M118_out hx]
      exact JR_B hF hc hm
    rcases i32_ix y 4 with ⟨t, ht, ht2, rfl⟩ | hy
    · simp (disch := first | assumption | exact mnl_i | exact mnl_r | exact mnl_n | exact mnl_0 | omega) only [↓reduceIte, tolS, E108_0, E108_24, B108, cShG, S112_out hx, S112_in ht]
      exact hb
    · simp (disch := first | assumption | exact mnl_i | exact mnl_r | exact mnl_n | exact mnl_0 | omega) only [↓reduceIte, tolS, E108_0, E108_24, B108, cShG, S112_out hx, S112_out hy]
      exact hb
end K3
