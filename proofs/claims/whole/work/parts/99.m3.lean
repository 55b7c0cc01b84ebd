/-! spread: the reference -/
def spN (ok : Nat → Bool) (T : Nat → Nat) : Nat → Option (Nat × Nat)
  | 0 => none
  | k + 1 => if ok k = true then (match spN ok T k with | none => some (T k, k) | some s => if T k < s.1 then some (T k, k) else some s) else spN ok T k
theorem spN_ok {ok : Nat → Bool} {T : Nat → Nat} {B : Nat} (hT : ∀ k, T k ≤ B) : ∀ k, (spN ok T k = none ∧ ∀ c, c < k → ok c = false) ∨ ∃ b i, spN ok T k = some (b, i) ∧ b ≤ B ∧ i < k := by
  intro k
  induction k with
  | zero => left; exact ⟨rfl, fun c hc => absurd hc (by omega)⟩
  | succ k ih =>
    simp only [spN]
    by_cases c : ok k = true
    · rw [if_pos c]
      right
      rcases ih with ⟨h1, h2⟩ | ⟨b, i, h1, h2, h3⟩
      · rw [h1]; exact ⟨T k, k, rfl, hT k, by omega⟩
      · rw [h1]
        by_cases c2 : T k < b
        · exact ⟨T k, k, by dsimp only; rw [if_pos c2], hT k, by omega⟩
        · exact ⟨b, i, by dsimp only; rw [if_neg c2], h2, by omega⟩
    · rw [if_neg c]
      rcases ih with ⟨h1, h2⟩ | ⟨b, i, h1, h2, h3⟩
      · left
        refine ⟨h1, fun x hx => ?_⟩
        by_cases c3 : x = k
        · rw [c3]; exact Bool.eq_false_iff.mpr c
        · exact h2 x (by omega)
      · right; exact ⟨b, i, h1, h2, by omega⟩
def sIx (o : Option (Nat × Nat)) : Int32 := match o with | none => 0 | some s => nI s.2
def sBm (o : Option (Nat × Nat)) (K : Int32) : Int32 := match o with | none => K | some s => nI s.1
section M3
variable {I I' A A' I1 A1 I2 A2 : TI} {V V' V1 : TV} {L L' : Nat → Int64} {nt many day rl : Nat} {R : Nat → Nat → Nat} {th th' : Nat → Nat} {W : Nat → Nat → List Int32} {e : TE}
theorem mSz_t (s : mSz I A I1 A1) (t : mSx I1 A1 I2 A2) : mSz I A I2 A2 := by
  refine ⟨fun f hf => by rw [t.1 f hf]; exact s.1 f hf, fun b hb => ?_⟩
  have := s.2 b hb
  by_cases c : b = 4
  · rw [c, upA_s]
  · rw [upA_n c] at this ⊢
    rw [t.2 b hb]; exact this
theorem mSz_w {f : Nat → Int32} (s : mSz I A I1 A1) : mSz I A I1 (upA A1 4 f) := by unfold mSz; rw [upA_upA]; exact s
theorem M167_F (hF : FB nt many R th day rl e) (hm : MB I A nt W many R th day rl e) (d : Nat) (P : MP) (hP : ∀ I2 A2, mSx I A I2 A2 → (∀ b, b ≠ 13 → b ≠ 14 → A2 b = A b) → P (some (.int (nI (sumN (fun j => takesN (W rl) th day (R j)) many)))) (mkH dSh I2 V L A2)) : mRun (d + 7) 167 [.ref 0] (mkH dSh I V L A) P := by
  have h5 := hF.1.1
  simp (disch := first | assumption | exact mnl_i | exact mnl_r | exact mnl_n | exact mnl_0 | omega) only [↓reduceIte, tolS, E167_0, B167]
  refine up_loop many (fun k (s' : TI × TI) => mFr (d + 6) 167 4 [some (.ref 0), some (.int (nI (sumN (fun j => takesN (W rl) th day (R j)) k))), some (.int (nI k))] [] (mkH dSh s'.1 V L s'.2) P) (fun k s' => mSx I A s'.1 s'.2 ∧ ∀ b, b ≠ 13 → b ≠ 14 → s'.2 b = A b) (fun k s' hk hi ih => ?_) (fun s' hi => ?_) (I, A) ⟨mSx_refl, fun _ _ _ => rfl⟩
  · obtain ⟨I3, A3⟩ := s'
    obtain ⟨i1, i2⟩ := hi
    replace i1 : mSx I A I3 A3 := i1
    replace i2 : ∀ b, b ≠ 13 → b ≠ 14 → A3 b = A b := i2
    have h02 : I3 0 2 = nI many := (MG_S hm.1 i1).1
    simp (disch := first | assumption | exact mnl_i | exact mnl_r | exact mnl_n | exact mnl_0 | omega) only [↓reduceIte, tolS, E167_4, E167_12.1, E167_12.2.1, E167_12.2.2.1, E167_12.2.2.2.1, dShG, h02, q_ll, hk]
    refine M157_F hF hm i1 hk _ _ (fun I4 A4 s4 p4 _ => ?_)
    have ih' := ih (I4, A4) ⟨s4, fun b h1 h2 => (p4 b h1 h2).trans (i2 b h1 h2)⟩
    simp only [sumN] at ih'
    simp (disch := first | assumption | exact mnl_i | exact mnl_r | exact mnl_n | exact mnl_0 | omega) only [↓reduceIte, tolS, E167_12.2.2.2.2.1, E167_12.2.2.2.2.2.1, E167_12.2.2.2.2.2.2.1, E167_12.2.2.2.2.2.2.2, dShG, q_aa, q_add]
    exact ih'
  · obtain ⟨I3, A3⟩ := s'
    have e : ¬ many < many := by omega
    have h02 : I3 0 2 = nI many := (MG_S hm.1 hi.1).1
    simp (disch := first | assumption | exact mnl_i | exact mnl_r | exact mnl_n | exact mnl_0 | omega) only [↓reduceIte, tolS, E167_4, E167_26, dShG, h02, q_ll, e]
    exact hP _ _ hi.1 hi.2
/-- one deal laid -/
theorem M170_deal (hF : FB nt many R th day rl e) (hm : MB I A nt W many R th day rl e) (s : mSz I A I1 A1) (h3 : many ≤ 3) {c : Nat} (hc : c ≤ 1000) {w t0 x3 x4 x5 : Int32} {l7 l8 : Option Value} (d : Nat) (P : MP) (hP : ∀ A2 l7 l8, mSz I A I1 A2 → (∀ b, b ≠ 4 → A2 b = A1 b) → (∀ x, many ≤ x → A2 4 x = A1 4 x) → (∀ x, x < many → A2 4 x = nI (dg c (many - 1 - x))) → mnl l7 = true → mnl l8 = true → mFr (d + 8) 170 158 [some (.ref 0), some (.int w), some (.int t0), some (.int x3), some (.int x4), some (.int x5), some (.int (nI c)), l7, l8] [] (mkH dSh I1 V L A2) P) :
    mFr (d + 8) 170 116 [some (.ref 0), some (.int w), some (.int t0), some (.int x3), some (.int x4), some (.int x5), some (.int (nI c)), l7, l8] [] (mkH dSh I1 V L A1) P := by
  have h02 : I1 0 2 = nI many := (MG_S hm.1 s).1
  simp (disch := first | assumption | exact mnl_i | exact mnl_r | exact mnl_n | exact mnl_0 | omega) only [↓reduceIte, tolS, E170_116, dShG, h02, sub1]
  have up := fun (k : Nat) => dv_le c k
  have z0 : c = c / 10 ^ 0 := by rw [Nat.pow_zero, Nat.div_one]
  have z1 : ∀ x : Nat, x = c → mFr (d + 8) 170 128 [some (.ref 0), some (.int w), some (.int t0), some (.int x3), some (.int x4), some (.int x5), some (.int (nI c)), some (.int (nI x)), some (.int (nI many + (-1)))] [] (mkH dSh I1 V L A1) P → mFr (d + 8) 170 128 [some (.ref 0), some (.int w), some (.int t0), some (.int x3), some (.int x4), some (.int x5), some (.int (nI c)), some (.int (nI c)), some (.int (nI many + (-1)))] [] (mkH dSh I1 V L A1) P := fun x hx hh => by rw [hx] at hh; exact hh
  refine z1 (c / 10 ^ 0) z0.symm ?_
  refine up_loop many (fun k (s' : TI) => mFr (d + 8) 170 128 [some (.ref 0), some (.int w), some (.int t0), some (.int x3), some (.int x4), some (.int x5), some (.int (nI c)), some (.int (nI (c / 10 ^ k))), some (.int (nI (many - k) + (-1)))] [] (mkH dSh I1 V L s') P) (fun k s' => mSz I A I1 s' ∧ (∀ b, b ≠ 4 → s' b = A1 b) ∧ (∀ x, many ≤ x → s' 4 x = A1 4 x) ∧ ∀ x, x < many → many ≤ x + k → s' 4 x = nI (dg c (many - 1 - x))) (fun k A3 hk hi ih => ?_) (fun A3 hi => ?_) A1 ⟨s, fun _ _ => rfl, fun _ _ => rfl, fun x h1 h2 => absurd h2 (by omega)⟩
  · obtain ⟨i1, i2, i3, i4⟩ := hi
    have u1 := up k
    have u2 : c / 10 ^ k < 2 ^ 31 := by omega
    have u3 : nI (many - k) + (-1) = nI (many - 1 - k) := by rw [nI_dn1 (by omega), show many - k - 1 = many - 1 - k by omega]
    have u4 : many - (k + 1) = many - 1 - k := by omega
    have ed : dg c k = c / 10 ^ k % 10 := rfl
    have g1 : many - 1 - k < 5 := by omega
    have ih' := ih (upA A3 4 (upd (A3 4) (many - 1 - k) (nI (dg c k)))) ⟨mSz_w i1, fun b hb => by rw [upA_n hb]; exact i2 b hb, fun x hx => by rw [upA_s, upd_n (by omega)]; exact i3 x hx, fun x h1 h2 => by
      rw [upA_s]
      by_cases cx : x = many - 1 - k
      · rw [cx, upd_s, show many - 1 - (many - 1 - k) = k by omega]
      · rw [upd_n cx]; exact i4 x h1 (by omega)⟩
    simp only [u4, dv_s] at ih'
    rw [u3]
    rw [ed] at ih'
    simp (disch := first | assumption | exact mnl_i | exact mnl_r | exact mnl_n | exact mnl_0 | omega) only [↓reduceIte, tolS, E170_128, q_neg]
    simp (disch := first | assumption | exact mnl_i | exact mnl_r | exact mnl_n | exact mnl_0 | omega) only [↓reduceIte, tolS, E170_133, dShG, dShR, show ¬ (10 : Int32) = 0 by decide, dv10 u2, rm10 u2, pix_nI, g1]
    exact ih'
  · obtain ⟨i1, i2, i3, i4⟩ := hi
    rw [Nat.sub_self]
    simp (disch := first | assumption | exact mnl_i | exact mnl_r | exact mnl_n | exact mnl_0 | omega) only [↓reduceIte, tolS, E170_128, show nI 0 + (-1) < 0 by decide]
    exact hP A3 _ _ i1 i2 i3 (fun x hx => i4 x hx (by omega)) rfl rfl
end M3
