/-! the reference: next() -/
section MN
variable {n : Nat} {b : Nat → Nat} {I A : TI} {V : TV} {L : Nat → Int64}
theorem skp_le {j : Nat} (h : j ≤ n) : j ≤ skp n b j ∧ skp n b j ≤ n := by
  have := exT_all (f := fun j => isBB (b j)) (n := n) h
  exact ⟨this.1, this.2.1⟩
theorem nxS_self : nxS I I := fun _ _ _ _ _ => rfl
theorem M131_w (hT : MTP I A n b) {s : Nat} (hs : s < n) (hl : isLB (b s) = true) (d : Nat) (c1 : Int32) (P : MP)
    (hP : ∀ I' L', nxS I I' → I' 0 17 = nI s → I' 0 18 = nI (tkE n b s) → mtk I' (L' 0) (tkT n b s) → P none (mkH dSh I' V L' A)) :
    ∀ (m q : Nat) (I1 : TI) (L1 : Nat → Int64), n - q = m → s ≤ q → q ≤ n → exT (fun j => isLB (b j)) n q = tkE n b s → nxS I I1 → I1 0 17 = nI s → I1 0 18 = nI q → L1 0 = Int64.ofNat (encL (fun i => b (s + i)) (min 7 (q - s))) → (∀ z, s ≤ z → z < q → isLB (b z) = true) →
      mFr (d + 1) 131 108 [some (.ref 0), some (.int c1)] [] (mkH dSh I1 V L1 A) P := by
  have hn := hT.2.1
  have fin : ∀ (q : Nat) (I1 : TI) (L1 : Nat → Int64), s < q → q ≤ n → q = tkE n b s → nxS I I1 → I1 0 17 = nI s → I1 0 18 = nI q → L1 0 = Int64.ofNat (encL (fun i => b (s + i)) (min 7 (q - s))) → (∀ z, s ≤ z → z < q → isLB (b z) = true) →
      mFr (d + 1) 131 188 [some (.ref 0), some (.int c1)] [] (mkH dSh I1 V L1 A) P := by
    intro q I1 L1 h1 h2 h3 h4 h5 h6 h7 h8
    have hse : s ≤ q := by omega
    have hTe : tkT n b s = wordT b s q := by unfold tkT; rw [if_pos hl, ← h3]
    have hw : ∀ (L2 : Nat → Int64), L2 0 = wdN b s q → mFr (d + 1) 131 209 [some (.ref 0), some (.int c1)] [] (mkH dSh I1 V L2 A) P := by
      intro L2 hL2
      have hwd : wdOf (L2 0) (wordT b s q) := by
        refine ⟨?_, fun v hv => ?_⟩
        · have := fw_le (f := splB b s q) 12 0 (by omega)
          unfold wordT; omega
        · rw [hL2]; exact wd_word h1 (fun z g1 g2 => isLB_le (h8 z g1 g2)) v hv
      have h119 : ∀ (hx : wordT b s q ≤ 11), mFr (d + 1) 131 230 [some (.ref 0), some (.int c1)] [.ref 0] (mkH dSh I1 V L2 A) P := by
        intro hx
        simp (disch := first | assumption | exact mnl_i | exact mnl_r | exact mnl_n | exact mnl_0 | omega) only [↓reduceIte, tolS, E131_230, E131_232, E131_380, dShG, dShP]
        refine hP _ L2 (nxS_up h4 (by omega)) (by rw [up2_f (by decide)]; exact h5) (by rw [up2_f (by decide), ← h3]; exact h6) ?_
        rw [hTe]
        refine Or.inl ⟨hx, up2_s, ?_⟩
        rw [hwd.2 _ (by omega)]
      generalize hg : wordT b s q = t at *
      by_cases c5 : t ≤ 5
      · have hne : ¬ namT t = -1 := by unfold namT; rw [if_pos c5]; exact nI_m1 (by omega)
        simp (disch := first | assumption | exact mnl_i | exact mnl_r | exact mnl_n | exact mnl_0 | omega) only [↓reduceIte, tolS, E131_209, dShG, dShP, M129 hwd, hne]
        exact h119 (by omega)
      · have hne : namT t = -1 := by unfold namT; rw [if_neg c5]
        by_cases c21 : t = 21
        · simp (disch := first | assumption | exact mnl_i | exact mnl_r | exact mnl_n | exact mnl_0 | omega) only [↓reduceIte, tolS, E131_209, E131_218, E131_225, E131_232, E131_380, dShG, dShP, M129 hwd, hne, M130 hwd, c21]
          refine hP _ L2 (nxS_up h4 (by omega)) (by rw [up2_f (by decide)]; exact h5) (by rw [up2_f (by decide), ← h3]; exact h6) ?_
          rw [hTe, c21]
          exact Or.inr (Or.inr (Or.inr (Or.inr (Or.inr (Or.inr (Or.inr (Or.inr (Or.inr (Or.inr (Or.inl ⟨rfl, up2_s⟩))))))))))
        · simp (disch := first | assumption | exact mnl_i | exact mnl_r | exact mnl_n | exact mnl_0 | omega) only [↓reduceIte, tolS, E131_209, E131_218, dShG, dShP, M129 hwd, hne, M130 hwd, c21, show ¬ (1 : Int32) = 0 by decide]
          exact h119 (by have := hwd.1; omega)
    by_cases c7 : 7 < q - s
    · simp (disch := first | assumption | exact mnl_i | exact mnl_r | exact mnl_n | exact mnl_0 | omega) only [↓reduceIte, tolS, E131_188, E131_202, dShG, dShP, h5, h6, q_ss, q_gt, c7]
      exact hw _ (by rw [upL_s]; unfold wdN; rw [if_pos c7])
    · simp (disch := first | assumption | exact mnl_i | exact mnl_r | exact mnl_n | exact mnl_0 | omega) only [↓reduceIte, tolS, E131_188, dShG, dShP, h5, h6, q_ss, q_gt, c7]
      exact hw L1 (by rw [h7]; unfold wdN; rw [if_neg c7, show min 7 (q - s) = q - s by omega])
  have hEs : exT (fun j => isLB (b j)) n s = tkE n b s := by
    unfold tkE
    rw [if_pos hl]
    exact exT_s (f := fun j => isLB (b j)) hs hl
  have hE1 := tkE_le (b := b) hs
  intro m
  induction m with
  | zero =>
    intro q I1 L1 hm g1 g2 g3 g4 g5 g6 g7 g8
    have e : ¬ q < n := by omega
    have hT1 := MTP_nx hT g4
    have h10 := hT1.1
    simp (disch := first | assumption | exact mnl_i | exact mnl_r | exact mnl_n | exact mnl_0 | omega) only [↓reduceIte, tolS, E131_108, dShG, h10, g6, q_ll, e]
    rw [exT_e (by omega)] at g3
    exact fin q I1 L1 (by omega) g2 g3 g4 g5 g6 g7 g8
  | succ m ih =>
    intro q I1 L1 hm g1 g2 g3 g4 g5 g6 g7 g8
    have e : q < n := by omega
    have hq : q < 160 := by omega
    have hT1 := MTP_nx hT g4
    have h10 := hT1.1
    obtain ⟨hb1, hb2⟩ := hT.2.2 q e
    by_cases c : isLB (b q) = true
    · rw [exT_s (f := fun j => isLB (b j)) e c] at g3
      have hb := isLB_le c
      have h8' : ∀ z, s ≤ z → z < q + 1 → isLB (b z) = true := fun z z1 z2 => by
        by_cases cz : z = q
        · subst cz; exact c
        · exact g8 z z1 (by omega)
      have e18 : up2 I1 0 18 (nI (q + 1)) 0 17 = nI s := by rw [up2_f (by decide)]; exact g5
      by_cases c7 : q - s < 7
      · have hc1 : 96 ≤ b q := by omega
        simp (disch := first | assumption | exact mnl_i | exact mnl_r | exact mnl_n | exact mnl_0 | omega) only [↓reduceIte, tolS, E131_108, E131_119, E131_134, E131_148, dShG, dShP, dShR, h10, g6, q_ll, e, pix_nI, hb1, M126 hb2, c, show ¬ (1 : Int32) = 0 by decide, g5, q_ss, q_lt, c7, g7, encI64 hc1 hb2]
        simp (disch := first | assumption | exact mnl_i | exact mnl_r | exact mnl_n | exact mnl_0 | omega) only [E131_175, dShG, dShP, g6, q_add]
        refine ih (q + 1) _ _ (by omega) (by omega) (by omega) g3 (nxS_up g4 (by omega)) e18 up2_s ?_ h8'
        rw [upL_s, show min 7 (q - s) = q - s by omega, show min 7 (q + 1 - s) = (q - s) + 1 by omega, encL, show s + (q - s) = q by omega]
      · simp (disch := first | assumption | exact mnl_i | exact mnl_r | exact mnl_n | exact mnl_0 | omega) only [↓reduceIte, tolS, E131_108, E131_119, E131_134, dShG, dShP, dShR, h10, g6, q_ll, e, pix_nI, hb1, M126 hb2, c, show ¬ (1 : Int32) = 0 by decide, g5, q_ss, q_lt, c7]
        simp (disch := first | assumption | exact mnl_i | exact mnl_r | exact mnl_n | exact mnl_0 | omega) only [E131_175, dShG, dShP, g6, q_add]
        refine ih (q + 1) _ _ (by omega) (by omega) (by omega) g3 (nxS_up g4 (by omega)) e18 up2_s ?_ h8'
        rw [g7, show min 7 (q - s) = 7 by omega, show min 7 (q + 1 - s) = 7 by omega]
    · rw [exT_n (f := fun j => isLB (b j)) e c] at g3
      simp (disch := first | assumption | exact mnl_i | exact mnl_r | exact mnl_n | exact mnl_0 | omega) only [↓reduceIte, tolS, E131_108, E131_119, dShG, dShP, dShR, h10, g6, q_ll, e, pix_nI, hb1, M126 hb2, c]
      exact fin q I1 L1 (by omega) g2 g3 g4 g5 g6 g7 g8
theorem M131_d (hT : MTP I A n b) {s : Nat} (hs : s < n) (hl : ¬ isLB (b s) = true) (hd : isDB (b s) = true) (d : Nat) (c1 : Int32) (P : MP)
    (hP : ∀ I' L', nxS I I' → I' 0 17 = nI s → I' 0 18 = nI (tkE n b s) → mtk I' (L' 0) (tkT n b s) → P none (mkH dSh I' V L' A)) :
    ∀ (m q : Nat) (I1 : TI) (L1 : Nat → Int64), n - q = m → s ≤ q → q ≤ n → exT (fun j => isDB (b j)) n q = tkE n b s → nxS I I1 → I1 0 17 = nI s → I1 0 18 = nI q → I1 0 20 = nI (numV b s (min 4 (q - s))) → 
      mFr (d + 1) 131 250 [some (.ref 0), some (.int c1)] [] (mkH dSh I1 V L1 A) P := by
  have hn := hT.2.1
  have hE1 := tkE_le (b := b) hs
  have fin : ∀ (q : Nat) (I1 : TI) (L1 : Nat → Int64), s < q → q ≤ n → q = tkE n b s → nxS I I1 → I1 0 17 = nI s → I1 0 18 = nI q → I1 0 20 = nI (numV b s (min 4 (q - s))) →
      mFr (d + 1) 131 326 [some (.ref 0), some (.int c1)] [] (mkH dSh I1 V L1 A) P := by
    intro q I1 L1 h1 h2 h3 h4 h5 h6 h7
    have hse : s ≤ q := by omega
    have hTe : tkT n b s = if 4 < q - s then 21 else 100 + numV b s (q - s) := by unfold tkT; rw [if_neg hl, if_pos hd, ← h3]
    by_cases c4 : 4 < q - s
    · simp (disch := first | assumption | exact mnl_i | exact mnl_r | exact mnl_n | exact mnl_0 | omega) only [↓reduceIte, tolS, E131_326, E131_340, E131_347, E131_380, dShG, dShP, h5, h6, q_ss, q_gt, c4]
      refine hP _ L1 (nxS_up h4 (by omega)) (by rw [up2_f (by decide)]; exact h5) (by rw [up2_f (by decide), ← h3]; exact h6) ?_
      rw [hTe, if_pos c4]
      exact Or.inr (Or.inr (Or.inr (Or.inr (Or.inr (Or.inr (Or.inr (Or.inr (Or.inr (Or.inr (Or.inl ⟨rfl, up2_s⟩))))))))))
    · simp (disch := first | assumption | exact mnl_i | exact mnl_r | exact mnl_n | exact mnl_0 | omega) only [↓reduceIte, tolS, E131_326, E131_345, E131_347, E131_380, dShG, dShP, h5, h6, q_ss, q_gt, c4]
      refine hP _ L1 (nxS_up h4 (by omega)) (by rw [up2_f (by decide)]; exact h5) (by rw [up2_f (by decide), ← h3]; exact h6) ?_
      rw [hTe, if_neg c4]
      refine Or.inr (Or.inr (Or.inr (Or.inr (Or.inr (Or.inr (Or.inr (Or.inr (Or.inr (Or.inr (Or.inr ⟨by omega, up2_s, ?_⟩))))))))))
      rw [up2_f (by decide), h7, show min 4 (q - s) = q - s by omega, Nat.add_sub_cancel_left]
  have hEs : exT (fun j => isDB (b j)) n s = tkE n b s := by
    unfold tkE
    rw [if_neg hl, if_pos hd]
    exact exT_s (f := fun j => isDB (b j)) hs hd
  intro m
  induction m with
  | zero =>
    intro q I1 L1 hm g1 g2 g3 g4 g5 g6 g7
    have e : ¬ q < n := by omega
    have hT1 := MTP_nx hT g4
    have h10 := hT1.1
    simp (disch := first | assumption | exact mnl_i | exact mnl_r | exact mnl_n | exact mnl_0 | omega) only [↓reduceIte, tolS, E131_250, dShG, h10, g6, q_ll, e]
    rw [exT_e (by omega)] at g3
    exact fin q I1 L1 (by omega) g2 g3 g4 g5 g6 g7
  | succ m ih =>
    intro q I1 L1 hm g1 g2 g3 g4 g5 g6 g7
    have e : q < n := by omega
    have hq : q < 160 := by omega
    have hT1 := MTP_nx hT g4
    have h10 := hT1.1
    obtain ⟨hb1, hb2⟩ := hT.2.2 q e
    by_cases c : isDB (b q) = true
    · rw [exT_s (f := fun j => isDB (b j)) e c] at g3
      have hb := isDB_le c
      by_cases c7 : q - s < 4
      · have e1 : numV b s (q - s) * 10 + b q = 10 * numV b s (q - s) + b q := by omega
        have e2 : 48 ≤ 10 * numV b s (q - s) + b q := by omega
        have g7' : I1 0 20 = nI (numV b s (q - s)) := by rw [g7, show min 4 (q - s) = q - s by omega]
        simp (disch := first | assumption | exact mnl_i | exact mnl_r | exact mnl_n | exact mnl_0 | omega) only [↓reduceIte, tolS, E131_250, E131_261, E131_276, E131_289, dShG, dShP, dShR, h10, g6, q_ll, e, pix_nI, hb1, M127 hb2, c, show ¬ (1 : Int32) = 0 by decide, g5, q_ss, q_lt, c7, g7', q_mul, q_aa, q_sub]
        simp (disch := first | assumption | exact mnl_i | exact mnl_r | exact mnl_n | exact mnl_0 | omega) only [E131_313, dShG, dShP, up2_f, g6, q_add]
        refine ih (q + 1) _ _ (by omega) (by omega) (by omega) g3 (nxS_up (nxS_up g4 (by omega)) (by omega)) (by rw [up2_f (by decide), up2_f (by decide)]; exact g5) up2_s ?_
        rw [up2_f (by decide), up2_s, show min 4 (q + 1 - s) = (q - s) + 1 by omega, numV, show s + (q - s) = q by omega, e1]
      · simp (disch := first | assumption | exact mnl_i | exact mnl_r | exact mnl_n | exact mnl_0 | omega) only [↓reduceIte, tolS, E131_250, E131_261, E131_276, dShG, dShP, dShR, h10, g6, q_ll, e, pix_nI, hb1, M127 hb2, c, show ¬ (1 : Int32) = 0 by decide, g5, q_ss, q_lt, c7]
        simp (disch := first | assumption | exact mnl_i | exact mnl_r | exact mnl_n | exact mnl_0 | omega) only [E131_313, dShG, dShP, g6, q_add]
        refine ih (q + 1) _ _ (by omega) (by omega) (by omega) g3 (nxS_up g4 (by omega)) (by rw [up2_f (by decide)]; exact g5) up2_s ?_
        rw [up2_f (by decide), g7, show min 4 (q - s) = 4 by omega, show min 4 (q + 1 - s) = 4 by omega]
    · rw [exT_n (f := fun j => isDB (b j)) e c] at g3
      simp (disch := first | assumption | exact mnl_i | exact mnl_r | exact mnl_n | exact mnl_0 | omega) only [↓reduceIte, tolS, E131_250, E131_261, dShG, dShP, dShR, h10, g6, q_ll, e, pix_nI, hb1, M127 hb2, c]
      exact fin q I1 L1 (by
        rcases Nat.lt_or_ge s q with z | z
        · exact z
        · have : q = s := by omega
          rw [this] at c
          exact absurd hd c) g2 g3 g4 g5 g6 g7
theorem sg_mtk {c : Nat} (I : TI) (w : Int64) (hc : I 0 19 = (if sgT c = 21 then 120 else nI c)) : mtk I w (sgT c) := by
  by_cases c0 : c = 40
  · subst c0; exact Or.inr (Or.inl ⟨rfl, hc⟩)
  by_cases c1 : c = 41
  · subst c1; exact Or.inr (Or.inr (Or.inl ⟨rfl, hc⟩))
  by_cases c2 : c = 59
  · subst c2; exact Or.inr (Or.inr (Or.inr (Or.inl ⟨rfl, hc⟩)))
  by_cases c3 : c = 43
  · subst c3; exact Or.inr (Or.inr (Or.inr (Or.inr (Or.inl ⟨rfl, hc⟩))))
  by_cases c4 : c = 45
  · subst c4; exact Or.inr (Or.inr (Or.inr (Or.inr (Or.inr (Or.inl ⟨rfl, hc⟩)))))
  by_cases c5 : c = 42
  · subst c5; exact Or.inr (Or.inr (Or.inr (Or.inr (Or.inr (Or.inr (Or.inl ⟨rfl, hc⟩))))))
  by_cases c6 : c = 60
  · subst c6; exact Or.inr (Or.inr (Or.inr (Or.inr (Or.inr (Or.inr (Or.inr (Or.inl ⟨rfl, hc⟩)))))))
  by_cases c7 : c = 61
  · subst c7; exact Or.inr (Or.inr (Or.inr (Or.inr (Or.inr (Or.inr (Or.inr (Or.inr (Or.inl ⟨rfl, hc⟩))))))))
  have e : sgT c = 21 := by
    unfold sgT
    rw [if_neg c0, if_neg c1, if_neg c2, if_neg c3, if_neg c4, if_neg c5, if_neg c6, if_neg c7]
  rw [e, if_pos rfl] at hc
  rw [e]
  exact Or.inr (Or.inr (Or.inr (Or.inr (Or.inr (Or.inr (Or.inr (Or.inr (Or.inr (Or.inr (Or.inl ⟨rfl, hc⟩))))))))))
theorem sgT_is (c : Nat) : (isS c ∧ sgT c ≠ 21) ∨ (¬ isS c ∧ sgT c = 21) := by
  unfold isS sgT
  repeat' split
  all_goals omega
theorem M131 (hT : MTP I A n b) {j : Nat} (hj : j ≤ n) (h18 : I 0 18 = nI j) (d : Nat) (P : MP)
    (hP : ∀ I' L', nxS I I' → I' 0 17 = nI (skp n b j) → I' 0 18 = nI (if skp n b j < n then tkE n b (skp n b j) else n) → mtk I' (L' 0) (if skp n b j < n then tkT n b (skp n b j) else 20) → P none (mkH dSh I' V L' A)) : mRun (d + 2) 131 [.ref 0] (mkH dSh I V L A) P := by
  have hn := hT.2.1
  have after : ∀ (I1 : TI), nxS I I1 → I1 0 17 = nI (skp n b j) → mFr (d + 1) 131 60 [some (.ref 0), none] [] (mkH dSh I1 V L A) P := by
    intro I1 g1 g2
    have hs := (skp_le (n := n) (b := b) hj).2
    have h10 := (MTP_nx hT g1).1
    generalize hsk : skp n b j = s at *
    by_cases c : s = n
    · have hlt : ¬ s < n := by omega
      simp (disch := first | assumption | exact mnl_i | exact mnl_r | exact mnl_n | exact mnl_0 | omega) only [↓reduceIte, tolS, E131_60, E131_84, dShG, dShP, up2_f, g2, h10, q_ee, c]
      refine hP _ _ (nxS_up (nxS_up g1 (by omega)) (by omega)) (by rw [up2_f (by decide), up2_f (by decide)]; exact g2) (by rw [up2_f (by decide), up2_s, if_neg hlt]) ?_
      rw [if_neg hlt]
      exact Or.inr (Or.inr (Or.inr (Or.inr (Or.inr (Or.inr (Or.inr (Or.inr (Or.inr (Or.inl ⟨rfl, up2_s⟩)))))))))
    · have hlt : s < n := by omega
      have h160 : s < 160 := by omega
      rw [if_pos hlt, if_pos hlt] at hP
      obtain ⟨hb1, hb2⟩ := hT.2.2 s hlt
      by_cases cl : isLB (b s) = true
      · simp (disch := first | assumption | exact mnl_i | exact mnl_r | exact mnl_n | exact mnl_0 | omega) only [↓reduceIte, tolS, E131_60, E131_91, dShG, dShP, dShR, up2_f, g2, h10, q_ee, c, pix_nI, hb1, M126 hb2, cl, show ¬ (1 : Int32) = 0 by decide]
        refine M131_w hT hlt cl d _ P hP (n - s) s _ _ rfl (Nat.le_refl _) hs ?_ (nxS_up g1 (by omega)) (by rw [up2_f (by decide)]; exact g2) up2_s ?_ (fun z z1 z2 => by omega)
        · unfold tkE
          rw [if_pos cl]
          exact exT_s (f := fun j => isLB (b j)) hlt cl
        · rw [upL_s, Nat.sub_self]; rfl
      · by_cases cd : isDB (b s) = true
        · simp (disch := first | assumption | exact mnl_i | exact mnl_r | exact mnl_n | exact mnl_0 | omega) only [↓reduceIte, tolS, E131_60, E131_91, E131_238, E131_245, dShG, dShP, dShR, up2_f, g2, h10, q_ee, c, pix_nI, hb1, M126 hb2, cl, M127 hb2, cd, show ¬ (1 : Int32) = 0 by decide]
          refine M131_d hT hlt cl cd d _ P hP (n - s) s _ _ rfl (Nat.le_refl _) hs ?_ (nxS_up (nxS_up g1 (by omega)) (by omega)) (by rw [up2_f (by decide), up2_f (by decide)]; exact g2) (by rw [up2_f (by decide), up2_s]) ?_
          · unfold tkE
            rw [if_neg cl, if_pos cd]
            exact exT_s (f := fun j => isDB (b j)) hlt cd
          · rw [up2_s, Nat.sub_self]; rfl
        · have hE : tkE n b s = s + 1 := by unfold tkE; rw [if_neg cl, if_neg cd]
          have hTt : tkT n b s = sgT (b s) := by unfold tkT; rw [if_neg cl, if_neg cd]
          rw [hE, hTt] at hP
          rcases sgT_is (b s) with ⟨x1, x2⟩ | ⟨x1, x2⟩
          · simp (disch := first | assumption | exact mnl_i | exact mnl_r | exact mnl_n | exact mnl_0 | omega) only [↓reduceIte, tolS, E131_60, E131_91, E131_238, E131_353, E131_371, E131_377, E131_380, dShG, dShP, dShR, up2_f, up2_s, g2, h10, q_ee, c, pix_nI, hb1, M126 hb2, cl, M127 hb2, cd, M128_y x1, show ¬ (1 : Int32) = 0 by decide, q_add]
            refine hP _ _ (nxS_up (nxS_up (nxS_up g1 (by omega)) (by omega)) (by omega)) (by rw [up2_f (by decide), up2_f (by decide), up2_f (by decide)]; exact g2) (by rw [up2_f (by decide), up2_s]) (sg_mtk _ _ (by rw [up2_s, if_neg x2]))
          · simp (disch := first | assumption | exact mnl_i | exact mnl_r | exact mnl_n | exact mnl_0 | omega) only [↓reduceIte, tolS, E131_60, E131_91, E131_238, E131_353, E131_375, E131_377, E131_380, dShG, dShP, dShR, up2_f, up2_s, g2, h10, q_ee, c, pix_nI, hb1, M126 hb2, cl, M127 hb2, cd, M128_n hb2 x1, q_add]
            refine hP _ _ (nxS_up (nxS_up (nxS_up g1 (by omega)) (by omega)) (by omega)) (by rw [up2_f (by decide), up2_f (by decide), up2_f (by decide)]; exact g2) (by rw [up2_f (by decide), up2_s]) (sg_mtk _ _ (by rw [up2_s, if_pos x2]))
  have loop : ∀ (m q : Nat) (I1 : TI), n - q = m → q ≤ n → skp n b q = skp n b j → nxS I I1 → I1 0 17 = nI q → mFr (d + 1) 131 8 [some (.ref 0), none] [] (mkH dSh I1 V L A) P := by
    intro m
    induction m with
    | zero =>
      intro q I1 hm g1 g2 g3 g4
      have h10 := (MTP_nx hT g3).1
      have e : ¬ q < n := by omega
      have hq : skp n b q = q := exT_e (by omega)
      simp (disch := first | assumption | exact mnl_i | exact mnl_r | exact mnl_n | exact mnl_0 | omega) only [↓reduceIte, tolS, E131_8, dShG, h10, g4, q_ll, e]
      exact after I1 g3 (by rw [← g2, hq]; exact g4)
    | succ m ih =>
      intro q I1 hm g1 g2 g3 g4
      have h10 := (MTP_nx hT g3).1
      have e : q < n := by omega
      have h160 : q < 160 := by omega
      obtain ⟨hb1, hb2⟩ := hT.2.2 q e
      by_cases c : isBB (b q) = true
      · rw [skp_bl e c] at g2
        have hbb : b q = 32 ∨ b q = 10 := by simpa [isBB] using c
        have go : mFr (d + 1) 131 47 [some (.ref 0), none] [] (mkH dSh I1 V L A) P := by
          simp (disch := first | assumption | exact mnl_i | exact mnl_r | exact mnl_n | exact mnl_0 | omega) only [E131_47, dShG, dShP, g4, q_add]
          exact ih (q + 1) _ (by omega) (by omega) g2 (nxS_up g3 (by omega)) up2_s
        by_cases c32 : b q = 32
        · simp (disch := first | assumption | exact mnl_i | exact mnl_r | exact mnl_n | exact mnl_0 | omega) only [↓reduceIte, tolS, E131_8, E131_19, dShG, dShR, h10, g4, q_ll, e, pix_nI, hb1, q_eq, c32]
          exact go
        · have c10 : b q = 10 := by omega
          simp (disch := first | assumption | exact mnl_i | exact mnl_r | exact mnl_n | exact mnl_0 | omega) only [↓reduceIte, tolS, E131_8, E131_19, E131_33, dShG, dShR, h10, g4, q_ll, e, pix_nI, hb1, q_eq, c32, c10]
          exact go
      · have hnb : ¬ b q = 32 ∧ ¬ b q = 10 := by simpa [isBB] using c
        have n1 := hnb.1
        have n2 := hnb.2
        simp (disch := first | assumption | exact mnl_i | exact mnl_r | exact mnl_n | exact mnl_0 | omega) only [↓reduceIte, tolS, E131_8, E131_19, E131_33, dShG, dShR, h10, g4, q_ll, e, pix_nI, hb1, q_eq, n1, n2]
        exact after I1 g3 (by rw [← g2, skp_nb e c]; exact g4)
  simp (disch := first | assumption | exact mnl_i | exact mnl_r | exact mnl_n | exact mnl_0 | omega) only [↓reduceIte, tolS, E131_0, B131, dShG, dShP, h18]
  exact loop (n - j) j _ rfl hj rfl (nxS_up nxS_self (by omega)) up2_s
end MN
