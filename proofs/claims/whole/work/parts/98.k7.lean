/-! change on both sides -/
def swT (th : Nat → Nat) (i j : Nat) : Nat → Nat := upT (upT th i (th j)) j (th i)
theorem swT_eq {th : Nat → Nat} {i j : Nat} (h : th i = th j) : swT th i j = th := by
  funext q
  unfold swT upT
  by_cases c : q = j
  · rw [if_pos c, c, h]
  · rw [if_neg c]
    by_cases c2 : q = i
    · rw [if_pos c2, c2, h]
    · rw [if_neg c2]
/-- the best of the pairs whose lesser is below k -/
def am2 (F : Nat → Nat → Nat) (s : Nat × Int32) : Nat → Nat × Int32
  | 0 => s
  | k + 1 => am1 (fun m => F k (k + 1 + m)) (fun m => nI (100 * k + (k + 1 + m))) (am2 F s k) (23 - k)
theorem am2_le {F : Nat → Nat → Nat} {s : Nat × Int32} {l : Nat} (h : s.1 ≤ l) : ∀ k, (am2 F s k).1 ≤ l := by
  intro k
  induction k with
  | zero => exact h
  | succ k ih => exact am1_le ih _
section K7
variable {I I' A A' I1 A1 : TI} {V V' V1 : TV} {L L' : Nat → Int64} {nt many day rl : Nat} {R : Nat → Nat → Nat} {th th' : Nat → Nat} {W : Nat → Nat → List Int32} {e : TE}
theorem swT_9 (hF : FB nt many R th day rl e) {i j : Nat} (hi : i < 24) (hj : j < 24) : ∀ q, q < 24 → swT th i j q ≤ 9 := by
  intro q hq
  have h := hF.1.2.2.2.1
  unfold swT upT
  split
  · exact h i hi
  · split
    · exact h j hj
    · exact h q hq
theorem S80 (hF : FB nt many R th day rl e) (hc : CB I V A nt W many R th day rl e) (s : cS I V A I1 V1 A1) (D : DR I1 V1 A1 day rl th) {a : Nat} (ha : cSh[a]? = some sRider) (ha2 : a ≠ 20) {r : Nat → Nat} (hr : ∀ f, f < 6 → I1 a f = nI (r f)) (hk : rOk r) {i j : Nat} (hi : i < 24) (hj : j < 24) (hij : i ≠ j) (d : Nat) (P : MP) (hP : ∀ I2 A2, cS I V A I2 V1 A2 → DR I2 V1 A2 day rl th → (∀ b g, b ≠ 20 → I2 b g = I1 b g) → P (some (.int (nI (takesN (W rl) (swT th i j) day r)))) (mkH cSh I2 V1 L A2)) : mRun (d + 6) 80 [.ref 0, .ref a, .int (nI i), .int (nI j)] (mkH cSh I1 V1 L A1) P := by
  simp (disch := first | assumption | exact mnl_i | exact mnl_r | exact mnl_n | exact mnl_0 | omega) only [↓reduceIte, tolS, E80_0.1, E80_0.2.1, E80_0.2.2.1, E80_0.2.2.2.1, E80_0.2.2.2.2.1, E80_0.2.2.2.2.2.1, E80_0.2.2.2.2.2.2.1, E80_0.2.2.2.2.2.2.2.1, B80, cShG, road_at hF hc s hj]
  refine S18_dream s D hi _ _ (fun A2 s2 D2 => ?_)
  simp (disch := first | assumption | exact mnl_i | exact mnl_r | exact mnl_n | exact mnl_0 | omega) only [↓reduceIte, tolN, tolS, E80_0.2.2.2.2.2.2.2.2.1, E80_0.2.2.2.2.2.2.2.2.2.1, E80_0.2.2.2.2.2.2.2.2.2.2.1, E80_0.2.2.2.2.2.2.2.2.2.2.2.1, E80_0.2.2.2.2.2.2.2.2.2.2.2.2.1, E80_0.2.2.2.2.2.2.2.2.2.2.2.2.2.1, E80_0.2.2.2.2.2.2.2.2.2.2.2.2.2.2.1, E80_0.2.2.2.2.2.2.2.2.2.2.2.2.2.2.2.1, cShG, road_at hF hc s2 hi]
  refine S18_dream s2 D2 hj _ _ (fun A3 s3 D3 => ?_)
  simp (disch := first | assumption | exact mnl_i | exact mnl_r | exact mnl_n | exact mnl_0 | omega) only [↓reduceIte, tolN, tolS, E80_0.2.2.2.2.2.2.2.2.2.2.2.2.2.2.2.2.1, E80_0.2.2.2.2.2.2.2.2.2.2.2.2.2.2.2.2.2.1, E80_0.2.2.2.2.2.2.2.2.2.2.2.2.2.2.2.2.2.2.1, E80_0.2.2.2.2.2.2.2.2.2.2.2.2.2.2.2.2.2.2.2.1, E80_0.2.2.2.2.2.2.2.2.2.2.2.2.2.2.2.2.2.2.2.2.1, E80_0.2.2.2.2.2.2.2.2.2.2.2.2.2.2.2.2.2.2.2.2.2.1, cShG]
  refine S75_dream hF hc s3 (th' := swT th i j) D3 (swT_9 hF hi hj) ha ha2 hr hk _ _ (fun I4 A4 s4 D4 q4 => ?_)
  simp (disch := first | assumption | exact mnl_i | exact mnl_r | exact mnl_n | exact mnl_0 | omega) only [↓reduceIte, tolN, tolS, E80_0.2.2.2.2.2.2.2.2.2.2.2.2.2.2.2.2.2.2.2.2.2.2.1, E80_0.2.2.2.2.2.2.2.2.2.2.2.2.2.2.2.2.2.2.2.2.2.2.2.1, E80_0.2.2.2.2.2.2.2.2.2.2.2.2.2.2.2.2.2.2.2.2.2.2.2.2.1, E80_0.2.2.2.2.2.2.2.2.2.2.2.2.2.2.2.2.2.2.2.2.2.2.2.2.2.1, E80_0.2.2.2.2.2.2.2.2.2.2.2.2.2.2.2.2.2.2.2.2.2.2.2.2.2.2.1, E80_0.2.2.2.2.2.2.2.2.2.2.2.2.2.2.2.2.2.2.2.2.2.2.2.2.2.2.2.1, E80_0.2.2.2.2.2.2.2.2.2.2.2.2.2.2.2.2.2.2.2.2.2.2.2.2.2.2.2.2.1, E80_0.2.2.2.2.2.2.2.2.2.2.2.2.2.2.2.2.2.2.2.2.2.2.2.2.2.2.2.2.2.1, E80_0.2.2.2.2.2.2.2.2.2.2.2.2.2.2.2.2.2.2.2.2.2.2.2.2.2.2.2.2.2.2.1, cShG, road_at hF hc s4 hi]
  refine S18_dream s4 D4 hi _ _ (fun A5 s5 D5 => ?_)
  simp (disch := first | assumption | exact mnl_i | exact mnl_r | exact mnl_n | exact mnl_0 | omega) only [↓reduceIte, tolN, tolS, E80_0.2.2.2.2.2.2.2.2.2.2.2.2.2.2.2.2.2.2.2.2.2.2.2.2.2.2.2.2.2.2.2.1, E80_0.2.2.2.2.2.2.2.2.2.2.2.2.2.2.2.2.2.2.2.2.2.2.2.2.2.2.2.2.2.2.2.2.1, E80_0.2.2.2.2.2.2.2.2.2.2.2.2.2.2.2.2.2.2.2.2.2.2.2.2.2.2.2.2.2.2.2.2.2.1, E80_0.2.2.2.2.2.2.2.2.2.2.2.2.2.2.2.2.2.2.2.2.2.2.2.2.2.2.2.2.2.2.2.2.2.2.1, E80_0.2.2.2.2.2.2.2.2.2.2.2.2.2.2.2.2.2.2.2.2.2.2.2.2.2.2.2.2.2.2.2.2.2.2.2.1, E80_0.2.2.2.2.2.2.2.2.2.2.2.2.2.2.2.2.2.2.2.2.2.2.2.2.2.2.2.2.2.2.2.2.2.2.2.2.1, E80_0.2.2.2.2.2.2.2.2.2.2.2.2.2.2.2.2.2.2.2.2.2.2.2.2.2.2.2.2.2.2.2.2.2.2.2.2.2.1, E80_0.2.2.2.2.2.2.2.2.2.2.2.2.2.2.2.2.2.2.2.2.2.2.2.2.2.2.2.2.2.2.2.2.2.2.2.2.2.2.1, cShG, road_at hF hc s5 hj]
  refine S18_dream s5 D5 hj _ _ (fun A6 s6 D6 => ?_)
  simp (disch := first | assumption | exact mnl_i | exact mnl_r | exact mnl_n | exact mnl_0 | omega) only [↓reduceIte, tolN, tolS, E80_0.2.2.2.2.2.2.2.2.2.2.2.2.2.2.2.2.2.2.2.2.2.2.2.2.2.2.2.2.2.2.2.2.2.2.2.2.2.2.2.1, E80_0.2.2.2.2.2.2.2.2.2.2.2.2.2.2.2.2.2.2.2.2.2.2.2.2.2.2.2.2.2.2.2.2.2.2.2.2.2.2.2.2]
  refine hP I4 A6 s6 (DR_ext D6 (fun p hp => ?_)) q4
  unfold swT upT
  by_cases c : p = j
  · rw [if_pos c, c]
  · rw [if_neg c]
    by_cases c2 : p = i
    · rw [if_pos c2, c2]
    · rw [if_neg c2, if_neg c, if_neg c2]
theorem M161 {i j : Nat} (hi : i < 24) (hj : j < 24) (d : Nat) (P : MP) : mRun (d + 1) 161 [.ref 0, .int (nI i), .int (nI j)] (mkH dSh I V L A) P = P none (mkH dSh I V L (upA A 1 (upd (upd (A 1) i (A 1 j)) j (A 1 i)))) := by
  simp (disch := first | assumption | exact mnl_i | exact mnl_r | exact mnl_n | exact mnl_0 | omega) only [↓reduceIte, tolS, E161_0, B161, dShG, dShR, pix_nI, upA_s, upA_u]
theorem J79 {hC hM : MH} (h : REL hC hM) (d : Nat) (x w : Int32) : JR (d + 90) 79 162 [.int x, .int w] hC hM := by
  obtain ⟨I, V, L, A, I', V', L', A', nt, W, many, R, th, day, rl, e, ec, em, hF, hc, hm⟩ := REL_B h
  rw [ec, em]
  unfold JR
  have h5 := hF.1.1
  have h9 := hF.1.2.2.2.1
  rcases i32_ix x many with ⟨j, hj, hj2, rfl⟩ | hx
  · have hj5 : j < 5 := by omega
    have hlt : 6 + 1 * j < 900 := by omega
    have hrid := c6j hj5
    have hok := hF.1.2.1 j hj
    rcases i32_ix w 2 with ⟨q, hq, hq2, rfl⟩ | hw
    · have hq1 : ¬ 1 < q := by omega
      have wq := fun d h P => M114_in (y := 1) (n := 1) (j := q) rfl (by omega) (by omega) d h P
      generalize hl0 : takesN (W rl) th day (R j) = l0
      have hl240 : l0 ≤ 240 := by rw [← hl0]; exact takesN_le
      generalize hF' : (fun a b => takesN (W rl) (swT th a b) day (R j)) = F
      have hFp : ∀ a b, F a b = takesN (W rl) (swT th a b) day (R j) := fun a b => by rw [← hF']
      have hF2 : ∀ a b, F a b ≤ 240 := fun a b => by rw [hFp]; exact takesN_le
      have hle : ∀ k, (am2 F (l0, -1) k).1 ≤ l0 := am2_le (Nat.le_refl _)
      have hle1 : ∀ k m, (am1 (fun m => F k (k + 1 + m)) (fun m => nI (100 * k + (k + 1 + m))) (am2 F (l0, -1) k) m).1 ≤ l0 := fun k m => am1_le (hle k) m
      have half : ∀ (v : Int32) (I1 : TI) (V1 : TV) (A1 : TI), cS I V A I1 V1 A1 → v = (if q = 0 then (am2 F (l0, -1) 24).2 else nI (am2 F (l0, -1) 24).1) → mRun (d + 90) 162 [.ref 0, .int (nI j), .int (nI q)] (mkH dSh I' V' L' A') (fun v' h' => JQ (some (.int v)) (mkH cSh I1 V1 L A1) v' h') := by
        intro v I1 V1 A1 s1 hv
        simp (disch := first | assumption | exact mnl_i | exact mnl_r | exact mnl_n | exact mnl_0 | omega) only [↓reduceIte, tolS, E162_0, E162_8, E162_20.1, E162_20.2.1, E162_20.2.2.1, B162, dShG, M116_in hm.1.1 h5 hj, n10, wq]
        refine M157_S hF hm mSx_refl hj _ _ (fun I2 A2 t1 _ => ?_)
        rw [hl0]
        simp (disch := first | assumption | exact mnl_i | exact mnl_r | exact mnl_n | exact mnl_0 | omega) only [↓reduceIte, tolS, E162_20.2.2.2.1, E162_20.2.2.2.2.1, E162_20.2.2.2.2.2.1, E162_20.2.2.2.2.2.2.1, E162_20.2.2.2.2.2.2.2]
        refine up_loop 24 (fun k (s' : TI × TI × Option Value × Option Value) => mFr (d + 89) 162 32 [some (.ref 0), some (.int (nI j)), some (.int (nI q)), some (.int (nI (am2 F (l0, -1) k).1)), some (.int (am2 F (l0, -1) k).2), some (.int (nI k)), s'.2.2.1, s'.2.2.2] [] (mkH dSh s'.1 V' L' s'.2.1) (fun v' h' => JQ (some (.int v)) (mkH cSh I1 V1 L A1) v' h')) (fun k s' => mSx I' A' s'.1 s'.2.1 ∧ mnl s'.2.2.1 = true) (fun k s' hk hi ih => ?_) (fun s' hi => ?_) (I2, A2, none, none) ⟨t1, rfl⟩
        · obtain ⟨I3, A3, l6, l7⟩ := s'
          obtain ⟨i1, i2⟩ := hi
          replace i1 : mSx I' A' I3 A3 := i1
          replace i2 : mnl l6 = true := i2
          have hk2 : ¬ 23 < k := by omega
          simp (disch := first | assumption | exact mnl_i | exact mnl_r | exact mnl_n | exact mnl_0 | omega) only [↓reduceIte, tolS, E162_32, E162_39, q_gt, hk2, q_add]
          refine up_loop (23 - k) (fun m (s' : TI × TI × Option Value) => mFr (d + 89) 162 45 [some (.ref 0), some (.int (nI j)), some (.int (nI q)), some (.int (nI (am1 (fun m => F k (k + 1 + m)) (fun m => nI (100 * k + (k + 1 + m))) (am2 F (l0, -1) k) m).1)), some (.int (am1 (fun m => F k (k + 1 + m)) (fun m => nI (100 * k + (k + 1 + m))) (am2 F (l0, -1) k) m).2), some (.int (nI k)), some (.int (nI (k + 1 + m))), s'.2.2] [] (mkH dSh s'.1 V' L' s'.2.1) (fun v' h' => JQ (some (.int v)) (mkH cSh I1 V1 L A1) v' h')) (fun m s' => mSx I' A' s'.1 s'.2.1) (fun m s' hm23 i3 ihm => ?_) (fun s' i3 => ?_) (I3, A3, l7) i1
          · obtain ⟨I4, A4, l7'⟩ := s'
            replace i3 : mSx I' A' I4 A4 := i3
            have hb2 : ¬ 23 < k + 1 + m := by omega
            have hb3 : k + 1 + m < 24 := by omega
            have hrow := (MG_S hm.1 i3).2.2.2.1
            have hg : ∀ p, p < 24 → upd (upd (A4 1) k (A4 1 (k + 1 + m))) (k + 1 + m) (A4 1 k) p = nI (swT th k (k + 1 + m) p) := fun p hp => by
              unfold swT upT
              by_cases c : p = k + 1 + m
              · rw [if_pos c, c, upd_s]; exact hrow k hk
              · rw [if_neg c, upd_n c]
                by_cases c2 : p = k
                · rw [if_pos c2, c2, upd_s]; exact hrow _ hb3
                · rw [if_neg c2, upd_n c2]; exact hrow p hp
            simp (disch := first | assumption | exact mnl_i | exact mnl_r | exact mnl_n | exact mnl_0 | omega) only [↓reduceIte, tolS, E162_45, E162_52.1, E162_52.2.1, E162_52.2.2.1, E162_52.2.2.2.1, dShG, q_gt, hb2, M161 hk hb3]
            simp (disch := first | assumption | exact mnl_i | exact mnl_r | exact mnl_n | exact mnl_0 | omega) only [↓reduceIte, tolN, tolS, E162_52.2.2.2.2.1, E162_52.2.2.2.2.2.1, E162_52.2.2.2.2.2.2.1, dShG]
            refine M157_T hF hm i3 hg (swT_9 hF hk hb3) hj _ _ (fun I5 A5 p1 p2 _ => ?_)
            have e1 : A5 1 = upd (upd (A4 1) k (A4 1 (k + 1 + m))) (k + 1 + m) (A4 1 k) := by rw [p2 1 (by omega) (by omega), upA_s]
            have e2 : upd (upd (A5 1) k (A5 1 (k + 1 + m))) (k + 1 + m) (A5 1 k) = A4 1 := by
              rw [e1]
              funext z
              by_cases c : z = k + 1 + m
              · rw [c, upd_s, upd_n (by omega), upd_s]
              · rw [upd_n c]
                by_cases c2 : z = k
                · rw [c2, upd_s, upd_s]
                · rw [upd_n c2, upd_n c, upd_n c2]
            have hmS : mSx I' A' I5 (upA A5 1 (upd (upd (A5 1) k (A5 1 (k + 1 + m))) (k + 1 + m) (A5 1 k))) := mSx_trans i3 ⟨p1, fun b hb => by
              by_cases c : b = 1
              · rw [c, upA_s, e2]
              · rw [upA_n c, p2 b (by omega) (by omega), upA_n c]⟩
            rw [← hFp]
            have l1 := hle1 k m
            have l2 := hF2 k (k + 1 + m)
            have ih' := ihm (I5, upA A5 1 (upd (upd (A5 1) k (A5 1 (k + 1 + m))) (k + 1 + m) (A5 1 k)), some (.int (nI (F k (k + 1 + m))))) hmS
            rw [← Nat.add_assoc (k + 1) m 1] at ih'
            simp only [am1, stp] at ih'
            simp (disch := first | assumption | exact mnl_i | exact mnl_r | exact mnl_n | exact mnl_0 | omega) only [↓reduceIte, tolS, E162_52.2.2.2.2.2.2.2.1, E162_52.2.2.2.2.2.2.2.2.1, E162_52.2.2.2.2.2.2.2.2.2.1, E162_52.2.2.2.2.2.2.2.2.2.2.1, E162_52.2.2.2.2.2.2.2.2.2.2.2.1, dShG, M161 hk hb3]
            by_cases c : F k (k + 1 + m) < (am1 (fun m => F k (k + 1 + m)) (fun m => nI (100 * k + (k + 1 + m))) (am2 F (l0, -1) k) m).1
            · rw [if_pos c] at ih'
              simp (disch := first | assumption | exact mnl_i | exact mnl_r | exact mnl_n | exact mnl_0 | omega) only [↓reduceIte, tolN, tolS, E162_52.2.2.2.2.2.2.2.2.2.2.2.2.1, E162_52.2.2.2.2.2.2.2.2.2.2.2.2.2.1, E162_52.2.2.2.2.2.2.2.2.2.2.2.2.2.2, E162_84, q_ll, c, q_mul, q_aa]
              simp (disch := first | assumption | exact mnl_i | exact mnl_r | exact mnl_n | exact mnl_0 | omega) only [E162_97, q_add]
              exact ih'
            · rw [if_neg c] at ih'
              simp (disch := first | assumption | exact mnl_i | exact mnl_r | exact mnl_n | exact mnl_0 | omega) only [↓reduceIte, tolN, tolS, E162_52.2.2.2.2.2.2.2.2.2.2.2.2.1, E162_52.2.2.2.2.2.2.2.2.2.2.2.2.2.1, E162_52.2.2.2.2.2.2.2.2.2.2.2.2.2.2, E162_81, q_ll, c]
              simp (disch := first | assumption | exact mnl_i | exact mnl_r | exact mnl_n | exact mnl_0 | omega) only [E162_97, q_add]
              exact ih'
          · obtain ⟨I4, A4, l7'⟩ := s'
            have hb2 : 23 < k + 1 + (23 - k) := by omega
            simp (disch := first | assumption | exact mnl_i | exact mnl_r | exact mnl_n | exact mnl_0 | omega) only [↓reduceIte, tolS, E162_45, E162_103, q_gt, hb2, q_add]
            exact ih (I4, A4, some (.int (nI (k + 1 + (23 - k)))), l7') ⟨i3, rfl⟩
        · obtain ⟨I3, A3, l6, l7⟩ := s'
          have hk2 : 23 < 24 := by omega
          have fin := JR_T (v := some (.int v)) (L := L) (L' := L') (V' := V') hF hc hm s1 hi.1
          by_cases c0 : q = 0
          · rw [if_pos c0] at hv
            simp (disch := first | assumption | exact mnl_i | exact mnl_r | exact mnl_n | exact mnl_0 | omega) only [↓reduceIte, tolS, E162_32, E162_109, E162_113, E162_119, q_gt, hk2, q_eq, c0]
            rw [← hv]
            exact fin
          · rw [if_neg c0] at hv
            simp (disch := first | assumption | exact mnl_i | exact mnl_r | exact mnl_n | exact mnl_0 | omega) only [↓reduceIte, tolS, E162_32, E162_109, E162_118, E162_119, q_gt, hk2, q_eq, c0]
            rw [← hv]
            exact fin
      simp (disch := first | assumption | exact mnl_i | exact mnl_r | exact mnl_n | exact mnl_0 | omega) only [↓reduceIte, tolS, E79_0, E79_13, E79_17, E79_25.1, E79_25.2.1, E79_25.2.2.1, E79_25.2.2.2.1, E79_25.2.2.2.2.1, E79_25.2.2.2.2.2.1, E79_25.2.2.2.2.2.2.1, E79_25.2.2.2.2.2.2.2.1, B79, cShG, S1_in hc.1.1 h5 hj, hlt, q_neg, q_gt, hq1]
      refine S75_road hF hc cS_refl hrid (by omega) (fun f hf => hc.1.2.1 j hj f hf) hok _ _ (fun I1 A1 s1 _ _ => ?_)
      rw [hl0]
      simp (disch := first | assumption | exact mnl_i | exact mnl_r | exact mnl_n | exact mnl_0 | omega) only [↓reduceIte, tolS, E79_25.2.2.2.2.2.2.2.2.1, E79_25.2.2.2.2.2.2.2.2.2.1, E79_25.2.2.2.2.2.2.2.2.2.2.1, E79_25.2.2.2.2.2.2.2.2.2.2.2.1, E79_25.2.2.2.2.2.2.2.2.2.2.2.2.1, E79_25.2.2.2.2.2.2.2.2.2.2.2.2.2.1, cShG]
      refine S20_dream hF hc s1 _ _ (fun I2 V2 A2 s2 D2 _ => ?_)
      simp (disch := first | assumption | exact mnl_i | exact mnl_r | exact mnl_n | exact mnl_0 | omega) only [↓reduceIte, tolN, tolS, E79_25.2.2.2.2.2.2.2.2.2.2.2.2.2.2.1, E79_25.2.2.2.2.2.2.2.2.2.2.2.2.2.2.2]
      refine up_loop 24 (fun k (s' : TI × TI × Option Value × Option Value) => mFr (d + 89) 79 53 [some (.ref 0), some (.int (nI j)), some (.int (nI q)), some (.ref (6 + 1 * j)), some (.int (am2 F (l0, -1) k).2), some (.int (nI (am2 F (l0, -1) k).1)), some (.int (nI k)), s'.2.2.1, s'.2.2.2] [] (mkH cSh s'.1 V2 L s'.2.1) (fun v h => mRun (d + 90) 162 [.ref 0, .int (nI j), .int (nI q)] (mkH dSh I' V' L' A') (fun v' h' => JQ v h v' h'))) (fun k s' => (cS I V A s'.1 V2 s'.2.1 ∧ DR s'.1 V2 s'.2.1 day rl th) ∧ mnl s'.2.2.1 = true) (fun k s' hk hi ih => ?_) (fun s' hi => ?_) (I2, A2, none, none) ⟨⟨s2, D2⟩, rfl⟩
      · obtain ⟨I3, A3, l7, l8⟩ := s'
        obtain ⟨i1, i2⟩ := hi
        replace i1 : cS I V A I3 V2 A3 ∧ DR I3 V2 A3 day rl th := i1
        replace i2 : mnl l7 = true := i2
        simp (disch := first | assumption | exact mnl_i | exact mnl_r | exact mnl_n | exact mnl_0 | omega) only [↓reduceIte, tolS, E79_53, E79_60, q_lt, hk, q_add]
        refine up_loop (23 - k) (fun m (s' : TI × TI × Option Value) => mFr (d + 89) 79 66 [some (.ref 0), some (.int (nI j)), some (.int (nI q)), some (.ref (6 + 1 * j)), some (.int (am1 (fun m => F k (k + 1 + m)) (fun m => nI (100 * k + (k + 1 + m))) (am2 F (l0, -1) k) m).2), some (.int (nI (am1 (fun m => F k (k + 1 + m)) (fun m => nI (100 * k + (k + 1 + m))) (am2 F (l0, -1) k) m).1)), some (.int (nI k)), some (.int (nI (k + 1 + m))), s'.2.2] [] (mkH cSh s'.1 V2 L s'.2.1) (fun v h => mRun (d + 90) 162 [.ref 0, .int (nI j), .int (nI q)] (mkH dSh I' V' L' A') (fun v' h' => JQ v h v' h'))) (fun m s' => cS I V A s'.1 V2 s'.2.1 ∧ DR s'.1 V2 s'.2.1 day rl th) (fun m s' hm23 i3 ihm => ?_) (fun s' i3 => ?_) (I3, A3, l8) i1
        · obtain ⟨I4, A4, l8'⟩ := s'
          obtain ⟨i3, i4⟩ := i3
          replace i3 : cS I V A I4 V2 A4 := i3
          replace i4 : DR I4 V2 A4 day rl th := i4
          have hb3 : k + 1 + m < 24 := by omega
          have t1 := h9 k hk
          have t2 := h9 _ hb3
          have l1 := hle1 k m
          have l2 := hF2 k (k + 1 + m)
          have ih' := fun I5 A5 l => ihm (I5, A5, l)
          rw [← Nat.add_assoc (k + 1) m 1] at ih'
          simp only [am1, stp] at ih'
          by_cases ct : th k = th (k + 1 + m)
          · have hFl : F k (k + 1 + m) = l0 := by rw [hFp, swT_eq ct]; exact hl0
            have c : ¬ F k (k + 1 + m) < (am1 (fun m => F k (k + 1 + m)) (fun m => nI (100 * k + (k + 1 + m))) (am2 F (l0, -1) k) m).1 := by omega
            have ih' := ih' I4 A4 l8' ⟨i3, i4⟩
            rw [if_neg c] at ih'
            simp (disch := first | assumption | exact mnl_i | exact mnl_r | exact mnl_n | exact mnl_0 | omega) only [↓reduceIte, tolS, E79_66, E79_73, E79_94, cShG, q_lt, hb3, road_at hF hc i3 hk, road_at hF hc i3 hb3, q_ee, ct]
            simp (disch := first | assumption | exact mnl_i | exact mnl_r | exact mnl_n | exact mnl_0 | omega) only [E79_129, q_add]
            exact ih'
          · simp (disch := first | assumption | exact mnl_i | exact mnl_r | exact mnl_n | exact mnl_0 | omega) only [↓reduceIte, tolS, E79_66, E79_73, E79_97.1, E79_97.2.1, E79_97.2.2.1, E79_97.2.2.2.1, E79_97.2.2.2.2.1, E79_97.2.2.2.2.2.1, cShG, q_lt, hb3, road_at hF hc i3 hk, road_at hF hc i3 hb3, q_ee, ct]
            refine S80 hF hc i3 i4 hrid (by omega) (seat_S hF hc i3 hj) hok hk hb3 (by omega) _ _ (fun I5 A5 s5 D5 _ => ?_)
            rw [← hFp]
            have ih' := ih' I5 A5 (some (.int (nI (F k (k + 1 + m))))) ⟨s5, D5⟩
            by_cases c : F k (k + 1 + m) < (am1 (fun m => F k (k + 1 + m)) (fun m => nI (100 * k + (k + 1 + m))) (am2 F (l0, -1) k) m).1
            · rw [if_pos c] at ih'
              simp (disch := first | assumption | exact mnl_i | exact mnl_r | exact mnl_n | exact mnl_0 | omega) only [↓reduceIte, tolN, tolS, E79_97.2.2.2.2.2.2.1, E79_97.2.2.2.2.2.2.2.1, E79_97.2.2.2.2.2.2.2.2.1, E79_97.2.2.2.2.2.2.2.2.2, E79_115, q_ll, c, q_mul, q_aa]
              simp (disch := first | assumption | exact mnl_i | exact mnl_r | exact mnl_n | exact mnl_0 | omega) only [E79_129, q_add]
              exact ih'
            · rw [if_neg c] at ih'
              simp (disch := first | assumption | exact mnl_i | exact mnl_r | exact mnl_n | exact mnl_0 | omega) only [↓reduceIte, tolN, tolS, E79_97.2.2.2.2.2.2.1, E79_97.2.2.2.2.2.2.2.1, E79_97.2.2.2.2.2.2.2.2.1, E79_97.2.2.2.2.2.2.2.2.2, q_ll, c]
              simp (disch := first | assumption | exact mnl_i | exact mnl_r | exact mnl_n | exact mnl_0 | omega) only [E79_129, q_add]
              exact ih'
        · obtain ⟨I4, A4, l8'⟩ := s'
          have hb2 : ¬ k + 1 + (23 - k) < 24 := by omega
          simp (disch := first | assumption | exact mnl_i | exact mnl_r | exact mnl_n | exact mnl_0 | omega) only [↓reduceIte, tolS, E79_66, E79_135, q_lt, hb2, q_add]
          exact ih (I4, A4, some (.int (nI (k + 1 + (23 - k)))), l8') ⟨i3, rfl⟩
      · obtain ⟨I3, A3, l7, l8⟩ := s'
        have hk2 : ¬ 24 < 24 := by omega
        by_cases c0 : q = 0
        · simp (disch := first | assumption | exact mnl_i | exact mnl_r | exact mnl_n | exact mnl_0 | omega) only [↓reduceIte, tolS, E79_53, E79_141, E79_145, E79_152, q_lt, hk2, q_eq, c0]
          have := half _ I3 V2 A3 hi.1.1 rfl
          rw [if_pos c0] at this
          rw [c0] at this
          exact this
        · simp (disch := first | assumption | exact mnl_i | exact mnl_r | exact mnl_n | exact mnl_0 | omega) only [↓reduceIte, tolS, E79_53, E79_141, E79_150, E79_152, q_lt, hk2, q_eq, c0]
          have := half _ I3 V2 A3 hi.1.1 rfl
          rw [if_neg c0] at this
          exact this
    · have wq := fun d h P => M114_out (y := 1) (n := 1) (x := w) rfl hw d h P
      have hb : mRun (d + 90) 162 [.ref 0, .int (nI j), .int w] (mkH dSh I' V' L' A') (fun v' h' => JQ (some (.int (-2))) (mkH cSh I V L A) v' h') := by
        simp (disch := first | assumption | exact mnl_i | exact mnl_r | exact mnl_n | exact mnl_0 | omega) only [↓reduceIte, tolS, E162_0, E162_8, E162_17, B162, dShG, M116_in hm.1.1 h5 hj, n10, wq]
        exact JR_B hF hc hm
      rcases hw with hw | ⟨q, hq, hq2, rfl⟩
      · simp (disch := first | assumption | exact mnl_i | exact mnl_r | exact mnl_n | exact mnl_0 | omega) only [↓reduceIte, tolS, E79_0, E79_13, E79_22, B79, cShG, S1_in hc.1.1 h5 hj, hlt, hw]
        exact hb
      · have hq1 : 1 < q := by omega
        simp (disch := first | assumption | exact mnl_i | exact mnl_r | exact mnl_n | exact mnl_0 | omega) only [↓reduceIte, tolS, E79_0, E79_13, E79_17, E79_22, B79, cShG, S1_in hc.1.1 h5 hj, hlt, q_neg, q_gt, hq1]
        exact hb
  · simp (disch := first | assumption | exact mnl_i | exact mnl_r | exact mnl_n | exact mnl_0 | omega) only [↓reduceIte, tolS, E79_0, E79_22, B79, cShG, S1_out hc.1.1 h5 hx]
    simp (disch := first | assumption | exact mnl_i | exact mnl_r | exact mnl_n | exact mnl_0 | omega) only [↓reduceIte, tolS, E162_0, E162_17, B162, dShG, M116_out hm.1.1 h5 hx]
    exact JR_B hF hc hm
end K7
