/-! thoughts changed in thought: ease, change -/
def upT (th : Nat → Nat) (p v : Nat) : Nat → Nat := fun q => if q = p then v else th q
def DR (I : TI) (V : TV) (A : TI) (day rl : Nat) (th : Nat → Nat) : Prop := I 63 1 = nI day ∧ V 63 2 = 23 + 4 * rl ∧ ∀ p, p < 24 → A 64 p = nI (th p)
theorem DR_ext {I : TI} {V : TV} {A : TI} {day rl : Nat} {t1 t2 : Nat → Nat} (h : DR I V A day rl t1) (e : ∀ p, p < 24 → t1 p = t2 p) : DR I V A day rl t2 := ⟨h.1, h.2.1, fun p hp => by rw [← e p hp]; exact h.2.2 p hp⟩
def stp (f : Nat) (g : Int32) (s : Nat × Int32) : Nat × Int32 := if f < s.1 then (f, g) else s
def am1 (F : Nat → Nat) (G : Nat → Int32) (s : Nat × Int32) : Nat → Nat × Int32
  | 0 => s
  | k + 1 => stp (F k) (G k) (am1 F G s k)
theorem stp_le {f : Nat} {g : Int32} {s : Nat × Int32} {l : Nat} (h : s.1 ≤ l) : (stp f g s).1 ≤ l := by
  unfold stp
  split
  · show f ≤ l; omega
  · exact h
theorem am1_le {F : Nat → Nat} {G : Nat → Int32} {s : Nat × Int32} {l : Nat} (h : s.1 ≤ l) : ∀ k, (am1 F G s k).1 ≤ l := by
  intro k
  induction k with
  | zero => exact h
  | succ k ih => exact stp_le ih
theorem takesN_le {W : Nat → List Int32} {th : Nat → Nat} {day : Nat} {r : Nat → Nat} : takesN W th day r ≤ 240 := trN_len 240 r
theorem upd_upd_self {f : Nat → Int32} {k : Nat} {x : Int32} : upd (upd f k x) k (f k) = f := by
  funext j
  by_cases c : j = k
  · rw [c, upd_s]
  · rw [upd_n c, upd_n c]
section K6
variable {I I' A A' I1 A1 : TI} {V V' V1 : TV} {L L' : Nat → Int64} {nt many day rl : Nat} {R : Nat → Nat → Nat} {th th' : Nat → Nat} {W : Nat → Nat → List Int32} {e : TE}
theorem hrl_of (hF : FB nt many R th day rl e) : rl < 6 := by have := hF.1.2.2.2.2; omega
theorem WR_dream (hF : FB nt many R th day rl e) (hc : CB I V A nt W many R th day rl e) (s : cS I V A I1 V1 A1) (D : DR I1 V1 A1 day rl th') (h9 : ∀ p, p < 24 → th' p ≤ 9) {a : Nat} (ha : cSh[a]? = some sRider) {r : Nat → Nat} (hr : ∀ f, f < 6 → I1 a f = nI (r f)) (hk : rOk r) : WR I1 V1 A1 a 63 (23 + 4 * rl) (W rl) th' day r := by
  have hrl := hrl_of hF
  obtain ⟨t1, t2, t3, t4⟩ := c23 hrl
  have hne : a ≠ 63 := fun z => by rw [z] at ha; cases ha
  have ct := CT_S hc.2.1 hF.1.2.2.2.2.2 s
  exact ⟨⟨ha, rfl, rfl, t1, t2, t3, t4, by omega, hne⟩, D.2.1, ct.2.1 rl hF.1.2.2.2.2.1, hr, D.1, D.2.2, hk, hF.1.2.2.1, h9⟩
theorem seat_S (hF : FB nt many R th day rl e) (hc : CB I V A nt W many R th day rl e) (s : cS I V A I1 V1 A1) {j : Nat} (hj : j < many) : ∀ f, f < 6 → I1 (6 + 1 * j) f = nI (R j f) := fun f hf => (CG_S hc.1 hF.1.1 s).2.1 j hj f hf
theorem S75_dream (hF : FB nt many R th day rl e) (hc : CB I V A nt W many R th day rl e) (s : cS I V A I1 V1 A1) (D : DR I1 V1 A1 day rl th') (h9 : ∀ p, p < 24 → th' p ≤ 9) {a : Nat} (ha : cSh[a]? = some sRider) (ha2 : a ≠ 20) {r : Nat → Nat} (hr : ∀ f, f < 6 → I1 a f = nI (r f)) (hk : rOk r) (d : Nat) (P : MP) (hP : ∀ I2 A2, cS I V A I2 V1 A2 → DR I2 V1 A2 day rl th' → (∀ b g, b ≠ 20 → I2 b g = I1 b g) → P (some (.int (nI (takesN (W rl) th' day r)))) (mkH cSh I2 V1 L A2)) : mRun (d + 5) 75 [.ref 0, .ref a, .ref 63] (mkH cSh I1 V1 L A1) P := by
  have hrl := hrl_of hF
  refine S75 (WR_dream hF hc s D h9 ha hr hk) ha2 d P (fun I2 A2 q1 q2 => ?_)
  exact hP I2 A2 (cS_t hrl s q1 q2) ⟨by rw [q1 63 1 (by omega)]; exact D.1, D.2.1, fun p hp => by rw [q2 64 (by omega)]; exact D.2.2 p hp⟩ q1
theorem S75_road (hF : FB nt many R th day rl e) (hc : CB I V A nt W many R th day rl e) (s : cS I V A I1 V1 A1) {a : Nat} (ha : cSh[a]? = some sRider) (ha2 : a ≠ 20) {r : Nat → Nat} (hr : ∀ f, f < 6 → I1 a f = nI (r f)) (hk : rOk r) (d : Nat) (P : MP) (hP : ∀ I2 A2, cS I V A I2 V1 A2 → (∀ b g, b ≠ 20 → I2 b g = I1 b g) → (∀ b, b ≠ 23 + 4 * rl + 2 → A2 b = A1 b) → P (some (.int (nI (takesN (W rl) th day r)))) (mkH cSh I2 V1 L A2)) : mRun (d + 5) 75 [.ref 0, .ref a, .ref 59] (mkH cSh I1 V1 L A1) P := by
  have hrl := hrl_of hF
  refine S75 (WR_thought hF hc s ha hr hk) ha2 d P (fun I2 A2 q1 q2 => ?_)
  exact hP I2 A2 (cS_t hrl s q1 q2) q1 q2
theorem S20_dream (hF : FB nt many R th day rl e) (hc : CB I V A nt W many R th day rl e) (s : cS I V A I1 V1 A1) (d : Nat) (P : MP) (hP : ∀ I2 V2 A2, cS I V A I2 V2 A2 → DR I2 V2 A2 day rl th → (∀ b g, b ≠ 63 → I2 b g = I1 b g) → P none (mkH cSh I2 V2 L A2)) : mRun (d + 1) 20 [.ref 63, .ref 59] (mkH cSh I1 V1 L A1) P := by
  have cg := CG_S hc.1 hF.1.1 s
  refine S20 (b := 63) (b' := 59) rfl rfl rfl rfl (by decide) d P (fun A2 q1 q2 => ?_)
  refine hP _ _ A2 ⟨fun b g hb => ?_, fun b g hb => ?_, fun b hb => ?_⟩ ⟨by rw [up2_s]; exact cg.2.2.1, by rw [up2_s]; exact cg.2.2.2.2, fun p hp => by rw [q2 p hp]; exact cg.2.2.2.1 p hp⟩ (fun b g hb => up2_a hb)
  · rw [up2_a (by unfold scI at hb; omega)]; exact s.1 b g hb
  · rw [up2_a hb]; exact s.2.1 b g hb
  · rw [q1 b (by unfold scA at hb; omega)]; exact s.2.2 b hb
theorem S18_dream (s : cS I V A I1 V1 A1) (D : DR I1 V1 A1 day rl th') {p v : Nat} (hp : p < 24) (d : Nat) (P : MP) (hP : ∀ A2, cS I V A I1 V1 A2 → DR I1 V1 A2 day rl (upT th' p v) → P none (mkH cSh I1 V1 L A2)) : mRun (d + 1) 18 [.ref 63, .int (nI p), .int (nI v)] (mkH cSh I1 V1 L A1) P := by
  rw [S18 (b := 63) rfl rfl hp]
  refine hP _ ⟨s.1, s.2.1, fun b hb => ?_⟩ ⟨D.1, D.2.1, fun q hq => ?_⟩
  · rw [upA_n (by unfold scA at hb; omega)]; exact s.2.2 b hb
  · show upA A1 64 (upd (A1 64) p (nI v)) 64 q = nI (upT th' p v q)
    rw [upA_s]
    unfold upT
    by_cases c : q = p
    · rw [c, upd_s, if_pos rfl]
    · rw [upd_n c, if_neg c]; exact D.2.2 q hq
theorem road_at (hF : FB nt many R th day rl e) (hc : CB I V A nt W many R th day rl e) (s : cS I V A I1 V1 A1) {p : Nat} (hp : p < 24) (d : Nat) (P : MP) : mRun (d + 1) 17 [.ref 59, .int (nI p)] (mkH cSh I1 V1 L A1) P = P (some (.int (nI (th p)))) (mkH cSh I1 V1 L A1) := by
  have cg := CG_S hc.1 hF.1.1 s
  rw [S17 (b := 59) rfl rfl hp]
  rw [show A1 (59 + 1) p = nI (th p) from cg.2.2.2.1 p hp]
/-- the reference's steps, one thought changed -/
theorem M157_T (hF : FB nt many R th day rl e) (hm : MB I A nt W many R th day rl e) (s : mSx I A I1 A1) {g : Nat → Int32} (hg : ∀ p, p < 24 → g p = nI (th' p)) (h9 : ∀ p, p < 24 → th' p ≤ 9) {j : Nat} (hj : j < many) (d : Nat) (P : MP) (hP : ∀ I2 A2, (∀ f, f < 30 ∨ 36 < f → I2 0 f = I1 0 f) → (∀ b, b ≠ 13 → b ≠ 14 → A2 b = upA A1 1 g b) → I2 0 36 = f36 0 (trN (W rl) th' day 240 (R j)) → P (some (.int (nI (takesN (W rl) th' day (R j))))) (mkH dSh I2 V L A2)) : mRun (d + 6) 157 [.ref 0, .int (nI j)] (mkH dSh I1 V L (upA A1 1 g)) P := by
  have hW := WM_of hF.1 (MG_S hm.1 s) (MT_S hm.2.1 s) hj
  obtain ⟨w1, w2, w3, w4, w5, w6, w7, w8, w9, w10⟩ := hW
  have hW' : WM I1 (upA A1 1 g) j rl (W rl) th' day (R j) := by
    refine ⟨w1, w2, w3, ?_, ?_, w6, fun p hp => by rw [upA_s]; exact hg p hp, w8, w9, h9⟩
    · unfold mtx at w4 ⊢
      rw [upA_n (by omega), upA_n (by omega), upA_n (by omega)]
      exact w4
    · rw [upA_n (by omega), upA_n (by omega), upA_n (by omega), upA_n (by omega), upA_n (by omega), upA_n (by omega)]
      exact w5
  exact M157 hW' d P (fun I2 A2 q1 q2 q3 q4 q5 => hP I2 A2 q1 q5 q4)
theorem M157_S (hF : FB nt many R th day rl e) (hm : MB I A nt W many R th day rl e) (s : mSx I A I1 A1) {j : Nat} (hj : j < many) (d : Nat) (P : MP) (hP : ∀ I2 A2, mSx I A I2 A2 → I2 0 36 = f36 0 (trN (W rl) th day 240 (R j)) → P (some (.int (nI (takesN (W rl) th day (R j))))) (mkH dSh I2 V L A2)) : mRun (d + 6) 157 [.ref 0, .int (nI j)] (mkH dSh I1 V L A1) P :=
  M157 (WM_of hF.1 (MG_S hm.1 s) (MT_S hm.2.1 s) hj) d P (fun I2 A2 q1 q2 q3 q4 q5 => hP I2 A2 (mSx_trans s ⟨q1, fun b hb => q5 b (by omega) (by omega)⟩) q4)
theorem JR_T {v : Option Value} {I2 A2 : TI} (hF : FB nt many R th day rl e) (hc : CB I V A nt W many R th day rl e) (hm : MB I' A' nt W many R th day rl e) (s : cS I V A I1 V1 A1) (s' : mSx I' A' I2 A2) : JQ v (mkH cSh I1 V1 L A1) v (mkH dSh I2 V' L' A2) := JR_S hF.1 hF.2 hc.1 hc.2.1 hc.2.2 hm.1 hm.2.1 hm.2.2 s s'
theorem upT_9 (hF : FB nt many R th day rl e) {p v : Nat} (hv : v ≤ 9) : ∀ q, q < 24 → upT th p v q ≤ 9 := by
  intro q hq
  unfold upT
  split
  · exact hv
  · exact hF.1.2.2.2.1 q hq
theorem J78 {hC hM : MH} (h : REL hC hM) (d : Nat) (x w : Int32) : JR (d + 90) 78 160 [.int x, .int w] hC hM := by
  obtain ⟨I, V, L, A, I', V', L', A', nt, W, many, R, th, day, rl, e, ec, em, hF, hc, hm⟩ := REL_B h
  rw [ec, em]
  unfold JR
  have h5 := hF.1.1
  rcases i32_ix x many with ⟨j, hj, hj2, rfl⟩ | hx
  · have hj5 : j < 5 := by omega
    have hlt : 6 + 1 * j < 900 := by omega
    have hrid := c6j hj5
    have hok := hF.1.2.1 j hj
    rcases i32_ix w 2 with ⟨q, hq, hq2, rfl⟩ | hw
    · have hq1 : ¬ 1 < q := by omega
      have wq := fun d h P => M114_in (y := 1) (n := 1) (j := q) rfl (by omega) (by omega) d h P
      generalize hl0 : takesN (W rl) th day (R j) = l0
      have hl240 : l0 ≤ 240 := by rw [← hl0]; exact takesN_le
      generalize hF' : (fun p => takesN (W rl) (upT th p 0) day (R j)) = F
      have hFp : ∀ p, F p = takesN (W rl) (upT th p 0) day (R j) := fun p => by rw [← hF']
      have hF2 : ∀ p, F p ≤ 240 := fun p => by rw [hFp]; exact takesN_le
      have hle : ∀ k, (am1 F nI (l0, -1) k).1 ≤ 240 := am1_le hl240
      -- the reference's half
      have half : ∀ (v : Int32) (I1 : TI) (V1 : TV) (A1 : TI), cS I V A I1 V1 A1 → v = (if q = 0 then (am1 F nI (l0, -1) 24).2 else nI (am1 F nI (l0, -1) 24).1) → mRun (d + 90) 160 [.ref 0, .int (nI j), .int (nI q)] (mkH dSh I' V' L' A') (fun v' h' => JQ (some (.int v)) (mkH cSh I1 V1 L A1) v' h') := by
        intro v I1 V1 A1 s1 hv
        simp (disch := first | assumption | exact mnl_i | exact mnl_r | exact mnl_n | exact mnl_0 | omega) only [↓reduceIte, tolS, E160_0, E160_8, E160_20.1, E160_20.2.1, E160_20.2.2.1, B160, dShG, M116_in hm.1.1 h5 hj, n10, wq]
        refine M157_S hF hm mSx_refl hj _ _ (fun I2 A2 t1 _ => ?_)
        rw [hl0]
        simp (disch := first | assumption | exact mnl_i | exact mnl_r | exact mnl_n | exact mnl_0 | omega) only [↓reduceIte, tolS, E160_20.2.2.2.1, E160_20.2.2.2.2.1, E160_20.2.2.2.2.2.1, E160_20.2.2.2.2.2.2.1, E160_20.2.2.2.2.2.2.2]
        refine up_loop 24 (fun k (s' : TI × TI × Option Value × Option Value) => mFr (d + 89) 160 32 [some (.ref 0), some (.int (nI j)), some (.int (nI q)), some (.int (nI (am1 F nI (l0, -1) k).1)), some (.int (am1 F nI (l0, -1) k).2), some (.int (nI k)), s'.2.2.1, s'.2.2.2] [] (mkH dSh s'.1 V' L' s'.2.1) (fun v' h' => JQ (some (.int v)) (mkH cSh I1 V1 L A1) v' h')) (fun k s' => mSx I' A' s'.1 s'.2.1 ∧ mnl s'.2.2.1 = true) (fun k s' hk hi ih => ?_) (fun s' hi => ?_) (I2, A2, none, none) ⟨t1, rfl⟩
        · obtain ⟨I3, A3, l6, l7⟩ := s'
          obtain ⟨i1, i2⟩ := hi
          replace i1 : mSx I' A' I3 A3 := i1
          replace i2 : mnl l6 = true := i2
          have hk2 : ¬ 23 < k := by omega
          have hrow : A3 1 k = nI (th k) := (MG_S hm.1 i1).2.2.2.1 k hk
          have hg : ∀ p, p < 24 → upd (A3 1) k 0 p = nI (upT th k 0 p) := fun p hp => by
            unfold upT
            by_cases c : p = k
            · rw [c, upd_s, if_pos rfl]; rfl
            · rw [upd_n c, if_neg c]; exact (MG_S hm.1 i1).2.2.2.1 p hp
          simp (disch := first | assumption | exact mnl_i | exact mnl_r | exact mnl_n | exact mnl_0 | omega) only [↓reduceIte, tolS, E160_32, E160_39.1, E160_39.2.1, E160_39.2.2.1, E160_39.2.2.2.1, E160_39.2.2.2.2.1, E160_39.2.2.2.2.2.1, E160_39.2.2.2.2.2.2.1, E160_39.2.2.2.2.2.2.2.1, E160_39.2.2.2.2.2.2.2.2.1, E160_39.2.2.2.2.2.2.2.2.2.1, E160_39.2.2.2.2.2.2.2.2.2.2.1, E160_39.2.2.2.2.2.2.2.2.2.2.2.1, E160_39.2.2.2.2.2.2.2.2.2.2.2.2.1, dShG, dShR, q_gt, hk2, pix_nI]
          refine M157_T hF hm i1 hg (upT_9 hF (by omega)) hj _ _ (fun I4 A4 p1 p2 _ => ?_)
          have e1 : A4 1 = upd (A3 1) k 0 := by rw [p2 1 (by omega) (by omega), upA_s]
          have hmS : mSx I' A' I4 (upA A4 1 (upd (A4 1) k (A3 1 k))) := mSx_trans i1 ⟨p1, fun b hb => by
            by_cases c : b = 1
            · rw [c, upA_s, e1, upd_upd_self]
            · rw [upA_n c, p2 b (by omega) (by omega), upA_n c]⟩
          rw [← hFp]
          have l1 := hle k
          have l2 := hF2 k
          have ih' := ih (I4, upA A4 1 (upd (A4 1) k (A3 1 k)), some (.int (A3 1 k)), some (.int (nI (F k)))) ⟨hmS, rfl⟩
          simp only [am1, stp] at ih'
          by_cases c : F k < (am1 F nI (l0, -1) k).1
          · rw [if_pos c] at ih'
            simp (disch := first | assumption | exact mnl_i | exact mnl_r | exact mnl_n | exact mnl_0 | omega) only [↓reduceIte, tolS, E160_39.2.2.2.2.2.2.2.2.2.2.2.2.2.1, E160_39.2.2.2.2.2.2.2.2.2.2.2.2.2.2.1, E160_39.2.2.2.2.2.2.2.2.2.2.2.2.2.2.2.1, E160_39.2.2.2.2.2.2.2.2.2.2.2.2.2.2.2.2.1, E160_39.2.2.2.2.2.2.2.2.2.2.2.2.2.2.2.2.2.1, E160_39.2.2.2.2.2.2.2.2.2.2.2.2.2.2.2.2.2.2.1, E160_39.2.2.2.2.2.2.2.2.2.2.2.2.2.2.2.2.2.2.2.1, E160_39.2.2.2.2.2.2.2.2.2.2.2.2.2.2.2.2.2.2.2.2.1, E160_39.2.2.2.2.2.2.2.2.2.2.2.2.2.2.2.2.2.2.2.2.2, E160_81, dShG, dShR, pix_nI, q_ll, c]
            simp (disch := first | assumption | exact mnl_i | exact mnl_r | exact mnl_n | exact mnl_0 | omega) only [E160_88, q_add]
            exact ih'
          · rw [if_neg c] at ih'
            simp (disch := first | assumption | exact mnl_i | exact mnl_r | exact mnl_n | exact mnl_0 | omega) only [↓reduceIte, tolS, E160_39.2.2.2.2.2.2.2.2.2.2.2.2.2.1, E160_39.2.2.2.2.2.2.2.2.2.2.2.2.2.2.1, E160_39.2.2.2.2.2.2.2.2.2.2.2.2.2.2.2.1, E160_39.2.2.2.2.2.2.2.2.2.2.2.2.2.2.2.2.1, E160_39.2.2.2.2.2.2.2.2.2.2.2.2.2.2.2.2.2.1, E160_39.2.2.2.2.2.2.2.2.2.2.2.2.2.2.2.2.2.2.1, E160_39.2.2.2.2.2.2.2.2.2.2.2.2.2.2.2.2.2.2.2.1, E160_39.2.2.2.2.2.2.2.2.2.2.2.2.2.2.2.2.2.2.2.2.1, E160_39.2.2.2.2.2.2.2.2.2.2.2.2.2.2.2.2.2.2.2.2.2, E160_78, dShG, dShR, pix_nI, q_ll, c]
            simp (disch := first | assumption | exact mnl_i | exact mnl_r | exact mnl_n | exact mnl_0 | omega) only [E160_88, q_add]
            exact ih'
        · obtain ⟨I3, A3, l6, l7⟩ := s'
          have hk2 : 23 < 24 := by omega
          have fin := JR_T (v := some (.int v)) (L := L) (L' := L') (V' := V') hF hc hm s1 hi.1
          by_cases c0 : q = 0
          · rw [if_pos c0] at hv
            simp (disch := first | assumption | exact mnl_i | exact mnl_r | exact mnl_n | exact mnl_0 | omega) only [↓reduceIte, tolS, E160_32, E160_94, E160_98, E160_104, q_gt, hk2, q_eq, c0]
            rw [← hv]
            exact fin
          · rw [if_neg c0] at hv
            simp (disch := first | assumption | exact mnl_i | exact mnl_r | exact mnl_n | exact mnl_0 | omega) only [↓reduceIte, tolS, E160_32, E160_94, E160_103, E160_104, q_gt, hk2, q_eq, c0]
            rw [← hv]
            exact fin
      simp (disch := first | assumption | exact mnl_i | exact mnl_r | exact mnl_n | exact mnl_0 | omega) only [↓reduceIte, tolS, E78_0, E78_13, E78_17, E78_25.1, E78_25.2.1, E78_25.2.2.1, E78_25.2.2.2.1, E78_25.2.2.2.2.1, E78_25.2.2.2.2.2.1, E78_25.2.2.2.2.2.2.1, E78_25.2.2.2.2.2.2.2.1, B78, cShG, S1_in hc.1.1 h5 hj, hlt, q_neg, q_gt, hq1]
      refine S75_road hF hc cS_refl hrid (by omega) (fun f hf => hc.1.2.1 j hj f hf) hok _ _ (fun I1 A1 s1 _ _ => ?_)
      rw [hl0]
      simp (disch := first | assumption | exact mnl_i | exact mnl_r | exact mnl_n | exact mnl_0 | omega) only [↓reduceIte, tolS, E78_25.2.2.2.2.2.2.2.2.1, E78_25.2.2.2.2.2.2.2.2.2.1, E78_25.2.2.2.2.2.2.2.2.2.2.1, E78_25.2.2.2.2.2.2.2.2.2.2.2.1, E78_25.2.2.2.2.2.2.2.2.2.2.2.2.1, E78_25.2.2.2.2.2.2.2.2.2.2.2.2.2.1, cShG]
      refine S20_dream hF hc s1 _ _ (fun I2 V2 A2 s2 D2 _ => ?_)
      simp (disch := first | assumption | exact mnl_i | exact mnl_r | exact mnl_n | exact mnl_0 | omega) only [↓reduceIte, tolN, tolS, E78_25.2.2.2.2.2.2.2.2.2.2.2.2.2.2.1, E78_25.2.2.2.2.2.2.2.2.2.2.2.2.2.2.2]
      refine up_loop 24 (fun k (s' : TI × TI × Option Value) => mFr (d + 89) 78 53 [some (.ref 0), some (.int (nI j)), some (.int (nI q)), some (.ref (6 + 1 * j)), some (.int (am1 F nI (l0, -1) k).2), some (.int (nI (am1 F nI (l0, -1) k).1)), some (.int (nI k)), s'.2.2] [] (mkH cSh s'.1 V2 L s'.2.1) (fun v h => mRun (d + 90) 160 [.ref 0, .int (nI j), .int (nI q)] (mkH dSh I' V' L' A') (fun v' h' => JQ v h v' h'))) (fun k s' => cS I V A s'.1 V2 s'.2.1 ∧ DR s'.1 V2 s'.2.1 day rl th) (fun k s' hk hi ih => ?_) (fun s' hi => ?_) (I2, A2, none) ⟨s2, D2⟩
      · obtain ⟨I3, A3, l7⟩ := s'
        obtain ⟨i1, i2⟩ := hi
        replace i1 : cS I V A I3 V2 A3 := i1
        replace i2 : DR I3 V2 A3 day rl th := i2
        simp (disch := first | assumption | exact mnl_i | exact mnl_r | exact mnl_n | exact mnl_0 | omega) only [↓reduceIte, tolS, E78_53, E78_60.1, E78_60.2.1, E78_60.2.2.1, E78_60.2.2.2.1, E78_60.2.2.2.2.1, cShG, q_lt, hk]
        refine S18_dream (v := 0) i1 i2 hk _ _ (fun A4 s4 D4 => ?_)
        simp (disch := first | assumption | exact mnl_i | exact mnl_r | exact mnl_n | exact mnl_0 | omega) only [↓reduceIte, tolN, tolS, E78_60.2.2.2.2.2.1, E78_60.2.2.2.2.2.2.1, E78_60.2.2.2.2.2.2.2.1, E78_60.2.2.2.2.2.2.2.2.1, E78_60.2.2.2.2.2.2.2.2.2.1, E78_60.2.2.2.2.2.2.2.2.2.2.1, cShG]
        refine S75_dream hF hc s4 D4 (upT_9 hF (by omega)) hrid (by omega) (seat_S hF hc s4 hj) hok _ _ (fun I5 A5 s5 D5 _ => ?_)
        simp (disch := first | assumption | exact mnl_i | exact mnl_r | exact mnl_n | exact mnl_0 | omega) only [↓reduceIte, tolS, E78_60.2.2.2.2.2.2.2.2.2.2.2.1, E78_60.2.2.2.2.2.2.2.2.2.2.2.2.1, E78_60.2.2.2.2.2.2.2.2.2.2.2.2.2.1, E78_60.2.2.2.2.2.2.2.2.2.2.2.2.2.2.1, E78_60.2.2.2.2.2.2.2.2.2.2.2.2.2.2.2.1, E78_60.2.2.2.2.2.2.2.2.2.2.2.2.2.2.2.2.1, E78_60.2.2.2.2.2.2.2.2.2.2.2.2.2.2.2.2.2.1, E78_60.2.2.2.2.2.2.2.2.2.2.2.2.2.2.2.2.2.2.1, E78_60.2.2.2.2.2.2.2.2.2.2.2.2.2.2.2.2.2.2.2.1, cShG, road_at hF hc s5 hk]
        refine S18_dream s5 D5 hk _ _ (fun A6 s6 D6 => ?_)
        have D7 : DR I5 V2 A6 day rl th := DR_ext D6 (fun p hp => by
          unfold upT
          by_cases c : p = k
          · rw [if_pos c, c]
          · rw [if_neg c, if_neg c])
        rw [← hFp]
        have l1 := hle k
        have l2 := hF2 k
        have ih' := ih (I5, A6, some (.int (nI (F k)))) ⟨s6, D7⟩
        simp only [am1, stp] at ih'
        by_cases c : F k < (am1 F nI (l0, -1) k).1
        · rw [if_pos c] at ih'
          simp (disch := first | assumption | exact mnl_i | exact mnl_r | exact mnl_n | exact mnl_0 | omega) only [↓reduceIte, tolN, tolS, E78_60.2.2.2.2.2.2.2.2.2.2.2.2.2.2.2.2.2.2.2.2.1, E78_60.2.2.2.2.2.2.2.2.2.2.2.2.2.2.2.2.2.2.2.2.2.1, E78_60.2.2.2.2.2.2.2.2.2.2.2.2.2.2.2.2.2.2.2.2.2.2, E78_106, q_ll, c]
          simp (disch := first | assumption | exact mnl_i | exact mnl_r | exact mnl_n | exact mnl_0 | omega) only [E78_114, q_add]
          exact ih'
        · rw [if_neg c] at ih'
          simp (disch := first | assumption | exact mnl_i | exact mnl_r | exact mnl_n | exact mnl_0 | omega) only [↓reduceIte, tolN, tolS, E78_60.2.2.2.2.2.2.2.2.2.2.2.2.2.2.2.2.2.2.2.2.1, E78_60.2.2.2.2.2.2.2.2.2.2.2.2.2.2.2.2.2.2.2.2.2.1, E78_60.2.2.2.2.2.2.2.2.2.2.2.2.2.2.2.2.2.2.2.2.2.2, q_ll, c]
          simp (disch := first | assumption | exact mnl_i | exact mnl_r | exact mnl_n | exact mnl_0 | omega) only [E78_114, q_add]
          exact ih'
      · obtain ⟨I3, A3, l7⟩ := s'
        have hk2 : ¬ 24 < 24 := by omega
        by_cases c0 : q = 0
        · simp (disch := first | assumption | exact mnl_i | exact mnl_r | exact mnl_n | exact mnl_0 | omega) only [↓reduceIte, tolS, E78_53, E78_120, E78_124, E78_131, q_lt, hk2, q_eq, c0]
          have := half _ I3 V2 A3 hi.1 rfl
          rw [if_pos c0] at this
          rw [c0] at this
          exact this
        · simp (disch := first | assumption | exact mnl_i | exact mnl_r | exact mnl_n | exact mnl_0 | omega) only [↓reduceIte, tolS, E78_53, E78_120, E78_129, E78_131, q_lt, hk2, q_eq, c0]
          have := half _ I3 V2 A3 hi.1 rfl
          rw [if_neg c0] at this
          exact this
    · have wq := fun d h P => M114_out (y := 1) (n := 1) (x := w) rfl hw d h P
      have hb : mRun (d + 90) 160 [.ref 0, .int (nI j), .int w] (mkH dSh I' V' L' A') (fun v' h' => JQ (some (.int (-2))) (mkH cSh I V L A) v' h') := by
        simp (disch := first | assumption | exact mnl_i | exact mnl_r | exact mnl_n | exact mnl_0 | omega) only [↓reduceIte, tolS, E160_0, E160_8, E160_17, B160, dShG, M116_in hm.1.1 h5 hj, n10, wq]
        exact JR_B hF hc hm
      rcases hw with hw | ⟨q, hq, hq2, rfl⟩
      · simp (disch := first | assumption | exact mnl_i | exact mnl_r | exact mnl_n | exact mnl_0 | omega) only [↓reduceIte, tolS, E78_0, E78_13, E78_22, B78, cShG, S1_in hc.1.1 h5 hj, hlt, hw]
        exact hb
      · have hq1 : 1 < q := by omega
        simp (disch := first | assumption | exact mnl_i | exact mnl_r | exact mnl_n | exact mnl_0 | omega) only [↓reduceIte, tolS, E78_0, E78_13, E78_17, E78_22, B78, cShG, S1_in hc.1.1 h5 hj, hlt, q_neg, q_gt, hq1]
        exact hb
  · simp (disch := first | assumption | exact mnl_i | exact mnl_r | exact mnl_n | exact mnl_0 | omega) only [↓reduceIte, tolS, E78_0, E78_22, B78, cShG, S1_out hc.1.1 h5 hx]
    simp (disch := first | assumption | exact mnl_i | exact mnl_r | exact mnl_n | exact mnl_0 | omega) only [↓reduceIte, tolS, E160_0, E160_17, B160, dShG, M116_out hm.1.1 h5 hx]
    exact JR_B hF hc hm
end K6
