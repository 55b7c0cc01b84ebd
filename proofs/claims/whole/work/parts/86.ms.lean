/-! the reference: closes, goesOn, a part -/
theorem sstep_cnt {s s1 : SYS} {t : Nat} (h : sstep s t = some s1) (hc : cnt s.2.1 ≤ 5) : cnt s1.2.1 ≤ 5 := by
  obtain ⟨c, ws, cm, bh, st⟩ := s
  replace hc : cnt ws ≤ 5 := hc
  have l7 := cnt_layr 7 ws
  cases bh
  · simp only [sstep] at h
    split at h
    · cases h; show cnt (layr 7 ws) ≤ 5; omega
    · split at h
      · rename_i hq
        have h5 := hq.2
        have ho : ∀ x, opn x ≤ 1 := fun x => by unfold opn; split <;> omega
        split at h
        · cases h
          show opn _ + cnt ws ≤ 5
          have := ho (if cm = true then 112 else 12)
          omega
        · split at h
          · cases h; show opn 22 + cnt ws ≤ 5; have := ho 22; omega
          · cases h; show opn 11 + cnt ws ≤ 5; have := ho 11; omega
      · cases h
  · simp only [sstep] at h
    split at h
    · split at h
      · cases h
      · rename_i bb w hb
        cases h
        have h1 := cnt_layr 1 ws
        rw [hb] at h1
        have h2 := cnt_layr 7 w
        simp only [cnt] at h1
        show cnt (layr 7 w) ≤ 5
        omega
    · split at h
      · cases h
      · rename_i hs
        cases h
        have h1 := cnt_layr (rk t) ws
        have ho : opn t = 0 := by
          have hsg : sgn cm t ≠ 0 := hs
          unfold sgn at hsg
          have h2 := rk_cases t
          unfold opn
          rw [if_neg]
          intro z
          split at hsg
          · omega
          · split at hsg
            · omega
            · exact hsg rfl
        show opn t + cnt (layr (rk t) ws) ≤ 5
        omega
theorem lexB_n {n : Nat} {b : Nat → Nat} : lexB n b n = n := by
  have key : ∀ i, lexB n b i = n ∨ i ≤ lexB n b i := by
    intro i
    induction i with
    | zero => exact Or.inr (Nat.zero_le _)
    | succ i ih =>
      by_cases c : lexB n b i = n
      · exact Or.inl (lex_end c (i + 1) (by omega)).2
      · have h1 := lexB_le (n := n) (b := b) i
        have h2 := (lex_next (n := n) (b := b) (c := i) rfl (by omega)).1
        have h3 := tkE_le (n := n) (b := b) (s := lexB n b i) (by omega)
        have h4 := (skp_le (n := n) (b := b) h3.2).1
        rw [← h2] at h4
        right
        rcases ih with z | z
        · exact absurd z c
        · omega
  rcases key n with z | z
  · exact z
  · have := lexB_le (n := n) (b := b) n; omega
theorem lex_F {n : Nat} {b : Nat → Nat} (hn : n ≤ 160) : FTk (lexT n b) (lexB n b) n n := FTk_of hn hn lexB_n
section MS
variable {n base : Nat} {b : Nat → Nat} {I A : TI} {V : TV} {L : Nat → Int64}
theorem sgn_w {cm : Bool} {t : Nat} (h : ¬ sgn cm t = 0) : sgn cm t = t ∧ wOk t ∧ 1 ≤ rk t ∧ rk t ≤ 6 := by
  have h2 := rk_cases t
  unfold sgn at h ⊢
  unfold wOk
  split
  · exact ⟨rfl, by omega, by omega, by omega⟩
  · rename_i h3
    rw [if_neg h3] at h
    split
    · exact ⟨rfl, by omega, by omega, by omega⟩
    · rename_i h4
      rw [if_neg h4] at h
      exact absurd rfl h
theorem wtr_m1 {x : Nat} (hx : wOk x) (hr : 1 ≤ rk x) : ¬ wtr x = -1 := by
  rcases wtr_rk x hx with ⟨e1, e2⟩ | ⟨e1, e2⟩ | ⟨e1, e2⟩ | ⟨e1, e2⟩ | ⟨e1, e2⟩ | ⟨e1, e2⟩ | ⟨e1, e2⟩ | ⟨e1, e2⟩
  · omega
  · rw [e2]; decide
  · rw [e2]; decide
  · rw [e2]; decide
  · rcases e2 with e2 | e2 <;> rw [e2] <;> decide
  · rcases e2 with e2 | e2 <;> rw [e2] <;> decide
  · rw [e2]; decide
  · rw [e2]; decide
theorem layr_hd {l : Nat} : ∀ {ws : List Nat} {x : Nat} {w : List Nat}, layr l ws = x :: w → rk x < l := by
  intro ws
  induction ws with
  | nil => intro x w h; cases h
  | cons y v ih =>
    intro x w h
    simp only [layr] at h
    split at h
    · exact ih h
    · rename_i hl
      cases h
      omega
theorem M139 {i : Nat} {c ws : List Nat} {cm st : Bool} (h : MPS n b base I A L i (c, ws, cm, true, st)) (hz : base + c.length + ws.length + 2 < 3000) (hz2 : ws.length + 1 < 200) (h13 : lexT n b i = 13) (d : Nat) (P : MP)
    (hy : ∀ s' I' A', sstep (c, ws, cm, true, st) (lexT n b i) = some s' → mpS base I A I' A' → MPS n b base I' A' L i s' → P (some (.int 1)) (mkH dSh I' V L A'))
    (hn : ∀ I' A', sstep (c, ws, cm, true, st) (lexT n b i) = none → mpS base I A I' A' → I' 0 17 = I 0 17 → P (some (.int 0)) (mkH dSh I' V L A')) : mRun (d + 3) 139 [.ref 0] (mkH dSh I V L A) P := by
  obtain ⟨hT, hTo, (hCd : MCd base I A c), (hWt : MWt I A ws), ⟨(f25 : I 0 25 = bI cm), (f26 : I 0 26 = bI true), (f27 : I 0 27 = bI st)⟩, (hc5 : cnt ws ≤ 5)⟩ := h
  have hl1 := lay_len 1 ws
  simp (disch := first | assumption | exact mnl_i | exact mnl_r | exact mnl_n | exact mnl_0 | omega) only [↓reduceIte, tolS, E139_0.1, E139_0.2.1, E139_0.2.2.1, B139, dShG]
  refine M135r (l := 1) (by omega) (by omega) (by omega) (by omega) hCd hWt _ _ (fun I1 A1 q1 q2 q3 => ?_)
  have fk1 : ∀ f, f ≠ 16 → f ≠ 23 → f ≠ 24 → I1 0 f = I 0 f := q1.1
  rcases hr : layr 1 ws with _ | ⟨br, w⟩
  · have hst : sstep (c, ws, cm, true, st) (lexT n b i) = none := by
      simp only [sstep, if_pos h13, hr]
    have h23 : I1 0 23 = 0 := by have := q3.1; rw [hr] at this; exact this
    simp (disch := first | assumption | exact mnl_i | exact mnl_r | exact mnl_n | exact mnl_0 | omega) only [↓reduceIte, tolN, tolS, E139_0.2.2.2.1, E139_0.2.2.2.2.1, E139_0.2.2.2.2.2, E139_12, dShG, h23]
    exact hn I1 A1 hst (mpS_ly q1) (fk1 17 (by omega) (by omega) (by omega))
  · rw [hr] at q3 hl1
    obtain ⟨w1, w2, w3, w4⟩ := q3
    rw [List.length_cons] at w1 hl1
    have hbr := w4 br (List.mem_cons_self ..)
    have hrk := layr_hd hr
    have hop : opn br = 1 := by unfold opn; rw [if_pos (Or.inl (by omega))]
    have hnr := wtr_not br hbr
    have hst : sstep (c, ws, cm, true, st) (lexT n b i) = some (c ++ layc 1 ws ++ layc 7 w, layr 7 w, decide (br = 112), true, st) := by
      simp only [sstep, if_pos h13, hr]
    have htop : A1 12 w.length = wtr br := by
      have := stk_top (s := w.map wtr) (v := wtr br) w2
      rw [List.length_map] at this
      exact this
    have hne : ¬ nI (w.length + 1) = 0 := by
      intro z
      have := (nI_eq (a := w.length + 1) (b := 0) (by omega) (by omega)).mp z
      omega
    have hsub : nI (w.length + 1) - 1 = nI w.length := q_sub.1 (w.length + 1) (by omega)
    have hw200 : w.length < 200 := by omega
    have g24 : I1 0 24 = nI (1 + cnt w) := by rw [w3, cnt, hop]
    have gs : nI (1 + cnt w) - 1 = nI (cnt w) := (q_sub.1 (1 + cnt w) (by omega)).trans (by rw [show 1 + cnt w - 1 = cnt w by omega])
    have go0 : ∀ v : Int32, v = bI (decide (br = 112)) → mRun (d + 2) 135 [.ref 0, .int (nI 7)] (mkH dSh (up2 (up2 (up2 I1 0 23 (nI w.length)) 0 25 v) 0 24 (nI (cnt w))) V L A1) (fun v' h' => mFr (d + 2) 139 63 [some (.ref 0)] (v'.toList ++ []) h' P) := by
      intro v hv
      have hc3 : MCd base (up2 (up2 (up2 I1 0 23 (nI w.length)) 0 25 v) 0 24 (nI (cnt w))) A1 (c ++ layc 1 ws) := ⟨by rw [up2_f (by decide), up2_f (by decide), up2_f (by decide)]; exact q2.1, q2.2⟩
      have hw3 : MWt (up2 (up2 (up2 I1 0 23 (nI w.length)) 0 25 v) 0 24 (nI (cnt w))) A1 w := ⟨by rw [up2_f (by decide), up2_f (by decide), up2_s], stk_tail w2, up2_s, fun y hy => w4 y (List.mem_cons_of_mem _ hy)⟩
      have hl3 : base + (c ++ layc 1 ws).length + w.length < 3000 := by rw [List.length_append]; omega
      have hw200' : w.length < 200 := hw200
      refine M135r (l := 7) (by omega) (by omega) hw200' hl3 hc3 hw3 _ _ (fun I2 A2 p1 p2 p3 => ?_)
      simp (disch := first | assumption | exact mnl_i | exact mnl_r | exact mnl_n | exact mnl_0 | omega) only [↓reduceIte, tolN, tolS, E139_44.2.2.2.2.2.2.2.2.2.2.1, E139_44.2.2.2.2.2.2.2.2.2.2.2.1, E139_44.2.2.2.2.2.2.2.2.2.2.2.2.1, E139_44.2.2.2.2.2.2.2.2.2.2.2.2.2, dShG]
      have fk2 : ∀ f, f ≠ 16 → f ≠ 23 → f ≠ 24 → f ≠ 25 → I2 0 f = I 0 f := fun f f1 f2 f3 f4 => by rw [p1.1 f f1 f2 f3, up2_f f3, up2_f f4, up2_f f2, fk1 f f1 f2 f3]
      have m2 : mpS base I A I2 A2 := ⟨fun f hf => fk2 f (by omega) (by omega) (by omega) (by omega), fun b' h1 h2 => by rw [p1.2.1 b' h1 h2, q1.2.1 b' h1 h2], fun j hj => by rw [p1.2.2 j hj, q1.2.2 j hj]⟩
      refine hy _ I2 A2 hst m2 ⟨MTP_mp hT m2, MTo_ly hTo (fk2 17 (by omega) (by omega) (by omega) (by omega)) (fk2 18 (by omega) (by omega) (by omega) (by omega)) (fk2 19 (by omega) (by omega) (by omega) (by omega)) (fk2 20 (by omega) (by omega) (by omega) (by omega)), p2, p3, ⟨?_, ?_, ?_⟩, ?_⟩
      · rw [p1.1 25 (by omega) (by omega) (by omega), up2_f (by decide), up2_s, hv]
      · rw [fk2 26 (by omega) (by omega) (by omega) (by omega)]; exact f26
      · rw [fk2 27 (by omega) (by omega) (by omega) (by omega)]; exact f27
      · have h1 := cnt_layr 1 ws
        have h2 := cnt_layr 7 w
        rw [hr] at h1
        simp only [cnt] at h1
        show cnt (layr 7 w) ≤ 5
        omega
    have go : ∀ v : Int32, (v = 0 ∨ v = 1) → v = bI (decide (br = 112)) → mFr (d + 2) 139 44 [some (.ref 0)] [.int v, .ref 0] (mkH dSh (up2 I1 0 23 (nI w.length)) V L A1) P := by
      intro v hv hv2
      have := go0 v hv2
      rcases hv with rfl | rfl
      · simp (disch := first | assumption | exact mnl_i | exact mnl_r | exact mnl_n | exact mnl_0 | omega) only [↓reduceIte, tolN, tolS, E139_44.1, E139_44.2.1, E139_44.2.2.1, E139_44.2.2.2.1, E139_44.2.2.2.2.1, E139_44.2.2.2.2.2.1, E139_44.2.2.2.2.2.2.1, E139_44.2.2.2.2.2.2.2.1, E139_44.2.2.2.2.2.2.2.2.1, E139_44.2.2.2.2.2.2.2.2.2.1, dShG, dShP, up2_f, g24, gs]
        exact this
      · simp (disch := first | assumption | exact mnl_i | exact mnl_r | exact mnl_n | exact mnl_0 | omega) only [↓reduceIte, tolN, tolS, E139_44.1, E139_44.2.1, E139_44.2.2.1, E139_44.2.2.2.1, E139_44.2.2.2.2.1, E139_44.2.2.2.2.2.1, E139_44.2.2.2.2.2.2.1, E139_44.2.2.2.2.2.2.2.1, E139_44.2.2.2.2.2.2.2.2.1, E139_44.2.2.2.2.2.2.2.2.2.1, dShG, dShP, up2_f, g24, gs]
        exact this
    by_cases c112 : br = 112
    · have e2 : wtr br = -2 := hnr.2.2.mpr c112
      simp (disch := first | assumption | exact mnl_i | exact mnl_r | exact mnl_n | exact mnl_0 | omega) only [↓reduceIte, tolN, tolS, E139_0.2.2.2.1, E139_0.2.2.2.2.1, E139_0.2.2.2.2.2, E139_14, E139_39, dShG, dShP, dShR, w1, hne, hsub, up2_s, pix_nI, htop, e2]
      exact go 1 (Or.inr rfl) (by rw [decide_eq_true c112]; rfl)
    · have e2 : ¬ wtr br = -2 := fun z => c112 (hnr.2.2.mp z)
      simp (disch := first | assumption | exact mnl_i | exact mnl_r | exact mnl_n | exact mnl_0 | omega) only [↓reduceIte, tolN, tolS, E139_0.2.2.2.1, E139_0.2.2.2.2.1, E139_0.2.2.2.2.2, E139_14, E139_43, dShG, dShP, dShR, w1, hne, hsub, up2_s, pix_nI, htop, e2]
      exact go 0 (Or.inl rfl) (by rw [decide_eq_false c112]; rfl)
theorem M140 {i : Nat} {s : SYS} (h : MPS n b base I A L i s) (hz : base + s.1.length + s.2.1.length + 2 < 3000) (hz2 : s.2.1.length + 1 < 200) (d : Nat) (P : MP)
    (hy : ∀ s' I' A', sstep s (lexT n b i) = some s' → mpS base I A I' A' → MPS n b base I' A' L i s' → P (some (.int 1)) (mkH dSh I' V L A'))
    (hn : ∀ I' A', sstep s (lexT n b i) = none → mpS base I A I' A' → I' 0 17 = I 0 17 → P (some (.int 0)) (mkH dSh I' V L A')) : mRun (d + 4) 140 [.ref 0] (mkH dSh I V L A) P := by
  obtain ⟨c, ws, cm, bh, st⟩ := s
  replace hz : base + c.length + ws.length + 2 < 3000 := hz
  replace hz2 : ws.length + 1 < 200 := hz2
  have h0 := h
  obtain ⟨hT, hTo, (hCd : MCd base I A c), (hWt : MWt I A ws), ⟨(f25 : I 0 25 = bI cm), (f26 : I 0 26 = bI bh), (f27 : I 0 27 = bI st)⟩, (hc5 : cnt ws ≤ 5)⟩ := h
  obtain ⟨s45, s40, s41, s59, s101, s42, s43, s60, s61, s119⟩ := mtk_s hTo.2.2
  cases bh
  · simp (disch := first | assumption | exact mnl_i | exact mnl_r | exact mnl_n | exact mnl_0 | omega) only [↓reduceIte, tolS, E140_0, E140_7.1, E140_7.2.1, E140_7.2.2.1, E140_7.2.2.2.1, B140, dShG, f26, f27, bI_0]
    refine M137 h0 hz hz2 _ _ (fun s' I1 A1 q1 q2 q3 => ?_) (fun q1 => ?_)
    · simp (disch := first | assumption | exact mnl_i | exact mnl_r | exact mnl_n | exact mnl_0 | omega) only [↓reduceIte, tolS, E140_7.2.2.2.2.1, E140_7.2.2.2.2.2.1, E140_7.2.2.2.2.2.2]
      exact hy s' I1 A1 q1 q2 q3
    · simp (disch := first | assumption | exact mnl_i | exact mnl_r | exact mnl_n | exact mnl_0 | omega) only [↓reduceIte, tolS, E140_7.2.2.2.2.1, E140_7.2.2.2.2.2.1, E140_7.2.2.2.2.2.2]
      exact hn I A q1 mpS_refl rfl
  · by_cases c13 : lexT n b i = 13
    · simp (disch := first | assumption | exact mnl_i | exact mnl_r | exact mnl_n | exact mnl_0 | omega) only [↓reduceIte, tolS, E140_0, E140_16, E140_25.1, E140_25.2.1, B140, dShG, f26, bI_0, show ¬ true = false by decide, s41, c13]
      refine M139 h0 hz hz2 c13 _ _ (fun s' I1 A1 q1 q2 q3 => ?_) (fun I1 A1 q1 q2 q3 => ?_)
      · simp (disch := first | assumption | exact mnl_i | exact mnl_r | exact mnl_n | exact mnl_0 | omega) only [↓reduceIte, tolS, E140_25.2.2.1, E140_25.2.2.2.1, E140_25.2.2.2.2]
        exact hy s' I1 A1 q1 q2 q3
      · simp (disch := first | assumption | exact mnl_i | exact mnl_r | exact mnl_n | exact mnl_0 | omega) only [↓reduceIte, tolS, E140_25.2.2.1, E140_25.2.2.2.1, E140_25.2.2.2.2]
        exact hn I1 A1 q1 q2 q3
    · by_cases cs : sgn cm (lexT n b i) = 0
      · have hst : sstep (c, ws, cm, true, st) (lexT n b i) = none := by simp only [sstep, if_neg c13, if_pos cs]
        simp (disch := first | assumption | exact mnl_i | exact mnl_r | exact mnl_n | exact mnl_0 | omega) only [↓reduceIte, tolS, E140_0, E140_16, E140_30, E140_40, B140, dShG, f26, bI_0, show ¬ true = false by decide, s41, c13, M138 hTo.2.2 f25, cs]
        exact hn I A hst mpS_refl rfl
      · obtain ⟨e1, e2, e3, e4⟩ := sgn_w cs
        have hst : sstep (c, ws, cm, true, st) (lexT n b i) = some (c ++ layc (rk (lexT n b i)) ws, lexT n b i :: layr (rk (lexT n b i)) ws, (if rk (lexT n b i) < 3 then false else if rk (lexT n b i) = 4 then true else cm), false, decide (rk (lexT n b i) < 3)) := by simp only [sstep, if_neg c13, if_neg cs]
        have hcn := sstep_cnt hst hc5
        have hlen := layr_len (rk (lexT n b i)) ws
        generalize hti : lexT n b i = t at *
        have hm1 := wtr_m1 e2 e3
        have hrk2 : rk t < 2 ^ 31 := by omega
        have M138' := fun d => M138 (V := V) (A := A) (L := L) hTo.2.2 f25 d
        rw [hti, if_neg cs, e1] at M138'
        simp (disch := first | assumption | exact mnl_i | exact mnl_r | exact mnl_n | exact mnl_0 | omega) only [↓reduceIte, tolS, E140_0, E140_16, E140_30, E140_42.1, E140_42.2.1, E140_42.2.2.1, E140_42.2.2.2.1, B140, dShG, f26, bI_0, show ¬ true = false by decide, s41, c13, M138', hm1, M134 e2]
        refine M135r e3 (by omega) (by omega) (by omega) hCd hWt _ _ (fun I1 A1 q1 q2 q3 => ?_)
        simp (disch := first | assumption | exact mnl_i | exact mnl_r | exact mnl_n | exact mnl_0 | omega) only [↓reduceIte, tolN, tolS, E140_42.2.2.2.2.1, E140_42.2.2.2.2.2.1, E140_42.2.2.2.2.2.2.1, dShG]
        refine M136 (by omega) q2 q3 e2 _ _ (fun I2 A2 p1 p2 p3 => ?_)
        have fk2 : ∀ f, f ≠ 16 → f ≠ 23 → f ≠ 24 → I2 0 f = I 0 f := fun f f1 f2 f3 => by rw [p1.1 f f1 f2 f3, q1.1 f f1 f2 f3]
        have l2 := lyS_trans q1 p1
        have M : ∀ (I3 : TI) (cm' : Bool), (∀ f, f ≠ 25 → f ≠ 26 → f ≠ 27 → I3 0 f = I2 0 f) → I3 0 25 = bI (if rk t < 3 then false else if rk t = 4 then true else cm) → I3 0 26 = bI false → I3 0 27 = bI (decide (rk t < 3)) → mpS base I A I3 A2 ∧ MPS n b base I3 A2 L i (c ++ layc (rk t) ws, t :: layr (rk t) ws, (if rk t < 3 then false else if rk t = 4 then true else cm), false, decide (rk t < 3)) := by
          intro I3 _ k1 k2 k3 k4
          have m3 : mpS base I A I3 A2 := ⟨fun f hf => by rw [k1 f (by omega) (by omega) (by omega)]; exact (mpS_ly l2).1 f hf, l2.2.1, l2.2.2⟩
          refine ⟨m3, MTP_mp hT m3, MTo_ly hTo (by rw [k1 17 (by omega) (by omega) (by omega), fk2 17 (by omega) (by omega) (by omega)]) (by rw [k1 18 (by omega) (by omega) (by omega), fk2 18 (by omega) (by omega) (by omega)]) (by rw [k1 19 (by omega) (by omega) (by omega), fk2 19 (by omega) (by omega) (by omega)]) (by rw [k1 20 (by omega) (by omega) (by omega), fk2 20 (by omega) (by omega) (by omega)]), ⟨by rw [k1 16 (by omega) (by omega) (by omega)]; exact p2.1, p2.2⟩, ⟨by rw [k1 23 (by omega) (by omega) (by omega)]; exact p3.1, p3.2.1, by rw [k1 24 (by omega) (by omega) (by omega)]; exact p3.2.2.1, p3.2.2.2⟩, ⟨k2, k3, k4⟩, hcn⟩
        have e25 : I2 0 25 = bI cm := by rw [fk2 25 (by omega) (by omega) (by omega)]; exact f25
        by_cases r3 : rk t < 3
        · simp (disch := first | assumption | exact mnl_i | exact mnl_r | exact mnl_n | exact mnl_0 | omega) only [↓reduceIte, tolN, tolS, E140_42.2.2.2.2.2.2.2.1, E140_42.2.2.2.2.2.2.2.2.1, E140_42.2.2.2.2.2.2.2.2.2.1, E140_42.2.2.2.2.2.2.2.2.2.2.1, E140_42.2.2.2.2.2.2.2.2.2.2.2.1, E140_42.2.2.2.2.2.2.2.2.2.2.2.2.1, E140_42.2.2.2.2.2.2.2.2.2.2.2.2.2.1, E140_42.2.2.2.2.2.2.2.2.2.2.2.2.2.2, E140_69, E140_74, E140_84, E140_105, dShG, dShP, M134 e2, q_lt, r3, up2_s, show ¬ (1 : Int32) = 0 by decide]
          obtain ⟨m3, m4⟩ := M (up2 (up2 (up2 I2 0 26 0) 0 27 1) 0 25 0) cm (fun f f1 f2 f3 => by rw [up2_f f1, up2_f f3, up2_f f2]) (by rw [up2_s, if_pos r3]; rfl) (by rw [up2_f (by decide), up2_f (by decide), up2_s]; rfl) (by rw [up2_f (by decide), up2_s, decide_eq_true r3]; rfl)
          exact hy _ _ _ hst m3 m4
        · by_cases r4 : rk t = 4
          · simp (disch := first | assumption | exact mnl_i | exact mnl_r | exact mnl_n | exact mnl_0 | omega) only [↓reduceIte, tolN, tolS, E140_42.2.2.2.2.2.2.2.1, E140_42.2.2.2.2.2.2.2.2.1, E140_42.2.2.2.2.2.2.2.2.2.1, E140_42.2.2.2.2.2.2.2.2.2.2.1, E140_42.2.2.2.2.2.2.2.2.2.2.2.1, E140_42.2.2.2.2.2.2.2.2.2.2.2.2.1, E140_42.2.2.2.2.2.2.2.2.2.2.2.2.2.1, E140_42.2.2.2.2.2.2.2.2.2.2.2.2.2.2, E140_73, E140_74, E140_92, E140_100, E140_105, dShG, dShP, M134 e2, q_lt, r3, up2_s, q_eq, r4, show ¬ 4 < 3 by decide]
            obtain ⟨m3, m4⟩ := M (up2 (up2 (up2 I2 0 26 0) 0 27 0) 0 25 1) cm (fun f f1 f2 f3 => by rw [up2_f f1, up2_f f3, up2_f f2]) (by rw [up2_s, if_neg r3, if_pos r4]; rfl) (by rw [up2_f (by decide), up2_f (by decide), up2_s]; rfl) (by rw [up2_f (by decide), up2_s, decide_eq_false r3]; rfl)
            exact hy _ _ _ hst m3 m4
          · simp (disch := first | assumption | exact mnl_i | exact mnl_r | exact mnl_n | exact mnl_0 | omega) only [↓reduceIte, tolN, tolS, E140_42.2.2.2.2.2.2.2.1, E140_42.2.2.2.2.2.2.2.2.1, E140_42.2.2.2.2.2.2.2.2.2.1, E140_42.2.2.2.2.2.2.2.2.2.2.1, E140_42.2.2.2.2.2.2.2.2.2.2.2.1, E140_42.2.2.2.2.2.2.2.2.2.2.2.2.1, E140_42.2.2.2.2.2.2.2.2.2.2.2.2.2.1, E140_42.2.2.2.2.2.2.2.2.2.2.2.2.2.2, E140_73, E140_74, E140_92, E140_105, dShG, dShP, M134 e2, q_lt, r3, up2_s, q_eq, r4]
            obtain ⟨m3, m4⟩ := M (up2 (up2 I2 0 26 0) 0 27 0) cm (fun f f1 f2 f3 => by rw [up2_f f3, up2_f f2]) (by rw [up2_f (by decide), up2_f (by decide), e25, if_neg r3, if_neg r4]) (by rw [up2_f (by decide), up2_s]; rfl) (by rw [up2_s, decide_eq_false r3]; rfl)
            exact hy _ _ _ hst m3 m4
end MS
