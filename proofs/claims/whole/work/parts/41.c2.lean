/-! the class: what a text's part tells -/
theorem pix_0 {n : Nat} {K : Nat → Prop} (h : 0 < n) (hn : n < 2 ^ 31) : pix (0 : Int32) n K = K 0 := pix_nI (j := 0) h hn
theorem nI0 : nI 0 = (0 : Int32) := rfl
section C2
variable {I : Nat → Nat → Int32} {V : Nat → Nat → Nat} {L : Nat → Int64} {A : Nat → Nat → Int32}
theorem ev1_push {nm : Int32 → Int32} {s : List Int32} {tok : Int32} (h : ¬ (tok < 100 ∧ 5 < tok)) : ev1 nm s tok = nm tok :: s := by
  unfold ev1
  by_cases c1 : tok < 100
  · have c2 : ¬ 5 < tok := fun x => h ⟨c1, x⟩
    simp only [c1, c2, if_true, if_false]
  · simp only [c1, if_false]
theorem ev1_un {nm : Int32 → Int32} {s : List Int32} {tok : Int32} (c1 : tok < 100) (c2 : 5 < tok) (c3 : tok = 11 ∨ tok = 22) : ev1 nm s tok = match s with
  | x :: r => turnedS tok x :: r
  | [] => [] := by
  unfold ev1
  simp only [c1, c2, c3, if_true]
  cases s <;> rfl
theorem ev1_bin {nm : Int32 → Int32} {s : List Int32} {tok : Int32} (c1 : tok < 100) (c2 : 5 < tok) (c3 : ¬ (tok = 11 ∨ tok = 22)) : ev1 nm s tok = match s with
  | y :: x :: r => joinedS tok x y :: r
  | s => s := by
  unfold ev1
  simp only [c1, c2, c3, if_true, if_false]
  rcases s with _ | ⟨x, _ | ⟨y, r⟩⟩ <;> rfl
set_option maxHeartbeats 1000000 in
theorem S33_loop {t a b p e : Nat} (ht : cSh[t]? = some sText) (h1 : cSh[t + 1]? = some (sArr 160)) (h2 : cSh[t + 2]? = some (sArr 160)) (h3 : cSh[t + 3]? = some (sArr 3)) (ha : cSh[a]? = some sRider) (hb : cSh[b]? = some sRoad)
    {th : Nat → Nat} {day : Nat} {r : Nat → Nat} (hr : ∀ f, f < 6 → I a f = nI (r f)) (hd : I b 1 = nI day) (hp : p < 3) (he : A (t + 3) p = nI e) (he1 : e ≤ 160) (d : Nat) (P : MP) : ∀ (l : List Int32) (i : Nat) (s : List Int32) (f : Nat → Int32) (l7 : Option Value),
    (∀ j, j < l.length → A (t + 1) (i + j) = l.getD j 0) → i + l.length = e → stk f s → s.length + l.length ≤ 160 → (∀ f', P (some (.int (nI (clamp99 (bot (l.foldl (ev1 (nmF th day r)) s)))))) (mkH cSh I V L (upA A (t + 2) f'))) →
    mFr (d + 1) 33 46 [some (.ref t), some (.int (nI p)), some (.ref a), some (.ref b), some (.int (nI (th (r 3)))), some (.int (nI s.length)), some (.int (nI i)), l7] [] (mkH cSh I V L (upA A (t + 2) f)) P := by
  intro l
  induction l with
  | nil =>
    intro i s f l7 hc hi hs hn hP
    have hlt : ¬ i < e := by simp at hi; omega
    rcases s with _ | ⟨x, q⟩
    · have hz : nI ([] : List Int32).length < 1 := by decide
      simp (disch := first | assumption | exact mnl_i | exact mnl_r | exact mnl_n | exact mnl_0 | omega) only [↓reduceIte, tolS, tolN, Pite, E33_46, E33_212, E33_218, E33_222, E33_237, kText, kA h3, kA h2, pix_nI, upA_n, he, q_ll, hlt, hz]
      exact hP f
    · have hz : ¬ nI (x :: q).length < 1 := fun h => absurd ((nI_ltI (b := 1) (by simp at hn ⊢; omega) (by omega)).mp h) (by simp)
      have hb0 : f 0 = bot (x :: q) := stk_bot hs (by simp)
      simp (disch := first | assumption | exact mnl_i | exact mnl_r | exact mnl_n | exact mnl_0 | omega) only [↓reduceIte, tolS, tolN, Pite, E33_46, E33_212, E33_218, E33_222, E33_237, kText, kA h3, kA h2, pix_nI, upA_n, he, q_ll, hlt, hz, pix_0, upA_s, hb0, clamp99_eq]
      exact hP f
  | cons tok l ih =>
    intro i s f l7 hc hi hs hn hP
    rw [List.length_cons] at hi hn
    have hlt : i < e := by omega
    have hlt2 : i < 160 := by omega
    have htok : A (t + 1) i = tok := by have := hc 0 (by simp); simpa using this
    have hsl : s.length < 160 := by omega
    have hc' : ∀ j, j < l.length → A (t + 1) (i + 1 + j) = l.getD j 0 := fun j hj => by
      have := hc (j + 1) (by rw [List.length_cons]; omega)
      rw [show i + 1 + j = i + (j + 1) by omega, this, List.getD_cons_succ]
    simp (disch := first | assumption | exact mnl_i | exact mnl_r | exact mnl_n | exact mnl_0 | omega) only [↓reduceIte, tolS, tolN, Pite, E33_46, E33_57, E33_67, E33_83, E33_121, E33_128, kText, kA h3, kA h2, kA h1, pix_nI, upA_n, he, htok, q_ll, nI_d, hlt, hlt2]
    by_cases c : tok < 100 ∧ 5 < tok
    · obtain ⟨c1, c2⟩ := c
      simp only [c1, c2, if_true]
      by_cases c3 : tok = 11 ∨ tok = 22
      · have hev := ev1_un (nm := nmF th day r) (s := s) c1 c2 c3
        rw [List.foldl_cons, hev] at hP
        have hgo : ∀ X Y : Prop, (if tok = 11 then X else if tok = 22 then X else Y) = X := fun X Y => by rcases c3 with h | h <;> simp [h]
        rw [hgo]
        rcases s with _ | ⟨x, q⟩
        · have hz : nI ([] : List Int32).length < 1 := by decide
          simp (disch := first | assumption | exact mnl_i | exact mnl_r | exact mnl_n | exact mnl_0 | omega) only [↓reduceIte, tolS, tolN, Pite, E33_135, E33_206, hz, q_add]
          exact ih (i + 1) [] f _ hc' (by omega) hs (by simp at hn ⊢; omega) hP
        · have hz : ¬ q.length + 1 < 1 := by omega
          have hl1 : q.length + 1 < 2 ^ 31 := by simp at hsl; omega
          have hq : q.length < 160 := by simp at hsl; omega
          simp (disch := first | assumption | exact mnl_i | exact mnl_r | exact mnl_n | exact mnl_0 | omega) only [↓reduceIte, tolS, tolN, Pite, E33_135, E33_141, E33_206, hz, q_lt, q_sub, kText, kA h2, List.length_cons, Nat.add_sub_cancel, pix_nI, upA_s, stk_top hs, S35, upA_u, q_add]
          exact ih (i + 1) (turnedS tok x :: q) (upd f q.length (turnedS tok x)) _ hc' (by omega) (stk_push (stk_tail hs)) (by simp at hn ⊢; omega) hP
      · have hev := ev1_bin (nm := nmF th day r) (s := s) c1 c2 c3
        rw [List.foldl_cons, hev] at hP
        have c4 : ¬ tok = 11 := fun z => c3 (Or.inl z)
        have c5 : ¬ tok = 22 := fun z => c3 (Or.inr z)
        simp only [c4, c5, if_false]
        rcases s with _ | ⟨y, _ | ⟨x, q⟩⟩
        · have hz : nI ([] : List Int32).length < 2 := by decide
          simp (disch := first | assumption | exact mnl_i | exact mnl_r | exact mnl_n | exact mnl_0 | omega) only [↓reduceIte, tolS, tolN, Pite, E33_167, E33_206, hz, q_add]
          exact ih (i + 1) [] f _ hc' (by omega) hs (by simp at hn ⊢; omega) hP
        · have hz : nI [y].length < 2 := by show nI 1 < 2; decide
          simp (disch := first | assumption | exact mnl_i | exact mnl_r | exact mnl_n | exact mnl_0 | omega) only [↓reduceIte, tolS, tolN, Pite, E33_167, E33_206, hz, q_add]
          exact ih (i + 1) [y] f _ hc' (by omega) hs (by simp at hn ⊢; omega) hP
        · have hz : ¬ q.length + 1 + 1 < 2 := by omega
          have hq : q.length + 1 < 160 := by simp at hsl; omega
          have hq0 : q.length < 160 := by omega
          have ex : f q.length = x := stk_top (stk_tail hs)
          have ey : f (q.length + 1) = y := by have := stk_top hs; simpa using this
          simp (disch := first | assumption | exact mnl_i | exact mnl_r | exact mnl_n | exact mnl_0 | omega) only [↓reduceIte, tolS, tolN, Pite, E33_167, E33_173, E33_206, hz, q_lt, q_addm, q_sub, kText, kA h2, List.length_cons, Nat.add_sub_cancel, pix_nI, upA_s, ex, ey, S36, upA_u, q_add]
          exact ih (i + 1) (joinedS tok x y :: q) (upd f q.length (joinedS tok x y)) _ hc' (by omega) (stk_push (stk_tail (stk_tail hs))) (by simp at hn ⊢; omega) hP
    · have hev := ev1_push (nm := nmF th day r) (s := s) c
      rw [List.foldl_cons, hev] at hP
      have hgo : ∀ X Y : Prop, (if tok < 100 then if 5 < tok then X else Y else Y) = Y := fun X Y => by
        by_cases c1 : tok < 100
        · have c2 : ¬ 5 < tok := fun x => c ⟨c1, x⟩
          simp only [c1, c2, if_true, if_false]
        · simp only [c1, if_false]
      rw [hgo]
      simp (disch := first | assumption | exact mnl_i | exact mnl_r | exact mnl_n | exact mnl_0 | omega) only [↓reduceIte, tolS, tolN, Pite, E33_89, E33_99, E33_206, kText, kA h2, nI_d, q_ll, hsl, S34 ha hb hr hd, pix_nI, upA_s, upA_u, q_add]
      exact ih (i + 1) (nmF th day r tok :: s) (upd f s.length (nmF th day r tok)) _ hc' (by omega) (stk_push hs) (by simp; omega) hP
end C2
/-- a text's three parts, as they lie at t -/
def txt (A : Nat → Nat → Int32) (t : Nat) (W : Nat → List Int32) : Prop := (W 0).length + (W 1).length + (W 2).length ≤ 160 ∧ A (t + 3) 0 = nI (W 0).length ∧ A (t + 3) 1 = nI ((W 0).length + (W 1).length) ∧ A (t + 3) 2 = nI ((W 0).length + (W 1).length + (W 2).length) ∧
  ∀ j, j < (W 0).length + (W 1).length + (W 2).length → A (t + 1) j = (W 0 ++ (W 1 ++ W 2)).getD j 0
def sem (l : List Int32) (nm : Int32 → Int32) : Int32 := bot (l.foldl (ev1 nm) [])
def valN (W : Nat → List Int32) (p : Nat) (th : Nat → Nat) (day : Nat) (r : Nat → Nat) : Nat := clamp99 (sem (W p) (nmF th day r))
def rOk (r : Nat → Nat) : Prop := r 0 ≤ 5 ∧ r 1 ≤ 9 ∧ r 2 ≤ 9 ∧ r 3 ≤ 23 ∧ r 4 ≤ 99 ∧ r 5 ≤ 999
/-- a rider at a, a road at b, its rule at t -/
def WR (I : Nat → Nat → Int32) (V : Nat → Nat → Nat) (A : Nat → Nat → Int32) (a b t : Nat) (W : Nat → List Int32) (th : Nat → Nat) (day : Nat) (r : Nat → Nat) : Prop :=
  (cSh[a]? = some sRider ∧ cSh[b]? = some sRoad ∧ cSh[b + 1]? = some (sArr 24) ∧ cSh[t]? = some sText ∧ cSh[t + 1]? = some (sArr 160) ∧ cSh[t + 2]? = some (sArr 160) ∧ cSh[t + 3]? = some (sArr 3) ∧ b + 1 ≠ t + 2 ∧ a ≠ b) ∧
  V b 2 = t ∧ txt A t W ∧ (∀ f, f < 6 → I a f = nI (r f)) ∧ I b 1 = nI day ∧ (∀ p, p < 24 → A (b + 1) p = nI (th p)) ∧ rOk r ∧ day ≤ 999 ∧ ∀ p, p < 24 → th p ≤ 9
theorem WR_A {I : Nat → Nat → Int32} {V : Nat → Nat → Nat} {A : Nat → Nat → Int32} {a b t : Nat} {W : Nat → List Int32} {th : Nat → Nat} {day : Nat} {r : Nat → Nat} (h : WR I V A a b t W th day r) (f : Nat → Int32) : WR I V (upA A (t + 2) f) a b t W th day r := by
  obtain ⟨hs, hv, ht, hr, hd, hth, h6⟩ := h
  refine ⟨hs, hv, ?_, hr, hd, fun p hp => by rw [upA_n hs.2.2.2.2.2.2.2.1]; exact hth p hp, h6⟩
  unfold txt
  rw [upA_n (show t + 3 ≠ t + 2 by omega), upA_n (show t + 1 ≠ t + 2 by omega)]
  exact ht
section C3
variable {I : Nat → Nat → Int32} {V : Nat → Nat → Nat} {L : Nat → Int64} {A : Nat → Nat → Int32} {a b t : Nat} {W : Nat → List Int32} {th : Nat → Nat} {day : Nat} {r : Nat → Nat}
theorem getD_app2 {a b c : List Int32} {j : Nat} (h : j < b.length) : (a ++ (b ++ c)).getD (a.length + j) 0 = b.getD j 0 := by
  rw [List.getD_eq_getElem?_getD, List.getD_eq_getElem?_getD, List.getElem?_append_right (by omega), Nat.add_sub_cancel_left, List.getElem?_append_left h]
theorem getD_app1 {a b : List Int32} {j : Nat} (h : j < a.length) : (a ++ b).getD j 0 = a.getD j 0 := by
  rw [List.getD_eq_getElem?_getD, List.getD_eq_getElem?_getD, List.getElem?_append_left h]
theorem getD_app3 {a b c : List Int32} {j : Nat} : (a ++ (b ++ c)).getD (a.length + b.length + j) 0 = c.getD j 0 := by
  rw [List.getD_eq_getElem?_getD, List.getD_eq_getElem?_getD, List.getElem?_append_right (by omega), List.getElem?_append_right (by omega)]
  congr 2
  omega
set_option maxHeartbeats 1000000 in
theorem S33 (h : WR I V A a b t W th day r) (d : Nat) (P : MP) : ∀ p, p < 3 → (∀ f', P (some (.int (nI (valN W p th day r)))) (mkH cSh I V L (upA A (t + 2) f'))) → mRun (d + 2) 33 [.ref t, .int (nI p), .ref a, .ref b] (mkH cSh I V L A) P := by
  obtain ⟨⟨ha, hb, hb1, ht, h1, h2, h3, hn1, hn2⟩, hv, ⟨x0, x1, x2, x3, x4⟩, hr, hd, hth, hrk, hday, hthk⟩ := h
  intro p hp hP
  have hp3 := hrk.2.2.2.1
  have hthr := hth (r 3) (by omega)
  rw [← upA_self (A := A) (a := t + 2)]
  match p, hp, hP with
  | 0, _, hP =>
    have g1 : nI 0 = 0 := rfl
    have g2 : nI 0 < nI 3 := by decide
    have g3 : ¬ nI 0 < 0 := by decide
    simp (disch := first | assumption | exact mnl_i | exact mnl_r | exact mnl_n | exact mnl_0 | omega) only [↓reduceIte, tolS, tolN, Pite, E33_0, E33_4, E33_15, E33_32, E33_44, B33, kText, kRider, kRoad, kA h3, nI_d, g1, g2, g3, hr 3 (by omega), S17 hb hb1, upA_n, hthr]
    exact S33_loop ht h1 h2 h3 ha hb hr hd (p := 0) (by omega) x1 (by omega) d P (W 0) 0 [] (A (t + 2)) none (fun j hj => by rw [Nat.zero_add, x4 j (by omega), getD_app1 hj]) (by omega) (fun j hj => absurd hj (Nat.not_lt_zero _)) (by simp; omega) hP
  | 1, _, hP =>
    have g1 : ¬ nI 1 = 0 := by decide
    have g2 : nI 1 < nI 3 := by decide
    have g3 : ¬ nI 1 < 0 := by decide
    have g4 : nI 1 - 1 = nI 0 := rfl
    simp (disch := first | assumption | exact mnl_i | exact mnl_r | exact mnl_n | exact mnl_0 | omega) only [↓reduceIte, tolS, tolN, Pite, E33_0, E33_4, E33_15, E33_36, E33_44, B33, kText, kRider, kRoad, kA h3, nI_d, g1, g2, g3, g4, pix_nI, hr 3 (by omega), S17 hb hb1, upA_n, hthr, x1]
    exact S33_loop ht h1 h2 h3 ha hb hr hd (p := 1) (by omega) x2 (by omega) d P (W 1) (W 0).length [] (A (t + 2)) none (fun j hj => by rw [x4 _ (by omega), getD_app2 hj]) (by omega) (fun j hj => absurd hj (Nat.not_lt_zero _)) (by simp; omega) hP
  | 2, _, hP =>
    have g1 : ¬ nI 2 = 0 := by decide
    have g2 : nI 2 < nI 3 := by decide
    have g3 : ¬ nI 2 < 0 := by decide
    have g4 : nI 2 - 1 = nI 1 := by decide
    simp (disch := first | assumption | exact mnl_i | exact mnl_r | exact mnl_n | exact mnl_0 | omega) only [↓reduceIte, tolS, tolN, Pite, E33_0, E33_4, E33_15, E33_36, E33_44, B33, kText, kRider, kRoad, kA h3, nI_d, g1, g2, g3, g4, pix_nI, hr 3 (by omega), S17 hb hb1, upA_n, hthr, x2]
    exact S33_loop ht h1 h2 h3 ha hb hr hd (p := 2) (by omega) x3 (by omega) d P (W 2) ((W 0).length + (W 1).length) [] (A (t + 2)) none (fun j hj => by rw [x4 _ (by omega), getD_app3]) (by omega) (fun j hj => absurd hj (Nat.not_lt_zero _)) (by simp; omega) hP
/-- what a kind lets out, behind a patch holds, pumps -/
def letsN (k num at_ th v : Nat) : Nat := match k with
  | 1 => min 99 (if at_ % 5 = num % 5 then 2 * v else v)
  | 2 => v / 2
  | 3 => min 99 ((if at_ % 5 = num % 5 then 2 * v else v) + num)
  | 4 => if th < 4 then 0 else v / 2
  | 5 => 0
  | _ => v
def holdsN (k v : Nat) : Nat := match k with
  | 1 => max 1 (v - 10)
  | 3 => max 1 ((v - 10) / 2)
  | 4 => min 99 (v + 5)
  | 5 => 1
  | _ => max 1 v
def pumpsN (k num day v : Nat) : Nat := match k with
  | 2 => min 99 (v + 1)
  | 3 => if day % 2 = 1 then 0 else v
  | 4 => min 99 (v + 1)
  | 5 => num
  | _ => v
end C3
