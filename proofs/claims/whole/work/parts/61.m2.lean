/-! the reference: what a rider lets out, holds, pumps -/
/-- text rl of the reference's code -/
def mtx (A : Nat → Nat → Int32) (rl : Nat) (W : Nat → List Int32) : Prop := ∀ p, p < 3 → ∃ bg, A 9 (3 * rl + p) = nI bg ∧ A 10 (3 * rl + p) = nI (W p).length ∧ bg + (W p).length ≤ 3000 ∧ (∀ j, j < (W p).length → A 11 (bg + j) = trT ((W p).getD j 0)) ∧ wf (W p) 0 ∧ (W p).length ≤ 160
def WM (I : Nat → Nat → Int32) (A : Nat → Nat → Int32) (q rl : Nat) (W : Nat → List Int32) (th : Nat → Nat) (day : Nat) (r : Nat → Nat) : Prop :=
  q < 5 ∧ I 0 9 = nI rl ∧ rl < 6 ∧ mtx A rl W ∧ (A 2 q = nI (r 0) ∧ A 3 q = nI (r 1) ∧ A 4 q = nI (r 2) ∧ A 5 q = nI (r 3) ∧ A 6 q = nI (r 4) ∧ A 7 q = nI (r 5)) ∧ I 0 0 = nI day ∧ (∀ p, p < 24 → A 1 p = nI (th p)) ∧ rOk r ∧ day ≤ 999 ∧ ∀ p, p < 24 → th p ≤ 9
section M2
variable {I : Nat → Nat → Int32} {V : Nat → Nat → Nat} {L : Nat → Int64} {A : Nat → Nat → Int32} {q rl : Nat} {W : Nat → List Int32} {th : Nat → Nat} {day : Nat} {r : Nat → Nat}
theorem WM_A (h : WM I A q rl W th day r) {A' : Nat → Nat → Int32} (hA : ∀ b, b ≠ 13 → b ≠ 14 → A' b = A b) : WM I A' q rl W th day r := by
  unfold WM mtx at h ⊢
  rw [hA 1 (by omega) (by omega), hA 2 (by omega) (by omega), hA 3 (by omega) (by omega), hA 4 (by omega) (by omega), hA 5 (by omega) (by omega), hA 6 (by omega) (by omega), hA 7 (by omega) (by omega), hA 9 (by omega) (by omega), hA 10 (by omega) (by omega), hA 11 (by omega) (by omega)]
  exact h
theorem M144 (h : WM I A q rl W th day r) {r' : Nat → Nat} (hnm : ∀ k, k ≤ 5 → A 14 k = nmF th day r' (nI k)) {p : Nat} (hp : p < 3) (d : Nat) (P : MP) (hP : ∀ f', P (some (.int (sem (W p) (nmF th day r')))) (mkH dSh I V L (upA A 13 f'))) : mRun (d + 2) 144 [.ref 0, .int (nI p)] (mkH dSh I V L A) P := by
  obtain ⟨hq, hrl, hr6, htx, -⟩ := h
  obtain ⟨bg, x1, x2, x3, x4, x5, x6⟩ := htx p hp
  have hp2 : 3 * rl + p < 18 := by omega
  rw [← upA_self (A := A) (a := 13)]
  simp (disch := first | assumption | exact mnl_i | exact mnl_r | exact mnl_n | exact mnl_0 | omega) only [↓reduceIte, E144_0, B144, dShG, dShR, hrl, q_mul, q_aa, pix_nI, upA_n, x1]
  exact M144_loop hrl hp2 x2 x3 hnm d P (W p) bg [] (A 13) none x4 rfl (fun j hj => absurd hj (Nat.not_lt_zero _)) (by simp; omega) x5 hP
set_option maxHeartbeats 1000000 in
theorem M146 (h : WM I A q rl W th day r) {p : Nat} (hp : p < 3) {pl : Nat} (hpl : pl < 24) (d : Nat) (P : MP) (hP : ∀ A', (∀ b, b ≠ 13 → b ≠ 14 → A' b = A b) → P (some (.int (nI (valN W p th day (uN r 3 pl))))) (mkH dSh I V L A')) : mRun (d + 3) 146 [.ref 0, .int (nI p), .int (nI q), .int (nI pl)] (mkH dSh I V L A) P := by
  obtain ⟨hq, hrl, hr6, htx, ⟨r0, r1, r2, r3, r4, r5⟩, hd, hth, hrk, hday, hthk⟩ := id h
  have hthp := hth pl hpl
  have p0 : ∀ K : Nat → Prop, pix (0 : Int32) 6 K = K 0 := fun K => pix_nI (j := 0) (by decide) (by decide)
  have p1 : ∀ K : Nat → Prop, pix (1 : Int32) 6 K = K 1 := fun K => pix_nI (j := 1) (by decide) (by decide)
  have p2 : ∀ K : Nat → Prop, pix (2 : Int32) 6 K = K 2 := fun K => pix_nI (j := 2) (by decide) (by decide)
  have p3 : ∀ K : Nat → Prop, pix (3 : Int32) 6 K = K 3 := fun K => pix_nI (j := 3) (by decide) (by decide)
  have p4 : ∀ K : Nat → Prop, pix (4 : Int32) 6 K = K 4 := fun K => pix_nI (j := 4) (by decide) (by decide)
  have p5 : ∀ K : Nat → Prop, pix (5 : Int32) 6 K = K 5 := fun K => pix_nI (j := 5) (by decide) (by decide)
  simp (disch := first | assumption | exact mnl_i | exact mnl_r | exact mnl_n | exact mnl_0 | omega) only [↓reduceIte, tolS, E146_0, B146, dShG, dShP, dShR, p0, p1, p2, p3, p4, p5, pix_nI, upA_n, upA_s, upA_u, hthp, r1, r2, r4, hd]
  refine M144 (q := q) (r := r) (WM_A h (fun b h1 h2 => upA_n h2)) (r' := uN r 3 pl) ?_ hp d _ (fun f' => ?_)
  · intro k hk
    rw [upA_s]
    match k, hk with
    | 0, _ => rfl
    | 1, _ => rfl
    | 2, _ => rfl
    | 3, _ => rfl
    | 4, _ => rfl
    | 5, _ => rfl
    | k + 6, hk => omega
  · simp (disch := first | assumption | exact mnl_i | exact mnl_r | exact mnl_n | exact mnl_0 | omega) only [↓reduceIte, tolS, E146_0, M115, bound99]
    exact hP _ (fun b h1 h2 => by rw [upA_n h1, upA_n h2])
end M2
