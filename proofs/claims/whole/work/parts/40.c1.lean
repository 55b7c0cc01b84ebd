/-! the class, leaves -/
theorem Pite {c : Prop} [Decidable c] {a b : Int32} {P : MP} {h : MH} : P (some (.int (if c then a else b))) h = if c then P (some (.int a)) h else P (some (.int b)) h := by split <;> rfl
theorem mnl_n : mnl none = true := rfl
theorem mnl_i {x : Int32} : mnl (some (.int x)) = true := rfl
theorem mnl_r {x : Nat} : mnl (some (.ref x)) = true := rfl
theorem mnl_0 : mnl (some .null) = true := rfl
theorem tolS {v : Value} {l : List Value} : (some v).toList ++ l = v :: l := rfl
theorem tolN {l : List Value} : (none : Option Value).toList ++ l = l := rfl
def turnedS (tok v : Int32) : Int32 := if tok = 22 then -v else if v = 0 then 1 else 0
def joinedS (tok l r : Int32) : Int32 := if tok = 9 then (if l = 0 then (if r = 0 then 0 else 1) else 1) else if tok = 10 then (if l = 0 then 0 else if r = 0 then 0 else 1) else if tok = 15 then l + r else if tok = 16 then l - r else if tok = 18 then (if l < r then 1 else 0) else if tok = 19 then (if l = r then 1 else 0) else l * r
theorem S35 : ∀ (d : Nat) (tok v : Int32) (h : MH) (P : MP), mRun (d + 1) 35 [.int tok, .int v] h P = P (some (.int (turnedS tok v))) h := by
  intro d tok v h P
  simp only [B35, E35_0, E35_6, E35_9, E35_13, E35_17, E35_18, turnedS, Pite]
theorem S36 : ∀ (d : Nat) (tok l r : Int32) (h : MH) (P : MP), mRun (d + 1) 36 [.int tok, .int l, .int r] h P = P (some (.int (joinedS tok l r))) h := by
  intro d tok l r h P
  simp only [B36, E36_0, E36_60, E36_64, E36_68, E36_72, E36_73, E36_74, E36_78, E36_82, E36_86, E36_87, E36_88, E36_93, E36_97, E36_98, E36_99, E36_104, E36_108, E36_109, E36_110, E36_114, E36_118, joinedS, Pite]
  by_cases h11 : tok = 11
  · subst h11; simp
  by_cases h12 : tok = 12
  · subst h12; simp
  by_cases h13 : tok = 13
  · subst h13; simp
  by_cases h14 : tok = 14
  · subst h14; simp
  by_cases h17 : tok = 17
  · subst h17; simp
  simp only [h11, h12, h13, h14, h17, if_false]
section C1
variable {I : Nat → Nat → Int32} {V : Nat → Nat → Nat} {L : Nat → Int64} {A : Nat → Nat → Int32}
theorem S10 {a : Nat} (ha : cSh[a]? = some sRider) : ∀ (d : Nat) (P : MP), mRun (d + 1) 10 [.ref a] (mkH cSh I V L A) P = P (some (.int (if I a 3 < 23 then 0 else 1))) (mkH cSh I V L A) := by
  intro d P
  simp only [B10, E10_0, E10_9, E10_13, E10_14, kRider, ha, Pite]
theorem S17 {b : Nat} (hb : cSh[b]? = some sRoad) (hb1 : cSh[b + 1]? = some (sArr 24)) {p : Nat} (hp : p < 24) : ∀ (d : Nat) (P : MP), mRun (d + 1) 17 [.ref b, .int (nI p)] (mkH cSh I V L A) P = P (some (.int (A (b + 1) p))) (mkH cSh I V L A) := by
  intro d P
  have h1 : ¬ nI p < 0 := nI_pos (by omega)
  have h2 : nI p < Int32.ofNat 24 := nI_lt hp (by omega)
  simp only [B17, E17_0, E17_4, E17_13, E17_22, E17_23, kRoad, kA hb1, hb, h1, h2, if_false, if_true, pix_nI hp (by decide)]
theorem S13 {a : Nat} (ha : cSh[a]? = some sRider) : ∀ (d : Nat) (v : Int32) (P : MP), mRun (d + 1) 13 [.ref a, .int v] (mkH cSh I V L A) P = P (some (.int (if I a 3 - I a 3 / 5 * 5 = I a 1 - I a 1 / 5 * 5 then 2 * v else v))) (mkH cSh I V L A) := by
  intro d v P
  have h5 : ¬ (5 : Int32) = 0 := by decide
  simp only [B13, E13_0, E13_15, E13_21, E13_22, kRider, ha, Pite, h5, if_false]
/-- names of a text, told of a rider r (fields as the class has them), thoughts th, a day -/
def nmF (th : Nat → Nat) (day : Nat) (r : Nat → Nat) (tok : Int32) : Int32 := if tok = 0 then nI (th (r 3)) else if tok = 1 then nI (r 4) else if tok = 2 then nI (r 1) else if tok = 3 then nI (r 3) else if tok = 4 then nI (r 2) else if tok = 5 then nI day else tok - 100
theorem S34 {a b : Nat} (ha : cSh[a]? = some sRider) (hb : cSh[b]? = some sRoad) {th : Nat → Nat} {day : Nat} {r : Nat → Nat} (hr : ∀ f, f < 6 → I a f = nI (r f)) (hd : I b 1 = nI day) : ∀ (d : Nat) (tok : Int32) (P : MP), mRun (d + 1) 34 [.int tok, .int (nI (th (r 3))), .ref a, .ref b] (mkH cSh I V L A) P = P (some (.int (nmF th day r tok))) (mkH cSh I V L A) := by
  intro d tok P
  simp only [B34, E34_0, E34_40, E34_42, E34_47, E34_52, E34_57, E34_62, E34_67, kRider, kRoad, ha, hb, nmF, Pite, hr 4 (by decide), hr 1 (by decide), hr 3 (by decide), hr 2 (by decide), hd]
end C1
/-- a token, worked off on a stack (its top first) -/
def ev1 (nm : Int32 → Int32) (s : List Int32) (tok : Int32) : List Int32 := if tok < 100 then (if 5 < tok then (if tok = 11 ∨ tok = 22 then (match s with
  | x :: r => turnedS tok x :: r
  | [] => []) else (match s with
  | y :: x :: r => joinedS tok x y :: r
  | s => s)) else nm tok :: s) else nm tok :: s
theorem ev1_len (nm : Int32 → Int32) (s : List Int32) (tok : Int32) : (ev1 nm s tok).length ≤ s.length + 1 := by
  unfold ev1
  split
  · split
    · split
      · split <;> simp
      · split <;> simp
    · simp
  · simp
/-- a row holds a stack -/
def stk (f : Nat → Int32) (s : List Int32) : Prop := ∀ j, j < s.length → f j = s.getD (s.length - 1 - j) 0
theorem stk_push {f : Nat → Int32} {s : List Int32} {v : Int32} (h : stk f s) : stk (upd f s.length v) (v :: s) := by
  intro j hj
  rw [List.length_cons] at hj ⊢
  by_cases e : j = s.length
  · subst e
    rw [upd_s, show s.length + 1 - 1 - s.length = 0 by omega]; rfl
  · rw [upd_n e, h j (by omega), show s.length + 1 - 1 - j = (s.length - 1 - j) + 1 by omega]; rfl
theorem stk_tail {f : Nat → Int32} {v : Int32} {s : List Int32} (h : stk f (v :: s)) : stk f s := by
  intro j hj
  have := h j (by rw [List.length_cons]; omega)
  rw [this, List.length_cons, show s.length + 1 - 1 - j = (s.length - 1 - j) + 1 by omega]; rfl
theorem stk_top {f : Nat → Int32} {v : Int32} {s : List Int32} (h : stk f (v :: s)) : f s.length = v := by
  have := h s.length (by rw [List.length_cons]; omega)
  rw [this, List.length_cons, show s.length + 1 - 1 - s.length = 0 by omega]; rfl
def bot (s : List Int32) : Int32 := s.getD (s.length - 1) 0
theorem stk_bot {f : Nat → Int32} {s : List Int32} (h : stk f s) (h0 : s ≠ []) : f 0 = bot s := by
  have := h 0 (List.length_pos_iff.mpr h0)
  rw [this]; rfl
