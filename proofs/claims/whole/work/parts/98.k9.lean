/-! bits of places; flat at a place -/
def bz (v : Int32) (p : Nat) : Int32 := (v >>> (nI p &&& 31)) &&& 1
theorem bz_pair : ∀ a p : Fin 24, ((((1 : Int32) <<< (nI a.val &&& 31)) >>> (nI p.val &&& 31)) &&& 1) = if a = p then 1 else 0 := by decide
theorem bz_dist (x y : Int32) (k : Int32) : ((x ||| y) >>> k) &&& 1 = ((x >>> k) &&& 1) ||| ((y >>> k) &&& 1) := by
  apply Int32.toBitVec_inj.mp
  simp only [Int32.toBitVec_and, Int32.toBitVec_or, Int32.toBitVec_shiftRight, BitVec.sshiftRight', BitVec.sshiftRight_or_distrib]
  ext i hi
  simp only [BitVec.getElem_and, BitVec.getElem_or, Bool.and_or_distrib_right]
theorem bz_01 (x : Int32) : x &&& 1 = 0 ∨ x &&& 1 = 1 := by
  have h : (x &&& 1).toBitVec = if x.toBitVec.getLsbD 0 = true then 1#32 else 0#32 := by
    rw [Int32.toBitVec_and]
    apply BitVec.eq_of_getLsbD_eq
    intro i hi
    rw [BitVec.getLsbD_and, show (1 : Int32).toBitVec = 1#32 from rfl, BitVec.getLsbD_one]
    by_cases c : i = 0
    · rw [c]; split
      · next h => rw [h]; rfl
      · next h => rw [Bool.eq_false_iff.mpr h]; rfl
    · split
      · rw [BitVec.getLsbD_one]; simp [c]
      · simp [c]
  by_cases c : x.toBitVec.getLsbD 0 = true
  · rw [if_pos c] at h; right; exact Int32.toBitVec_inj.mp h
  · rw [if_neg c] at h; left; exact Int32.toBitVec_inj.mp h
theorem bz_or (v : Int32) {a p : Nat} (ha : a < 24) (hp : p < 24) : bz (v ||| ((1 : Int32) <<< (nI a &&& 31))) p = if a = p then 1 else bz v p := by
  unfold bz
  rw [bz_dist]
  have h := bz_pair ⟨a, ha⟩ ⟨p, hp⟩
  simp only [Fin.mk.injEq] at h
  rw [h]
  by_cases c : a = p
  · rw [if_pos c, if_pos c]
    rcases bz_01 (v >>> (nI p &&& 31)) with z | z <;> rw [z] <;> decide
  · rw [if_neg c, if_neg c]
    rcases bz_01 (v >>> (nI p &&& 31)) with z | z <;> rw [z] <;> decide
theorem bz_z {p : Nat} (hp : p < 24) : bz 0 p = 0 := by
  have : ∀ p : Fin 24, bz 0 p.val = 0 := by decide
  exact this ⟨p, hp⟩
def fla (W : Nat → List Int32) (th : Nat → Nat) (day : Nat) (r : Nat → Nat) (p : Nat) : Bool := decide (bz (f36 0 (trN W th day 240 r)) p = 1)
section K9a
variable {W : Nat → List Int32} {th : Nat → Nat} {day : Nat}
theorem goN_at {r : Nat → Nat} (h : r 3 < 23) : ((goN W th day r).1 3 = r 3 + 1) ∨ ((goN W th day r).1 3 = r 3 ∧ (goN W th day r).2 = 2) := by
  unfold goN
  rw [if_pos h]
  split
  · split
    · left; simp [uN]
    · right; simp [uN]
  · left
    dsimp only
    split <;> simp [uN]
theorem bz_low {p : Nat} (hp : p < 24) : ∀ (n : Nat) (r : Nat → Nat) (v : Int32), rOk r → p ≤ r 3 → bz (f36 v (trN W th day n r)) p = bz v p := by
  intro n
  induction n with
  | zero => intro r v hr h; rfl
  | succ n ih =>
    intro r v hr h
    by_cases c : r 3 < 23
    · have hg := goN_at (W := W) (th := th) (day := day) c
      have hr' := goN_ok (W := W) (th := th) (day := day) hr
      have ih' := fun v => ih (goN W th day r).1 v hr' (by omega)
      simp only [trN, if_pos c]
      show bz (f36 (if (goN W th day r).2 = 4 then v ||| ((1 : Int32) <<< (nI ((goN W th day r).1 3) &&& 31)) else v) (trN W th day n (goN W th day r).1)) p = bz v p
      rw [ih']
      by_cases c4 : (goN W th day r).2 = 4
      · have h1 : (goN W th day r).1 3 = r 3 + 1 := by omega
        rw [if_pos c4, h1, bz_or _ (by omega) hp, if_neg (by omega)]
      · rw [if_neg c4]
    · simp only [trN, if_neg c]; rfl
theorem bz_cf {p : Nat} (hp : p < 24) : ∀ (n : Nat) (r : Nat → Nat) (v : Int32) (did : Nat), rOk r → r 3 < p → (23 - r 3) + r 2 ≤ n → bz (f36 v (trN W th day n r)) p = if cfN W th day p n r did = 4 then 1 else bz v p := by
  intro n
  induction n with
  | zero => intro r v did hr h hn; omega
  | succ n ih =>
    intro r v did hr h hn
    have c : r 3 < 23 := by omega
    have hg := goN_at (W := W) (th := th) (day := day) c
    have hr' := goN_ok (W := W) (th := th) (day := day) hr
    have hmu := goN_mu (W := W) (th := th) (day := day) c
    simp only [trN, if_pos c, cfN, if_pos h]
    show bz (f36 (if (goN W th day r).2 = 4 then v ||| ((1 : Int32) <<< (nI ((goN W th day r).1 3) &&& 31)) else v) (trN W th day n (goN W th day r).1)) p = _
    by_cases c2 : (goN W th day r).1 3 < p
    · rw [ih _ _ (goN W th day r).2 hr' c2 (by omega)]
      by_cases c4 : (goN W th day r).2 = 4
      · rw [if_pos c4, bz_or _ (by omega) hp, if_neg (show ¬ (goN W th day r).1 3 = p by omega)]
      · rw [if_neg c4]
    · have he : (goN W th day r).1 3 = p := by omega
      rw [bz_low hp n _ _ hr' (by omega)]
      have hcf : cfN W th day p n (goN W th day r).1 (goN W th day r).2 = (goN W th day r).2 := by
        cases n with
        | zero => rfl
        | succ n => simp only [cfN, if_neg c2]
      rw [hcf]
      by_cases c4 : (goN W th day r).2 = 4
      · rw [if_pos c4, if_pos c4, he, bz_or _ hp hp, if_pos rfl]
      · rw [if_neg c4, if_neg c4]
theorem fla_cf {p : Nat} (hp : p < 24) {r : Nat → Nat} (hr : rOk r) (h : r 3 < p) : (cfN W th day p 240 r 0 = 4) = (fla W th day r p = true) := by
  have k := hr.2.2
  have e := bz_cf (W := W) (th := th) (day := day) hp 240 r 0 0 hr h (by omega)
  unfold fla
  rw [e, bz_z hp]
  by_cases c : cfN W th day p 240 r 0 = 4
  · simp [c]
  · simp [c]
theorem fla_low {p : Nat} (hp : p < 24) {r : Nat → Nat} (hr : rOk r) (h : p ≤ r 3) : fla W th day r p = false := by
  unfold fla
  rw [bz_low hp 240 r 0 hr h, bz_z hp]
  decide
theorem fla_bz {p : Nat} {r : Nat → Nat} : bz (f36 0 (trN W th day 240 r)) p = if fla W th day r p = true then 1 else 0 := by
  unfold fla
  rcases bz_01 (f36 0 (trN W th day 240 r) >>> (nI p &&& 31)) with z | z
  · rw [show bz (f36 0 (trN W th day 240 r)) p = 0 from z]; decide
  · rw [show bz (f36 0 (trN W th day 240 r)) p = 1 from z]; decide
end K9a
