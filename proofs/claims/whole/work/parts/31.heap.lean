/-! heaps out of registers: I the ints of objects (cell, field), G the references that change, L the longs, A the rows of ints; a shape says what stands where -/
abbrev SC : Type := (Nat × List Nat) ⊕ (Nat ⊕ (Nat × Nat × Nat × Nat))
/-- 0 an int, 1 a reference that changes, 2 a long, 3 null, 4 + c the cell c, 1000 + r the cell r behind -/
def mkF (I : Nat → Nat → Int32) (V : Nat → Nat → Nat) (L : Nat → Int64) (a f c : Nat) : Value := match c with
  | 0 => .int (I a f)
  | 1 => .ref (V a f)
  | 2 => .long (L a)
  | 3 => .null
  | c + 4 => if 996 ≤ c then .ref (a + (c - 996)) else .ref c
def mkC (I : Nat → Nat → Int32) (V : Nat → Nat → Nat) (L : Nat → Int64) (A : Nat → Nat → Int32) (a : Nat) (c : SC) : MC := match c with
  | .inl (ci, cs) => .inl (ci, cs.mapIdx (fun f c => mkF I V L a f c))
  | .inr (.inl n) => .inr (.inl (n, A a))
  | .inr (.inr (ci, n, b, s)) => .inr (.inr (ci, n, fun j => if j < n then some (b + s * j) else none))
def mkH (sh : List SC) (I : Nat → Nat → Int32) (V : Nat → Nat → Nat) (L : Nat → Int64) (A : Nat → Nat → Int32) : MH := sh.mapIdx (fun a c => mkC I V L A a c)
def up2 {α : Type} (I : Nat → Nat → α) (a f : Nat) (v : α) : Nat → Nat → α := fun b g => if b = a ∧ g = f then v else I b g
def upA (A : Nat → Nat → Int32) (a : Nat) (f : Nat → Int32) : Nat → Nat → Int32 := fun b => if b = a then f else A b
def upL (L : Nat → Int64) (a : Nat) (v : Int64) : Nat → Int64 := fun b => if b = a then v else L b
section HP
variable {sh : List SC} {I : Nat → Nat → Int32} {V : Nat → Nat → Nat} {L : Nat → Int64} {A : Nat → Nat → Int32} {a : Nat}
theorem mkH_len : (mkH sh I V L A).length = sh.length := List.length_mapIdx
theorem mkH_at {c : SC} (h : sh[a]? = some c) : (mkH sh I V L A)[a]? = some (mkC I V L A a c) := by
  unfold mkH
  rw [List.getElem?_mapIdx, h]; rfl
theorem mkH_none (h : sh[a]? = none) : (mkH sh I V L A)[a]? = none := by
  unfold mkH
  rw [List.getElem?_mapIdx, h]; rfl
/-- the heap with one cell made anew -/
theorem mkH_set {I' : Nat → Nat → Int32} {V' : Nat → Nat → Nat} {L' : Nat → Int64} {A' : Nat → Nat → Int32} {c : SC} (h : sh[a]? = some c) (x : MC) (hx : mkC I' V' L' A' a c = x) (ho : ∀ b c', b ≠ a → mkC I' V' L' A' b c' = mkC I V L A b c') : (mkH sh I V L A).set a x = mkH sh I' V' L' A' := by
  refine List.ext_getElem? fun b => ?_
  by_cases e : a = b
  · subst e
    rw [mkH_at h, List.getElem?_set_self (by rw [mkH_len]; exact (List.getElem?_eq_some_iff.mp h).1), hx]
  · rw [List.getElem?_set_ne e]
    cases hb : sh[b]? with
    | none => rw [mkH_none hb, mkH_none hb]
    | some c' => rw [mkH_at hb, mkH_at hb, ho b c' (fun z => e z.symm)]
theorem H_get {ci f c : Nat} {cs : List Nat} {K : Value → Prop} (h : sh[a]? = some (.inl (ci, cs))) (hf : cs[f]? = some c) : pget (mkH sh I V L A) a ci f K = K (mkF I V L a f c) := by
  unfold pget
  rw [mkH_at h]
  simp only [mkC, if_true, List.getElem?_mapIdx, hf, Option.map_some]
theorem mapIdx_set {α : Type} {cs : List Nat} {g g' : Nat → Nat → α} {f c : Nat} {v : α} (hf : cs[f]? = some c) (h1 : g' f c = v) (h2 : ∀ j c', j ≠ f → g' j c' = g j c') : (cs.mapIdx g).set f v = cs.mapIdx g' := by
  refine List.ext_getElem? fun b => ?_
  by_cases e : f = b
  · subst e
    rw [List.getElem?_set_self (by rw [List.length_mapIdx]; exact (List.getElem?_eq_some_iff.mp hf).1), List.getElem?_mapIdx, hf, ← h1]; rfl
  · rw [List.getElem?_set_ne e, List.getElem?_mapIdx, List.getElem?_mapIdx]
    cases hb : cs[b]? with
    | none => rfl
    | some c' => simp only [Option.map_some, h2 b c' (fun z => e z.symm)]
theorem mkC_I {f : Nat} {v : Int32} {b : Nat} {c : SC} (h : b ≠ a) : mkC (up2 I a f v) V L A b c = mkC I V L A b c := by
  have e : ∀ g, up2 I a f v b g = I b g := fun g => if_neg (fun z => h z.1)
  match c with
  | .inl (ci, cs) =>
    simp only [mkC]
    refine congrArg (fun g => (Sum.inl (ci, cs.mapIdx g) : MC)) (funext fun f => funext fun c => ?_)
    unfold mkF
    simp only [e]
  | .inr (.inl _) => rfl
  | .inr (.inr _) => rfl
theorem mkC_V {f v : Nat} {b : Nat} {c : SC} (h : b ≠ a) : mkC I (up2 V a f v) L A b c = mkC I V L A b c := by
  have e : ∀ g, up2 V a f v b g = V b g := fun g => if_neg (fun z => h z.1)
  match c with
  | .inl (ci, cs) =>
    simp only [mkC]
    refine congrArg (fun g => (Sum.inl (ci, cs.mapIdx g) : MC)) (funext fun f => funext fun c => ?_)
    unfold mkF
    simp only [e]
  | .inr (.inl _) => rfl
  | .inr (.inr _) => rfl
theorem mkC_L {v : Int64} {b : Nat} {c : SC} (h : b ≠ a) : mkC I V (upL L a v) A b c = mkC I V L A b c := by
  have e : upL L a v b = L b := if_neg h
  match c with
  | .inl (ci, cs) =>
    simp only [mkC]
    refine congrArg (fun g => (Sum.inl (ci, cs.mapIdx g) : MC)) (funext fun f => funext fun c => ?_)
    unfold mkF
    simp only [e]
  | .inr (.inl _) => rfl
  | .inr (.inr _) => rfl
theorem mkC_A {g : Nat → Int32} {b : Nat} {c : SC} (h : b ≠ a) : mkC I V L (upA A a g) b c = mkC I V L A b c := by
  have e : upA A a g b = A b := if_neg h
  match c with
  | .inl _ => rfl
  | .inr (.inl n) => simp only [mkC, e]
  | .inr (.inr _) => rfl
theorem H_put {ci f : Nat} {cs : List Nat} {v : Int32} {K : MH → Prop} (h : sh[a]? = some (.inl (ci, cs))) (hf : cs[f]? = some 0) (hN : f < mN ci) (ht : narrow (mTy ci f) (.int v) = .int v ∧ fits (mTy ci f) (.int v) = true) : pput (mkH sh I V L A) a ci f (.int v) K = K (mkH sh (up2 I a f v) V L A) := by
  unfold pput
  rw [mkH_at h]
  have hl := (List.getElem?_eq_some_iff.mp hf).1
  simp only [mkC, List.length_mapIdx]
  rw [if_pos ⟨trivial, hl, hN, ht.1, ht.2⟩, mkH_set (I' := up2 I a f v) (V' := V) (L' := L) (A' := A) h _ ?_ (fun b c' hb => mkC_I hb)]
  simp only [mkC]
  refine congrArg (fun l => (Sum.inl (ci, l) : MC)) (mapIdx_set hf ?_ ?_).symm
  · simp only [mkF, up2, and_self, if_true]
  · intro j c' hj
    have e : up2 I a f v a j = I a j := if_neg (fun z => hj z.2)
    unfold mkF
    simp only [e]
theorem H_putV {ci f v : Nat} {cs : List Nat} {K : MH → Prop} (h : sh[a]? = some (.inl (ci, cs))) (hf : cs[f]? = some 1) (hN : f < mN ci) (ht : narrow (mTy ci f) (.ref v) = .ref v ∧ fits (mTy ci f) (.ref v) = true) : pput (mkH sh I V L A) a ci f (.ref v) K = K (mkH sh I (up2 V a f v) L A) := by
  unfold pput
  rw [mkH_at h]
  have hl := (List.getElem?_eq_some_iff.mp hf).1
  simp only [mkC, List.length_mapIdx]
  rw [if_pos ⟨trivial, hl, hN, ht.1, ht.2⟩, mkH_set (I' := I) (V' := up2 V a f v) (L' := L) (A' := A) h _ ?_ (fun b c' hb => mkC_V hb)]
  simp only [mkC]
  refine congrArg (fun l => (Sum.inl (ci, l) : MC)) (mapIdx_set hf ?_ ?_).symm
  · simp only [mkF, up2, and_self, if_true]
  · intro j c' hj
    have e : up2 V a f v a j = V a j := if_neg (fun z => hj z.2)
    unfold mkF
    simp only [e]
theorem H_putL {ci f : Nat} {cs : List Nat} {v : Int64} {K : MH → Prop} (h : sh[a]? = some (.inl (ci, cs))) (hf : cs[f]? = some 2) (hN : f < mN ci) (hu : ∀ j ∈ List.range cs.length, j ≠ f → cs.getD j 0 ≠ 2) (ht : narrow (mTy ci f) (.long v) = .long v ∧ fits (mTy ci f) (.long v) = true) : pput (mkH sh I V L A) a ci f (.long v) K = K (mkH sh I V (upL L a v) A) := by
  unfold pput
  rw [mkH_at h]
  have hl := (List.getElem?_eq_some_iff.mp hf).1
  simp only [mkC, List.length_mapIdx]
  rw [if_pos ⟨trivial, hl, hN, ht.1, ht.2⟩, mkH_set (I' := I) (V' := V) (L' := upL L a v) (A' := A) h _ ?_ (fun b c' hb => mkC_L hb)]
  simp only [mkC]
  refine congrArg (fun l => (Sum.inl (ci, l) : MC)) (List.ext_getElem? fun b => ?_)
  by_cases e : f = b
  · subst e
    rw [List.getElem?_set_self (by rw [List.length_mapIdx]; exact hl), List.getElem?_mapIdx, hf]
    simp only [Option.map_some, mkF, upL, if_true]
  · rw [List.getElem?_set_ne e, List.getElem?_mapIdx, List.getElem?_mapIdx]
    cases hb : cs[b]? with
    | none => rfl
    | some c' =>
      have hc := hu b (List.mem_range.mpr (List.getElem?_eq_some_iff.mp hb).1) (fun z => e z.symm)
      rw [List.getD_eq_getElem?_getD, hb, Option.getD_some] at hc
      simp only [Option.map_some, Option.some.injEq]
      unfold mkF
      split <;> first | rfl | (exact absurd rfl hc)
theorem H_iald {n : Nat} {i : Int32} {K : Int32 → Prop} (h : sh[a]? = some (.inr (.inl n))) (hs : a < 900) : pial (mkH sh I V L A) a i K = pix i n (fun j => K (A a j)) := by
  unfold pial
  rw [if_neg (by omega), mkH_at h]
  rfl
theorem H_iast {n : Nat} {i x : Int32} {K : MH → Prop} (h : sh[a]? = some (.inr (.inl n))) : pias (mkH sh I V L A) a i x K = pix i n (fun j => K (mkH sh I V L (upA A a (upd (A a) j x)))) := by
  unfold pias
  rw [mkH_at h]
  simp only [mkC]
  refine congrArg (pix i n) (funext fun j => ?_)
  rw [mkH_set (I' := I) (V' := V) (L' := L) (A' := upA A a (upd (A a) j x)) h _ ?_ (fun b c' hb => mkC_A hb)]
  simp only [mkC, upA, if_true]
theorem H_aald {ci n b s : Nat} {i : Int32} {K : Value → Prop} (h : sh[a]? = some (.inr (.inr (ci, n, b, s)))) : paal (mkH sh I V L A) a i K = pix i n (fun j => K (.ref (b + s * j))) := by
  unfold paal
  rw [mkH_at h]
  show pix i n (fun j => K (va_rf (if j < n then some (b + s * j) else none))) = pix i n (fun j => K (.ref (b + s * j)))
  unfold pix
  by_cases c : i < 0 ∨ n ≤ i.toNatClampNeg
  · rw [if_pos c, if_pos c]
  · rw [if_neg c, if_neg c]
    dsimp only
    rw [if_pos (by omega)]
    rfl
theorem H_alenI {n : Nat} {K : Nat → Prop} (h : sh[a]? = some (.inr (.inl n))) (hs : a < 900) : palen (mkH sh I V L A) a K = K n := by
  unfold palen
  rw [if_neg (by omega), if_neg (by omega), mkH_at h]
  rfl
theorem H_alenR {ci n b s : Nat} {K : Nat → Prop} (h : sh[a]? = some (.inr (.inr (ci, n, b, s)))) (hs : a < 900) : palen (mkH sh I V L A) a K = K n := by
  unfold palen
  rw [if_neg (by omega), if_neg (by omega), mkH_at h]
  rfl
theorem H_copy {b n0 n1 : Nat} {sp dp n : Int32} {K : MH → Prop} (h0 : sh[a]? = some (.inr (.inl n0))) (h1 : sh[b]? = some (.inr (.inl n1))) : pcopy (mkH sh I V L A) a sp b dp n K = if ¬ sp < 0 ∧ ¬ dp < 0 ∧ ¬ n < 0 ∧ sp.toNatClampNeg + n.toNatClampNeg ≤ n0 ∧ dp.toNatClampNeg + n.toNatClampNeg ≤ n1 then K (mkH sh I V L (upA A b (va_cpy (A a) (A b) sp.toNatClampNeg dp.toNatClampNeg n.toNatClampNeg))) else False := by
  unfold pcopy
  rw [mkH_at h0, mkH_at h1]
  simp only [mkC]
  rw [mkH_set (I' := I) (V' := V) (L' := L) (A' := upA A b (va_cpy (A a) (A b) sp.toNatClampNeg dp.toNatClampNeg n.toNatClampNeg)) h1 _ ?_ (fun b c' hb => mkC_A hb)]
  simp only [mkC, upA, if_true]
theorem H_rcv {cn : Nat} {cs : List Nat} (h : sh[a]? = some (.inl (cn, cs))) (hs : a < 900) (hc : cn < 10) : mrcv (mkH sh I V L A) a cn = true := by
  unfold mrcv
  rw [if_neg (by omega), mkH_at h]
  simp [mkC, hc]
end HP
theorem pix_nI {j n : Nat} {K : Nat → Prop} (h : j < n) (hn : n < 2 ^ 31) : pix (nI j) n K = K j := by
  unfold pix
  rw [if_neg (vp_in_nI h hn), nI_clamp (by omega)]

abbrev sRider : SC := .inl (1, [0, 0, 0, 0, 0, 0])
abbrev sRoad : SC := .inl (2, [1001, 0, 1])
abbrev sSheet : SC := .inl (3, [1001, 0, 0])
abbrev sText : SC := .inl (5, [0, 1001, 1002, 1003, 0])
abbrev sArr (n : Nat) : SC := .inr (.inl n)
def cSh : List SC := [.inl (8, [5, 6, 59, 0, 63, 8, 65, 15, 0, 22, 67, 23, 24, 25, 26]), .inr (.inr (5, 6, 23, 4)), .inl (4, [7, 0]), .inr (.inl 160), .inl (0, [9, 0]), .inr (.inr (1, 5, 6, 1)), .inl (1, [0, 0, 0, 0, 0, 0]), .inl (1, [0, 0, 0, 0, 0, 0]), .inl (1, [0, 0, 0, 0, 0, 0]), .inl (1, [0, 0, 0, 0, 0, 0]), .inl (1, [0, 0, 0, 0, 0, 0]), .inl (0, [16, 0]), .inr (.inr (1, 5, 13, 1)), .inl (1, [0, 0, 0, 0, 0, 0]), .inl (1, [0, 0, 0, 0, 0, 0]), .inl (1, [0, 0, 0, 0, 0, 0]), .inl (1, [0, 0, 0, 0, 0, 0]), .inl (1, [0, 0, 0, 0, 0, 0]), .inr (.inr (3, 4, 47, 2)), .inl (1, [0, 0, 0, 0, 0, 0]), .inl (1, [0, 0, 0, 0, 0, 0]), .inr (.inl 24), .inr (.inl 30), .inl (5, [0, 1001, 1002, 1003, 0]), .inr (.inl 160), .inr (.inl 160), .inr (.inl 3), .inl (5, [0, 1001, 1002, 1003, 0]), .inr (.inl 160), .inr (.inl 160), .inr (.inl 3), .inl (5, [0, 1001, 1002, 1003, 0]), .inr (.inl 160), .inr (.inl 160), .inr (.inl 3), .inl (5, [0, 1001, 1002, 1003, 0]), .inr (.inl 160), .inr (.inl 160), .inr (.inl 3), .inl (5, [0, 1001, 1002, 1003, 0]), .inr (.inl 160), .inr (.inl 160), .inr (.inl 3), .inl (5, [0, 1001, 1002, 1003, 0]), .inr (.inl 160), .inr (.inl 160), .inr (.inl 3), .inl (3, [1001, 0, 0]), .inr (.inl 40), .inl (3, [1001, 0, 0]), .inr (.inl 40), .inl (3, [1001, 0, 0]), .inr (.inl 40), .inl (3, [1001, 0, 0]), .inr (.inl 40), .inl (6, [60, 1, 0, 0, 0, 0]), .inl (7, [61, 62, 0, 6]), .inr (.inl 160), .inr (.inl 160), .inl (2, [1001, 0, 1]), .inr (.inl 24), .inl (2, [1001, 0, 1]), .inr (.inl 24), .inl (2, [1001, 0, 1]), .inr (.inl 24)]
def dSh : List SC := [.inl (9, [0, 5, 0, 6, 7, 8, 9, 10, 11, 0, 0, 12, 0, 13, 14, 15, 0, 0, 0, 0, 0, 2, 16, 0, 0, 0, 0, 0, 17, 18, 0, 0, 0, 0, 0, 0, 0, 19, 20, 21, 0, 0, 0, 0, 22, 23, 24, 25, 26]), .inr (.inl 24), .inr (.inl 5), .inr (.inl 5), .inr (.inl 5), .inr (.inl 5), .inr (.inl 5), .inr (.inl 5), .inr (.inl 160), .inr (.inl 18), .inr (.inl 18), .inr (.inl 3000), .inr (.inl 200), .inr (.inl 200), .inr (.inl 6), .inr (.inl 24), .inr (.inl 24), .inr (.inl 3), .inr (.inl 24), .inr (.inl 25), .inr (.inl 4), .inr (.inl 4), .inr (.inl 160)]
theorem cShG : (∀ (I : Nat → Nat → Int32) (V : Nat → Nat → Nat) (L : Nat → Int64) (A : Nat → Nat → Int32) (K : Value → Prop), pget (mkH cSh I V L A) 0 8 0 K = K (.ref 1)) ∧
  (∀ (I : Nat → Nat → Int32) (V : Nat → Nat → Nat) (L : Nat → Int64) (A : Nat → Nat → Int32) (K : Value → Prop), pget (mkH cSh I V L A) 0 8 1 K = K (.ref 2)) ∧
  (∀ (I : Nat → Nat → Int32) (V : Nat → Nat → Nat) (L : Nat → Int64) (A : Nat → Nat → Int32) (K : Value → Prop), pget (mkH cSh I V L A) 0 8 2 K = K (.ref 55)) ∧
  (∀ (I : Nat → Nat → Int32) (V : Nat → Nat → Nat) (L : Nat → Int64) (A : Nat → Nat → Int32) (K : Value → Prop), pget (mkH cSh I V L A) 0 8 3 K = K (.int (I 0 3))) ∧
  (∀ (I : Nat → Nat → Int32) (V : Nat → Nat → Nat) (L : Nat → Int64) (A : Nat → Nat → Int32) (K : Value → Prop), pget (mkH cSh I V L A) 0 8 4 K = K (.ref 59)) ∧
  (∀ (I : Nat → Nat → Int32) (V : Nat → Nat → Nat) (L : Nat → Int64) (A : Nat → Nat → Int32) (K : Value → Prop), pget (mkH cSh I V L A) 0 8 5 K = K (.ref 4)) ∧
  (∀ (I : Nat → Nat → Int32) (V : Nat → Nat → Nat) (L : Nat → Int64) (A : Nat → Nat → Int32) (K : Value → Prop), pget (mkH cSh I V L A) 0 8 6 K = K (.ref 61)) ∧
  (∀ (I : Nat → Nat → Int32) (V : Nat → Nat → Nat) (L : Nat → Int64) (A : Nat → Nat → Int32) (K : Value → Prop), pget (mkH cSh I V L A) 0 8 7 K = K (.ref 11)) ∧
  (∀ (I : Nat → Nat → Int32) (V : Nat → Nat → Nat) (L : Nat → Int64) (A : Nat → Nat → Int32) (K : Value → Prop), pget (mkH cSh I V L A) 0 8 8 K = K (.int (I 0 8))) ∧
  (∀ (I : Nat → Nat → Int32) (V : Nat → Nat → Nat) (L : Nat → Int64) (A : Nat → Nat → Int32) (K : Value → Prop), pget (mkH cSh I V L A) 0 8 9 K = K (.ref 18)) ∧
  (∀ (I : Nat → Nat → Int32) (V : Nat → Nat → Nat) (L : Nat → Int64) (A : Nat → Nat → Int32) (K : Value → Prop), pget (mkH cSh I V L A) 0 8 10 K = K (.ref 63)) ∧
  (∀ (I : Nat → Nat → Int32) (V : Nat → Nat → Nat) (L : Nat → Int64) (A : Nat → Nat → Int32) (K : Value → Prop), pget (mkH cSh I V L A) 0 8 11 K = K (.ref 19)) ∧
  (∀ (I : Nat → Nat → Int32) (V : Nat → Nat → Nat) (L : Nat → Int64) (A : Nat → Nat → Int32) (K : Value → Prop), pget (mkH cSh I V L A) 0 8 12 K = K (.ref 20)) ∧
  (∀ (I : Nat → Nat → Int32) (V : Nat → Nat → Nat) (L : Nat → Int64) (A : Nat → Nat → Int32) (K : Value → Prop), pget (mkH cSh I V L A) 0 8 13 K = K (.ref 21)) ∧
  (∀ (I : Nat → Nat → Int32) (V : Nat → Nat → Nat) (L : Nat → Int64) (A : Nat → Nat → Int32) (K : Value → Prop), pget (mkH cSh I V L A) 0 8 14 K = K (.ref 22)) ∧
  (∀ (I : Nat → Nat → Int32) (V : Nat → Nat → Nat) (L : Nat → Int64) (A : Nat → Nat → Int32), mrcv (mkH cSh I V L A) 0 8 = true) ∧
  (∀ (I : Nat → Nat → Int32) (V : Nat → Nat → Nat) (L : Nat → Int64) (A : Nat → Nat → Int32) (K : Value → Prop), pget (mkH cSh I V L A) 2 4 0 K = K (.ref 3)) ∧
  (∀ (I : Nat → Nat → Int32) (V : Nat → Nat → Nat) (L : Nat → Int64) (A : Nat → Nat → Int32) (K : Value → Prop), pget (mkH cSh I V L A) 2 4 1 K = K (.int (I 2 1))) ∧
  (∀ (I : Nat → Nat → Int32) (V : Nat → Nat → Nat) (L : Nat → Int64) (A : Nat → Nat → Int32), mrcv (mkH cSh I V L A) 2 4 = true) ∧
  (∀ (I : Nat → Nat → Int32) (V : Nat → Nat → Nat) (L : Nat → Int64) (A : Nat → Nat → Int32) (K : Value → Prop), pget (mkH cSh I V L A) 4 0 0 K = K (.ref 5)) ∧
  (∀ (I : Nat → Nat → Int32) (V : Nat → Nat → Nat) (L : Nat → Int64) (A : Nat → Nat → Int32) (K : Value → Prop), pget (mkH cSh I V L A) 4 0 1 K = K (.int (I 4 1))) ∧
  (∀ (I : Nat → Nat → Int32) (V : Nat → Nat → Nat) (L : Nat → Int64) (A : Nat → Nat → Int32), mrcv (mkH cSh I V L A) 4 0 = true) ∧
  (∀ (I : Nat → Nat → Int32) (V : Nat → Nat → Nat) (L : Nat → Int64) (A : Nat → Nat → Int32) (K : Value → Prop), pget (mkH cSh I V L A) 11 0 0 K = K (.ref 12)) ∧
  (∀ (I : Nat → Nat → Int32) (V : Nat → Nat → Nat) (L : Nat → Int64) (A : Nat → Nat → Int32) (K : Value → Prop), pget (mkH cSh I V L A) 11 0 1 K = K (.int (I 11 1))) ∧
  (∀ (I : Nat → Nat → Int32) (V : Nat → Nat → Nat) (L : Nat → Int64) (A : Nat → Nat → Int32), mrcv (mkH cSh I V L A) 11 0 = true) ∧
  (∀ (I : Nat → Nat → Int32) (V : Nat → Nat → Nat) (L : Nat → Int64) (A : Nat → Nat → Int32) (K : Value → Prop), pget (mkH cSh I V L A) 19 1 0 K = K (.int (I 19 0))) ∧
  (∀ (I : Nat → Nat → Int32) (V : Nat → Nat → Nat) (L : Nat → Int64) (A : Nat → Nat → Int32) (K : Value → Prop), pget (mkH cSh I V L A) 19 1 1 K = K (.int (I 19 1))) ∧
  (∀ (I : Nat → Nat → Int32) (V : Nat → Nat → Nat) (L : Nat → Int64) (A : Nat → Nat → Int32) (K : Value → Prop), pget (mkH cSh I V L A) 19 1 2 K = K (.int (I 19 2))) ∧
  (∀ (I : Nat → Nat → Int32) (V : Nat → Nat → Nat) (L : Nat → Int64) (A : Nat → Nat → Int32) (K : Value → Prop), pget (mkH cSh I V L A) 19 1 3 K = K (.int (I 19 3))) ∧
  (∀ (I : Nat → Nat → Int32) (V : Nat → Nat → Nat) (L : Nat → Int64) (A : Nat → Nat → Int32) (K : Value → Prop), pget (mkH cSh I V L A) 19 1 4 K = K (.int (I 19 4))) ∧
  (∀ (I : Nat → Nat → Int32) (V : Nat → Nat → Nat) (L : Nat → Int64) (A : Nat → Nat → Int32) (K : Value → Prop), pget (mkH cSh I V L A) 19 1 5 K = K (.int (I 19 5))) ∧
  (∀ (I : Nat → Nat → Int32) (V : Nat → Nat → Nat) (L : Nat → Int64) (A : Nat → Nat → Int32), mrcv (mkH cSh I V L A) 19 1 = true) ∧
  (∀ (I : Nat → Nat → Int32) (V : Nat → Nat → Nat) (L : Nat → Int64) (A : Nat → Nat → Int32) (K : Value → Prop), pget (mkH cSh I V L A) 20 1 0 K = K (.int (I 20 0))) ∧
  (∀ (I : Nat → Nat → Int32) (V : Nat → Nat → Nat) (L : Nat → Int64) (A : Nat → Nat → Int32) (K : Value → Prop), pget (mkH cSh I V L A) 20 1 1 K = K (.int (I 20 1))) ∧
  (∀ (I : Nat → Nat → Int32) (V : Nat → Nat → Nat) (L : Nat → Int64) (A : Nat → Nat → Int32) (K : Value → Prop), pget (mkH cSh I V L A) 20 1 2 K = K (.int (I 20 2))) ∧
  (∀ (I : Nat → Nat → Int32) (V : Nat → Nat → Nat) (L : Nat → Int64) (A : Nat → Nat → Int32) (K : Value → Prop), pget (mkH cSh I V L A) 20 1 3 K = K (.int (I 20 3))) ∧
  (∀ (I : Nat → Nat → Int32) (V : Nat → Nat → Nat) (L : Nat → Int64) (A : Nat → Nat → Int32) (K : Value → Prop), pget (mkH cSh I V L A) 20 1 4 K = K (.int (I 20 4))) ∧
  (∀ (I : Nat → Nat → Int32) (V : Nat → Nat → Nat) (L : Nat → Int64) (A : Nat → Nat → Int32) (K : Value → Prop), pget (mkH cSh I V L A) 20 1 5 K = K (.int (I 20 5))) ∧
  (∀ (I : Nat → Nat → Int32) (V : Nat → Nat → Nat) (L : Nat → Int64) (A : Nat → Nat → Int32), mrcv (mkH cSh I V L A) 20 1 = true) ∧
  (∀ (I : Nat → Nat → Int32) (V : Nat → Nat → Nat) (L : Nat → Int64) (A : Nat → Nat → Int32) (K : Value → Prop), pget (mkH cSh I V L A) 55 6 0 K = K (.ref 56)) ∧
  (∀ (I : Nat → Nat → Int32) (V : Nat → Nat → Nat) (L : Nat → Int64) (A : Nat → Nat → Int32) (K : Value → Prop), pget (mkH cSh I V L A) 55 6 1 K = K (.ref (V 55 1))) ∧
  (∀ (I : Nat → Nat → Int32) (V : Nat → Nat → Nat) (L : Nat → Int64) (A : Nat → Nat → Int32) (K : Value → Prop), pget (mkH cSh I V L A) 55 6 2 K = K (.int (I 55 2))) ∧
  (∀ (I : Nat → Nat → Int32) (V : Nat → Nat → Nat) (L : Nat → Int64) (A : Nat → Nat → Int32) (K : Value → Prop), pget (mkH cSh I V L A) 55 6 3 K = K (.int (I 55 3))) ∧
  (∀ (I : Nat → Nat → Int32) (V : Nat → Nat → Nat) (L : Nat → Int64) (A : Nat → Nat → Int32) (K : Value → Prop), pget (mkH cSh I V L A) 55 6 4 K = K (.int (I 55 4))) ∧
  (∀ (I : Nat → Nat → Int32) (V : Nat → Nat → Nat) (L : Nat → Int64) (A : Nat → Nat → Int32) (K : Value → Prop), pget (mkH cSh I V L A) 55 6 5 K = K (.int (I 55 5))) ∧
  (∀ (I : Nat → Nat → Int32) (V : Nat → Nat → Nat) (L : Nat → Int64) (A : Nat → Nat → Int32), mrcv (mkH cSh I V L A) 55 6 = true) ∧
  (∀ (I : Nat → Nat → Int32) (V : Nat → Nat → Nat) (L : Nat → Int64) (A : Nat → Nat → Int32) (K : Value → Prop), pget (mkH cSh I V L A) 56 7 0 K = K (.ref 57)) ∧
  (∀ (I : Nat → Nat → Int32) (V : Nat → Nat → Nat) (L : Nat → Int64) (A : Nat → Nat → Int32) (K : Value → Prop), pget (mkH cSh I V L A) 56 7 1 K = K (.ref 58)) ∧
  (∀ (I : Nat → Nat → Int32) (V : Nat → Nat → Nat) (L : Nat → Int64) (A : Nat → Nat → Int32) (K : Value → Prop), pget (mkH cSh I V L A) 56 7 2 K = K (.int (I 56 2))) ∧
  (∀ (I : Nat → Nat → Int32) (V : Nat → Nat → Nat) (L : Nat → Int64) (A : Nat → Nat → Int32) (K : Value → Prop), pget (mkH cSh I V L A) 56 7 3 K = K (.ref 2)) ∧
  (∀ (I : Nat → Nat → Int32) (V : Nat → Nat → Nat) (L : Nat → Int64) (A : Nat → Nat → Int32), mrcv (mkH cSh I V L A) 56 7 = true) ∧
  (∀ (I : Nat → Nat → Int32) (V : Nat → Nat → Nat) (L : Nat → Int64) (A : Nat → Nat → Int32) (K : Value → Prop), pget (mkH cSh I V L A) 59 2 0 K = K (.ref 60)) ∧
  (∀ (I : Nat → Nat → Int32) (V : Nat → Nat → Nat) (L : Nat → Int64) (A : Nat → Nat → Int32) (K : Value → Prop), pget (mkH cSh I V L A) 59 2 1 K = K (.int (I 59 1))) ∧
  (∀ (I : Nat → Nat → Int32) (V : Nat → Nat → Nat) (L : Nat → Int64) (A : Nat → Nat → Int32) (K : Value → Prop), pget (mkH cSh I V L A) 59 2 2 K = K (.ref (V 59 2))) ∧
  (∀ (I : Nat → Nat → Int32) (V : Nat → Nat → Nat) (L : Nat → Int64) (A : Nat → Nat → Int32), mrcv (mkH cSh I V L A) 59 2 = true) ∧
  (∀ (I : Nat → Nat → Int32) (V : Nat → Nat → Nat) (L : Nat → Int64) (A : Nat → Nat → Int32) (K : Value → Prop), pget (mkH cSh I V L A) 61 2 0 K = K (.ref 62)) ∧
  (∀ (I : Nat → Nat → Int32) (V : Nat → Nat → Nat) (L : Nat → Int64) (A : Nat → Nat → Int32) (K : Value → Prop), pget (mkH cSh I V L A) 61 2 1 K = K (.int (I 61 1))) ∧
  (∀ (I : Nat → Nat → Int32) (V : Nat → Nat → Nat) (L : Nat → Int64) (A : Nat → Nat → Int32) (K : Value → Prop), pget (mkH cSh I V L A) 61 2 2 K = K (.ref (V 61 2))) ∧
  (∀ (I : Nat → Nat → Int32) (V : Nat → Nat → Nat) (L : Nat → Int64) (A : Nat → Nat → Int32), mrcv (mkH cSh I V L A) 61 2 = true) ∧
  (∀ (I : Nat → Nat → Int32) (V : Nat → Nat → Nat) (L : Nat → Int64) (A : Nat → Nat → Int32) (K : Value → Prop), pget (mkH cSh I V L A) 63 2 0 K = K (.ref 64)) ∧
  (∀ (I : Nat → Nat → Int32) (V : Nat → Nat → Nat) (L : Nat → Int64) (A : Nat → Nat → Int32) (K : Value → Prop), pget (mkH cSh I V L A) 63 2 1 K = K (.int (I 63 1))) ∧
  (∀ (I : Nat → Nat → Int32) (V : Nat → Nat → Nat) (L : Nat → Int64) (A : Nat → Nat → Int32) (K : Value → Prop), pget (mkH cSh I V L A) 63 2 2 K = K (.ref (V 63 2))) ∧
  (∀ (I : Nat → Nat → Int32) (V : Nat → Nat → Nat) (L : Nat → Int64) (A : Nat → Nat → Int32), mrcv (mkH cSh I V L A) 63 2 = true) :=
  ⟨fun _ _ _ _ _ => H_get (c := 5) rfl rfl,
  fun _ _ _ _ _ => H_get (c := 6) rfl rfl,
  fun _ _ _ _ _ => H_get (c := 59) rfl rfl,
  fun _ _ _ _ _ => H_get (c := 0) rfl rfl,
  fun _ _ _ _ _ => H_get (c := 63) rfl rfl,
  fun _ _ _ _ _ => H_get (c := 8) rfl rfl,
  fun _ _ _ _ _ => H_get (c := 65) rfl rfl,
  fun _ _ _ _ _ => H_get (c := 15) rfl rfl,
  fun _ _ _ _ _ => H_get (c := 0) rfl rfl,
  fun _ _ _ _ _ => H_get (c := 22) rfl rfl,
  fun _ _ _ _ _ => H_get (c := 67) rfl rfl,
  fun _ _ _ _ _ => H_get (c := 23) rfl rfl,
  fun _ _ _ _ _ => H_get (c := 24) rfl rfl,
  fun _ _ _ _ _ => H_get (c := 25) rfl rfl,
  fun _ _ _ _ _ => H_get (c := 26) rfl rfl,
  fun _ _ _ _ => H_rcv rfl (by decide) (by decide),
  fun _ _ _ _ _ => H_get (c := 7) rfl rfl,
  fun _ _ _ _ _ => H_get (c := 0) rfl rfl,
  fun _ _ _ _ => H_rcv rfl (by decide) (by decide),
  fun _ _ _ _ _ => H_get (c := 9) rfl rfl,
  fun _ _ _ _ _ => H_get (c := 0) rfl rfl,
  fun _ _ _ _ => H_rcv rfl (by decide) (by decide),
  fun _ _ _ _ _ => H_get (c := 16) rfl rfl,
  fun _ _ _ _ _ => H_get (c := 0) rfl rfl,
  fun _ _ _ _ => H_rcv rfl (by decide) (by decide),
  fun _ _ _ _ _ => H_get (c := 0) rfl rfl,
  fun _ _ _ _ _ => H_get (c := 0) rfl rfl,
  fun _ _ _ _ _ => H_get (c := 0) rfl rfl,
  fun _ _ _ _ _ => H_get (c := 0) rfl rfl,
  fun _ _ _ _ _ => H_get (c := 0) rfl rfl,
  fun _ _ _ _ _ => H_get (c := 0) rfl rfl,
  fun _ _ _ _ => H_rcv rfl (by decide) (by decide),
  fun _ _ _ _ _ => H_get (c := 0) rfl rfl,
  fun _ _ _ _ _ => H_get (c := 0) rfl rfl,
  fun _ _ _ _ _ => H_get (c := 0) rfl rfl,
  fun _ _ _ _ _ => H_get (c := 0) rfl rfl,
  fun _ _ _ _ _ => H_get (c := 0) rfl rfl,
  fun _ _ _ _ _ => H_get (c := 0) rfl rfl,
  fun _ _ _ _ => H_rcv rfl (by decide) (by decide),
  fun _ _ _ _ _ => H_get (c := 60) rfl rfl,
  fun _ _ _ _ _ => H_get (c := 1) rfl rfl,
  fun _ _ _ _ _ => H_get (c := 0) rfl rfl,
  fun _ _ _ _ _ => H_get (c := 0) rfl rfl,
  fun _ _ _ _ _ => H_get (c := 0) rfl rfl,
  fun _ _ _ _ _ => H_get (c := 0) rfl rfl,
  fun _ _ _ _ => H_rcv rfl (by decide) (by decide),
  fun _ _ _ _ _ => H_get (c := 61) rfl rfl,
  fun _ _ _ _ _ => H_get (c := 62) rfl rfl,
  fun _ _ _ _ _ => H_get (c := 0) rfl rfl,
  fun _ _ _ _ _ => H_get (c := 6) rfl rfl,
  fun _ _ _ _ => H_rcv rfl (by decide) (by decide),
  fun _ _ _ _ _ => H_get (c := 1001) rfl rfl,
  fun _ _ _ _ _ => H_get (c := 0) rfl rfl,
  fun _ _ _ _ _ => H_get (c := 1) rfl rfl,
  fun _ _ _ _ => H_rcv rfl (by decide) (by decide),
  fun _ _ _ _ _ => H_get (c := 1001) rfl rfl,
  fun _ _ _ _ _ => H_get (c := 0) rfl rfl,
  fun _ _ _ _ _ => H_get (c := 1) rfl rfl,
  fun _ _ _ _ => H_rcv rfl (by decide) (by decide),
  fun _ _ _ _ _ => H_get (c := 1001) rfl rfl,
  fun _ _ _ _ _ => H_get (c := 0) rfl rfl,
  fun _ _ _ _ _ => H_get (c := 1) rfl rfl,
  fun _ _ _ _ => H_rcv rfl (by decide) (by decide)⟩
theorem cShP : (∀ (I : Nat → Nat → Int32) (V : Nat → Nat → Nat) (L : Nat → Int64) (A : Nat → Nat → Int32) (v : Int32) (K : MH → Prop), pput (mkH cSh I V L A) 0 8 3 (.int v) K = K (mkH cSh (up2 I 0 3 v) V L A)) ∧
  (∀ (I : Nat → Nat → Int32) (V : Nat → Nat → Nat) (L : Nat → Int64) (A : Nat → Nat → Int32) (K : MH → Prop), pput (mkH cSh I V L A) 0 8 8 (.int 0) K = K (mkH cSh (up2 I 0 8 0) V L A)) ∧
  (∀ (I : Nat → Nat → Int32) (V : Nat → Nat → Nat) (L : Nat → Int64) (A : Nat → Nat → Int32) (K : MH → Prop), pput (mkH cSh I V L A) 0 8 8 (.int 1) K = K (mkH cSh (up2 I 0 8 1) V L A)) ∧
  (∀ (I : Nat → Nat → Int32) (V : Nat → Nat → Nat) (L : Nat → Int64) (A : Nat → Nat → Int32) (v : Int32) (K : MH → Prop), pput (mkH cSh I V L A) 2 4 1 (.int v) K = K (mkH cSh (up2 I 2 1 v) V L A)) ∧
  (∀ (I : Nat → Nat → Int32) (V : Nat → Nat → Nat) (L : Nat → Int64) (A : Nat → Nat → Int32) (v : Int32) (K : MH → Prop), pput (mkH cSh I V L A) 4 0 1 (.int v) K = K (mkH cSh (up2 I 4 1 v) V L A)) ∧
  (∀ (I : Nat → Nat → Int32) (V : Nat → Nat → Nat) (L : Nat → Int64) (A : Nat → Nat → Int32) (v : Int32) (K : MH → Prop), pput (mkH cSh I V L A) 11 0 1 (.int v) K = K (mkH cSh (up2 I 11 1 v) V L A)) ∧
  (∀ (I : Nat → Nat → Int32) (V : Nat → Nat → Nat) (L : Nat → Int64) (A : Nat → Nat → Int32) (v : Int32) (K : MH → Prop), pput (mkH cSh I V L A) 19 1 0 (.int v) K = K (mkH cSh (up2 I 19 0 v) V L A)) ∧
  (∀ (I : Nat → Nat → Int32) (V : Nat → Nat → Nat) (L : Nat → Int64) (A : Nat → Nat → Int32) (v : Int32) (K : MH → Prop), pput (mkH cSh I V L A) 19 1 1 (.int v) K = K (mkH cSh (up2 I 19 1 v) V L A)) ∧
  (∀ (I : Nat → Nat → Int32) (V : Nat → Nat → Nat) (L : Nat → Int64) (A : Nat → Nat → Int32) (v : Int32) (K : MH → Prop), pput (mkH cSh I V L A) 19 1 2 (.int v) K = K (mkH cSh (up2 I 19 2 v) V L A)) ∧
  (∀ (I : Nat → Nat → Int32) (V : Nat → Nat → Nat) (L : Nat → Int64) (A : Nat → Nat → Int32) (v : Int32) (K : MH → Prop), pput (mkH cSh I V L A) 19 1 3 (.int v) K = K (mkH cSh (up2 I 19 3 v) V L A)) ∧
  (∀ (I : Nat → Nat → Int32) (V : Nat → Nat → Nat) (L : Nat → Int64) (A : Nat → Nat → Int32) (v : Int32) (K : MH → Prop), pput (mkH cSh I V L A) 19 1 4 (.int v) K = K (mkH cSh (up2 I 19 4 v) V L A)) ∧
  (∀ (I : Nat → Nat → Int32) (V : Nat → Nat → Nat) (L : Nat → Int64) (A : Nat → Nat → Int32) (v : Int32) (K : MH → Prop), pput (mkH cSh I V L A) 19 1 5 (.int v) K = K (mkH cSh (up2 I 19 5 v) V L A)) ∧
  (∀ (I : Nat → Nat → Int32) (V : Nat → Nat → Nat) (L : Nat → Int64) (A : Nat → Nat → Int32) (v : Int32) (K : MH → Prop), pput (mkH cSh I V L A) 20 1 0 (.int v) K = K (mkH cSh (up2 I 20 0 v) V L A)) ∧
  (∀ (I : Nat → Nat → Int32) (V : Nat → Nat → Nat) (L : Nat → Int64) (A : Nat → Nat → Int32) (v : Int32) (K : MH → Prop), pput (mkH cSh I V L A) 20 1 1 (.int v) K = K (mkH cSh (up2 I 20 1 v) V L A)) ∧
  (∀ (I : Nat → Nat → Int32) (V : Nat → Nat → Nat) (L : Nat → Int64) (A : Nat → Nat → Int32) (v : Int32) (K : MH → Prop), pput (mkH cSh I V L A) 20 1 2 (.int v) K = K (mkH cSh (up2 I 20 2 v) V L A)) ∧
  (∀ (I : Nat → Nat → Int32) (V : Nat → Nat → Nat) (L : Nat → Int64) (A : Nat → Nat → Int32) (v : Int32) (K : MH → Prop), pput (mkH cSh I V L A) 20 1 3 (.int v) K = K (mkH cSh (up2 I 20 3 v) V L A)) ∧
  (∀ (I : Nat → Nat → Int32) (V : Nat → Nat → Nat) (L : Nat → Int64) (A : Nat → Nat → Int32) (v : Int32) (K : MH → Prop), pput (mkH cSh I V L A) 20 1 4 (.int v) K = K (mkH cSh (up2 I 20 4 v) V L A)) ∧
  (∀ (I : Nat → Nat → Int32) (V : Nat → Nat → Nat) (L : Nat → Int64) (A : Nat → Nat → Int32) (v : Int32) (K : MH → Prop), pput (mkH cSh I V L A) 20 1 5 (.int v) K = K (mkH cSh (up2 I 20 5 v) V L A)) ∧
  (∀ (I : Nat → Nat → Int32) (V : Nat → Nat → Nat) (L : Nat → Int64) (A : Nat → Nat → Int32) (v : Nat) (K : MH → Prop), pput (mkH cSh I V L A) 55 6 1 (.ref v) K = K (mkH cSh I (up2 V 55 1 v) L A)) ∧
  (∀ (I : Nat → Nat → Int32) (V : Nat → Nat → Nat) (L : Nat → Int64) (A : Nat → Nat → Int32) (v : Int32) (K : MH → Prop), pput (mkH cSh I V L A) 55 6 2 (.int v) K = K (mkH cSh (up2 I 55 2 v) V L A)) ∧
  (∀ (I : Nat → Nat → Int32) (V : Nat → Nat → Nat) (L : Nat → Int64) (A : Nat → Nat → Int32) (v : Int32) (K : MH → Prop), pput (mkH cSh I V L A) 55 6 3 (.int v) K = K (mkH cSh (up2 I 55 3 v) V L A)) ∧
  (∀ (I : Nat → Nat → Int32) (V : Nat → Nat → Nat) (L : Nat → Int64) (A : Nat → Nat → Int32) (v : Int32) (K : MH → Prop), pput (mkH cSh I V L A) 55 6 4 (.int v) K = K (mkH cSh (up2 I 55 4 v) V L A)) ∧
  (∀ (I : Nat → Nat → Int32) (V : Nat → Nat → Nat) (L : Nat → Int64) (A : Nat → Nat → Int32) (v : Int32) (K : MH → Prop), pput (mkH cSh I V L A) 55 6 5 (.int v) K = K (mkH cSh (up2 I 55 5 v) V L A)) ∧
  (∀ (I : Nat → Nat → Int32) (V : Nat → Nat → Nat) (L : Nat → Int64) (A : Nat → Nat → Int32) (v : Int32) (K : MH → Prop), pput (mkH cSh I V L A) 56 7 2 (.int v) K = K (mkH cSh (up2 I 56 2 v) V L A)) ∧
  (∀ (I : Nat → Nat → Int32) (V : Nat → Nat → Nat) (L : Nat → Int64) (A : Nat → Nat → Int32) (v : Int32) (K : MH → Prop), pput (mkH cSh I V L A) 59 2 1 (.int v) K = K (mkH cSh (up2 I 59 1 v) V L A)) ∧
  (∀ (I : Nat → Nat → Int32) (V : Nat → Nat → Nat) (L : Nat → Int64) (A : Nat → Nat → Int32) (v : Nat) (K : MH → Prop), pput (mkH cSh I V L A) 59 2 2 (.ref v) K = K (mkH cSh I (up2 V 59 2 v) L A)) ∧
  (∀ (I : Nat → Nat → Int32) (V : Nat → Nat → Nat) (L : Nat → Int64) (A : Nat → Nat → Int32) (v : Int32) (K : MH → Prop), pput (mkH cSh I V L A) 61 2 1 (.int v) K = K (mkH cSh (up2 I 61 1 v) V L A)) ∧
  (∀ (I : Nat → Nat → Int32) (V : Nat → Nat → Nat) (L : Nat → Int64) (A : Nat → Nat → Int32) (v : Nat) (K : MH → Prop), pput (mkH cSh I V L A) 61 2 2 (.ref v) K = K (mkH cSh I (up2 V 61 2 v) L A)) ∧
  (∀ (I : Nat → Nat → Int32) (V : Nat → Nat → Nat) (L : Nat → Int64) (A : Nat → Nat → Int32) (v : Int32) (K : MH → Prop), pput (mkH cSh I V L A) 63 2 1 (.int v) K = K (mkH cSh (up2 I 63 1 v) V L A)) ∧
  (∀ (I : Nat → Nat → Int32) (V : Nat → Nat → Nat) (L : Nat → Int64) (A : Nat → Nat → Int32) (v : Nat) (K : MH → Prop), pput (mkH cSh I V L A) 63 2 2 (.ref v) K = K (mkH cSh I (up2 V 63 2 v) L A)) :=
  ⟨fun _ _ _ _ _ _ => H_put rfl rfl (by decide) ⟨rfl, rfl⟩,
  fun _ _ _ _ _ => H_put rfl rfl (by decide) ⟨rfl, rfl⟩,
  fun _ _ _ _ _ => H_put rfl rfl (by decide) ⟨rfl, rfl⟩,
  fun _ _ _ _ _ _ => H_put rfl rfl (by decide) ⟨rfl, rfl⟩,
  fun _ _ _ _ _ _ => H_put rfl rfl (by decide) ⟨rfl, rfl⟩,
  fun _ _ _ _ _ _ => H_put rfl rfl (by decide) ⟨rfl, rfl⟩,
  fun _ _ _ _ _ _ => H_put rfl rfl (by decide) ⟨rfl, rfl⟩,
  fun _ _ _ _ _ _ => H_put rfl rfl (by decide) ⟨rfl, rfl⟩,
  fun _ _ _ _ _ _ => H_put rfl rfl (by decide) ⟨rfl, rfl⟩,
  fun _ _ _ _ _ _ => H_put rfl rfl (by decide) ⟨rfl, rfl⟩,
  fun _ _ _ _ _ _ => H_put rfl rfl (by decide) ⟨rfl, rfl⟩,
  fun _ _ _ _ _ _ => H_put rfl rfl (by decide) ⟨rfl, rfl⟩,
  fun _ _ _ _ _ _ => H_put rfl rfl (by decide) ⟨rfl, rfl⟩,
  fun _ _ _ _ _ _ => H_put rfl rfl (by decide) ⟨rfl, rfl⟩,
  fun _ _ _ _ _ _ => H_put rfl rfl (by decide) ⟨rfl, rfl⟩,
  fun _ _ _ _ _ _ => H_put rfl rfl (by decide) ⟨rfl, rfl⟩,
  fun _ _ _ _ _ _ => H_put rfl rfl (by decide) ⟨rfl, rfl⟩,
  fun _ _ _ _ _ _ => H_put rfl rfl (by decide) ⟨rfl, rfl⟩,
  fun _ _ _ _ _ _ => H_putV rfl rfl (by decide) ⟨rfl, rfl⟩,
  fun _ _ _ _ _ _ => H_put rfl rfl (by decide) ⟨rfl, rfl⟩,
  fun _ _ _ _ _ _ => H_put rfl rfl (by decide) ⟨rfl, rfl⟩,
  fun _ _ _ _ _ _ => H_put rfl rfl (by decide) ⟨rfl, rfl⟩,
  fun _ _ _ _ _ _ => H_put rfl rfl (by decide) ⟨rfl, rfl⟩,
  fun _ _ _ _ _ _ => H_put rfl rfl (by decide) ⟨rfl, rfl⟩,
  fun _ _ _ _ _ _ => H_put rfl rfl (by decide) ⟨rfl, rfl⟩,
  fun _ _ _ _ _ _ => H_putV rfl rfl (by decide) ⟨rfl, rfl⟩,
  fun _ _ _ _ _ _ => H_put rfl rfl (by decide) ⟨rfl, rfl⟩,
  fun _ _ _ _ _ _ => H_putV rfl rfl (by decide) ⟨rfl, rfl⟩,
  fun _ _ _ _ _ _ => H_put rfl rfl (by decide) ⟨rfl, rfl⟩,
  fun _ _ _ _ _ _ => H_putV rfl rfl (by decide) ⟨rfl, rfl⟩⟩
theorem cShR : (∀ (I : Nat → Nat → Int32) (V : Nat → Nat → Nat) (L : Nat → Int64) (A : Nat → Nat → Int32) (i : Int32) (K : Value → Prop), paal (mkH cSh I V L A) 1 i K = pix i 6 (fun j => K (.ref (23 + 4 * j)))) ∧
  (∀ (I : Nat → Nat → Int32) (V : Nat → Nat → Nat) (L : Nat → Int64) (A : Nat → Nat → Int32) (K : Nat → Prop), palen (mkH cSh I V L A) 1 K = K 6) ∧
  (∀ (I : Nat → Nat → Int32) (V : Nat → Nat → Nat) (L : Nat → Int64) (A : Nat → Nat → Int32) (i : Int32) (K : Int32 → Prop), pial (mkH cSh I V L A) 3 i K = pix i 160 (fun j => K (A 3 j))) ∧
  (∀ (I : Nat → Nat → Int32) (V : Nat → Nat → Nat) (L : Nat → Int64) (A : Nat → Nat → Int32) (i x : Int32) (K : MH → Prop), pias (mkH cSh I V L A) 3 i x K = pix i 160 (fun j => K (mkH cSh I V L (upA A 3 (upd (A 3) j x))))) ∧
  (∀ (I : Nat → Nat → Int32) (V : Nat → Nat → Nat) (L : Nat → Int64) (A : Nat → Nat → Int32) (K : Nat → Prop), palen (mkH cSh I V L A) 3 K = K 160) ∧
  (∀ (I : Nat → Nat → Int32) (V : Nat → Nat → Nat) (L : Nat → Int64) (A : Nat → Nat → Int32) (i : Int32) (K : Value → Prop), paal (mkH cSh I V L A) 5 i K = pix i 5 (fun j => K (.ref (6 + 1 * j)))) ∧
  (∀ (I : Nat → Nat → Int32) (V : Nat → Nat → Nat) (L : Nat → Int64) (A : Nat → Nat → Int32) (K : Nat → Prop), palen (mkH cSh I V L A) 5 K = K 5) ∧
  (∀ (I : Nat → Nat → Int32) (V : Nat → Nat → Nat) (L : Nat → Int64) (A : Nat → Nat → Int32) (i : Int32) (K : Value → Prop), paal (mkH cSh I V L A) 12 i K = pix i 5 (fun j => K (.ref (13 + 1 * j)))) ∧
  (∀ (I : Nat → Nat → Int32) (V : Nat → Nat → Nat) (L : Nat → Int64) (A : Nat → Nat → Int32) (K : Nat → Prop), palen (mkH cSh I V L A) 12 K = K 5) ∧
  (∀ (I : Nat → Nat → Int32) (V : Nat → Nat → Nat) (L : Nat → Int64) (A : Nat → Nat → Int32) (i : Int32) (K : Value → Prop), paal (mkH cSh I V L A) 18 i K = pix i 4 (fun j => K (.ref (47 + 2 * j)))) ∧
  (∀ (I : Nat → Nat → Int32) (V : Nat → Nat → Nat) (L : Nat → Int64) (A : Nat → Nat → Int32) (K : Nat → Prop), palen (mkH cSh I V L A) 18 K = K 4) ∧
  (∀ (I : Nat → Nat → Int32) (V : Nat → Nat → Nat) (L : Nat → Int64) (A : Nat → Nat → Int32) (i : Int32) (K : Int32 → Prop), pial (mkH cSh I V L A) 21 i K = pix i 24 (fun j => K (A 21 j))) ∧
  (∀ (I : Nat → Nat → Int32) (V : Nat → Nat → Nat) (L : Nat → Int64) (A : Nat → Nat → Int32) (i x : Int32) (K : MH → Prop), pias (mkH cSh I V L A) 21 i x K = pix i 24 (fun j => K (mkH cSh I V L (upA A 21 (upd (A 21) j x))))) ∧
  (∀ (I : Nat → Nat → Int32) (V : Nat → Nat → Nat) (L : Nat → Int64) (A : Nat → Nat → Int32) (K : Nat → Prop), palen (mkH cSh I V L A) 21 K = K 24) ∧
  (∀ (I : Nat → Nat → Int32) (V : Nat → Nat → Nat) (L : Nat → Int64) (A : Nat → Nat → Int32) (i : Int32) (K : Int32 → Prop), pial (mkH cSh I V L A) 22 i K = pix i 30 (fun j => K (A 22 j))) ∧
  (∀ (I : Nat → Nat → Int32) (V : Nat → Nat → Nat) (L : Nat → Int64) (A : Nat → Nat → Int32) (i x : Int32) (K : MH → Prop), pias (mkH cSh I V L A) 22 i x K = pix i 30 (fun j => K (mkH cSh I V L (upA A 22 (upd (A 22) j x))))) ∧
  (∀ (I : Nat → Nat → Int32) (V : Nat → Nat → Nat) (L : Nat → Int64) (A : Nat → Nat → Int32) (K : Nat → Prop), palen (mkH cSh I V L A) 22 K = K 30) ∧
  (∀ (I : Nat → Nat → Int32) (V : Nat → Nat → Nat) (L : Nat → Int64) (A : Nat → Nat → Int32) (i : Int32) (K : Int32 → Prop), pial (mkH cSh I V L A) 57 i K = pix i 160 (fun j => K (A 57 j))) ∧
  (∀ (I : Nat → Nat → Int32) (V : Nat → Nat → Nat) (L : Nat → Int64) (A : Nat → Nat → Int32) (i x : Int32) (K : MH → Prop), pias (mkH cSh I V L A) 57 i x K = pix i 160 (fun j => K (mkH cSh I V L (upA A 57 (upd (A 57) j x))))) ∧
  (∀ (I : Nat → Nat → Int32) (V : Nat → Nat → Nat) (L : Nat → Int64) (A : Nat → Nat → Int32) (K : Nat → Prop), palen (mkH cSh I V L A) 57 K = K 160) ∧
  (∀ (I : Nat → Nat → Int32) (V : Nat → Nat → Nat) (L : Nat → Int64) (A : Nat → Nat → Int32) (i : Int32) (K : Int32 → Prop), pial (mkH cSh I V L A) 58 i K = pix i 160 (fun j => K (A 58 j))) ∧
  (∀ (I : Nat → Nat → Int32) (V : Nat → Nat → Nat) (L : Nat → Int64) (A : Nat → Nat → Int32) (i x : Int32) (K : MH → Prop), pias (mkH cSh I V L A) 58 i x K = pix i 160 (fun j => K (mkH cSh I V L (upA A 58 (upd (A 58) j x))))) ∧
  (∀ (I : Nat → Nat → Int32) (V : Nat → Nat → Nat) (L : Nat → Int64) (A : Nat → Nat → Int32) (K : Nat → Prop), palen (mkH cSh I V L A) 58 K = K 160) ∧
  (∀ (I : Nat → Nat → Int32) (V : Nat → Nat → Nat) (L : Nat → Int64) (A : Nat → Nat → Int32) (i : Int32) (K : Int32 → Prop), pial (mkH cSh I V L A) 60 i K = pix i 24 (fun j => K (A 60 j))) ∧
  (∀ (I : Nat → Nat → Int32) (V : Nat → Nat → Nat) (L : Nat → Int64) (A : Nat → Nat → Int32) (i x : Int32) (K : MH → Prop), pias (mkH cSh I V L A) 60 i x K = pix i 24 (fun j => K (mkH cSh I V L (upA A 60 (upd (A 60) j x))))) ∧
  (∀ (I : Nat → Nat → Int32) (V : Nat → Nat → Nat) (L : Nat → Int64) (A : Nat → Nat → Int32) (K : Nat → Prop), palen (mkH cSh I V L A) 60 K = K 24) ∧
  (∀ (I : Nat → Nat → Int32) (V : Nat → Nat → Nat) (L : Nat → Int64) (A : Nat → Nat → Int32) (i : Int32) (K : Int32 → Prop), pial (mkH cSh I V L A) 62 i K = pix i 24 (fun j => K (A 62 j))) ∧
  (∀ (I : Nat → Nat → Int32) (V : Nat → Nat → Nat) (L : Nat → Int64) (A : Nat → Nat → Int32) (i x : Int32) (K : MH → Prop), pias (mkH cSh I V L A) 62 i x K = pix i 24 (fun j => K (mkH cSh I V L (upA A 62 (upd (A 62) j x))))) ∧
  (∀ (I : Nat → Nat → Int32) (V : Nat → Nat → Nat) (L : Nat → Int64) (A : Nat → Nat → Int32) (K : Nat → Prop), palen (mkH cSh I V L A) 62 K = K 24) ∧
  (∀ (I : Nat → Nat → Int32) (V : Nat → Nat → Nat) (L : Nat → Int64) (A : Nat → Nat → Int32) (i : Int32) (K : Int32 → Prop), pial (mkH cSh I V L A) 64 i K = pix i 24 (fun j => K (A 64 j))) ∧
  (∀ (I : Nat → Nat → Int32) (V : Nat → Nat → Nat) (L : Nat → Int64) (A : Nat → Nat → Int32) (i x : Int32) (K : MH → Prop), pias (mkH cSh I V L A) 64 i x K = pix i 24 (fun j => K (mkH cSh I V L (upA A 64 (upd (A 64) j x))))) ∧
  (∀ (I : Nat → Nat → Int32) (V : Nat → Nat → Nat) (L : Nat → Int64) (A : Nat → Nat → Int32) (K : Nat → Prop), palen (mkH cSh I V L A) 64 K = K 24) :=
  ⟨fun _ _ _ _ _ _ => H_aald rfl,
  fun _ _ _ _ _ => H_alenR rfl (by decide),
  fun _ _ _ _ _ _ => H_iald rfl (by decide),
  fun _ _ _ _ _ _ _ => H_iast rfl,
  fun _ _ _ _ _ => H_alenI rfl (by decide),
  fun _ _ _ _ _ _ => H_aald rfl,
  fun _ _ _ _ _ => H_alenR rfl (by decide),
  fun _ _ _ _ _ _ => H_aald rfl,
  fun _ _ _ _ _ => H_alenR rfl (by decide),
  fun _ _ _ _ _ _ => H_aald rfl,
  fun _ _ _ _ _ => H_alenR rfl (by decide),
  fun _ _ _ _ _ _ => H_iald rfl (by decide),
  fun _ _ _ _ _ _ _ => H_iast rfl,
  fun _ _ _ _ _ => H_alenI rfl (by decide),
  fun _ _ _ _ _ _ => H_iald rfl (by decide),
  fun _ _ _ _ _ _ _ => H_iast rfl,
  fun _ _ _ _ _ => H_alenI rfl (by decide),
  fun _ _ _ _ _ _ => H_iald rfl (by decide),
  fun _ _ _ _ _ _ _ => H_iast rfl,
  fun _ _ _ _ _ => H_alenI rfl (by decide),
  fun _ _ _ _ _ _ => H_iald rfl (by decide),
  fun _ _ _ _ _ _ _ => H_iast rfl,
  fun _ _ _ _ _ => H_alenI rfl (by decide),
  fun _ _ _ _ _ _ => H_iald rfl (by decide),
  fun _ _ _ _ _ _ _ => H_iast rfl,
  fun _ _ _ _ _ => H_alenI rfl (by decide),
  fun _ _ _ _ _ _ => H_iald rfl (by decide),
  fun _ _ _ _ _ _ _ => H_iast rfl,
  fun _ _ _ _ _ => H_alenI rfl (by decide),
  fun _ _ _ _ _ _ => H_iald rfl (by decide),
  fun _ _ _ _ _ _ _ => H_iast rfl,
  fun _ _ _ _ _ => H_alenI rfl (by decide)⟩
theorem dShG : (∀ (I : Nat → Nat → Int32) (V : Nat → Nat → Nat) (L : Nat → Int64) (A : Nat → Nat → Int32) (K : Value → Prop), pget (mkH dSh I V L A) 0 9 0 K = K (.int (I 0 0))) ∧
  (∀ (I : Nat → Nat → Int32) (V : Nat → Nat → Nat) (L : Nat → Int64) (A : Nat → Nat → Int32) (K : Value → Prop), pget (mkH dSh I V L A) 0 9 1 K = K (.ref 1)) ∧
  (∀ (I : Nat → Nat → Int32) (V : Nat → Nat → Nat) (L : Nat → Int64) (A : Nat → Nat → Int32) (K : Value → Prop), pget (mkH dSh I V L A) 0 9 2 K = K (.int (I 0 2))) ∧
  (∀ (I : Nat → Nat → Int32) (V : Nat → Nat → Nat) (L : Nat → Int64) (A : Nat → Nat → Int32) (K : Value → Prop), pget (mkH dSh I V L A) 0 9 3 K = K (.ref 2)) ∧
  (∀ (I : Nat → Nat → Int32) (V : Nat → Nat → Nat) (L : Nat → Int64) (A : Nat → Nat → Int32) (K : Value → Prop), pget (mkH dSh I V L A) 0 9 4 K = K (.ref 3)) ∧
  (∀ (I : Nat → Nat → Int32) (V : Nat → Nat → Nat) (L : Nat → Int64) (A : Nat → Nat → Int32) (K : Value → Prop), pget (mkH dSh I V L A) 0 9 5 K = K (.ref 4)) ∧
  (∀ (I : Nat → Nat → Int32) (V : Nat → Nat → Nat) (L : Nat → Int64) (A : Nat → Nat → Int32) (K : Value → Prop), pget (mkH dSh I V L A) 0 9 6 K = K (.ref 5)) ∧
  (∀ (I : Nat → Nat → Int32) (V : Nat → Nat → Nat) (L : Nat → Int64) (A : Nat → Nat → Int32) (K : Value → Prop), pget (mkH dSh I V L A) 0 9 7 K = K (.ref 6)) ∧
  (∀ (I : Nat → Nat → Int32) (V : Nat → Nat → Nat) (L : Nat → Int64) (A : Nat → Nat → Int32) (K : Value → Prop), pget (mkH dSh I V L A) 0 9 8 K = K (.ref 7)) ∧
  (∀ (I : Nat → Nat → Int32) (V : Nat → Nat → Nat) (L : Nat → Int64) (A : Nat → Nat → Int32) (K : Value → Prop), pget (mkH dSh I V L A) 0 9 9 K = K (.int (I 0 9))) ∧
  (∀ (I : Nat → Nat → Int32) (V : Nat → Nat → Nat) (L : Nat → Int64) (A : Nat → Nat → Int32) (K : Value → Prop), pget (mkH dSh I V L A) 0 9 10 K = K (.int (I 0 10))) ∧
  (∀ (I : Nat → Nat → Int32) (V : Nat → Nat → Nat) (L : Nat → Int64) (A : Nat → Nat → Int32) (K : Value → Prop), pget (mkH dSh I V L A) 0 9 11 K = K (.ref 8)) ∧
  (∀ (I : Nat → Nat → Int32) (V : Nat → Nat → Nat) (L : Nat → Int64) (A : Nat → Nat → Int32) (K : Value → Prop), pget (mkH dSh I V L A) 0 9 12 K = K (.int (I 0 12))) ∧
  (∀ (I : Nat → Nat → Int32) (V : Nat → Nat → Nat) (L : Nat → Int64) (A : Nat → Nat → Int32) (K : Value → Prop), pget (mkH dSh I V L A) 0 9 13 K = K (.ref 9)) ∧
  (∀ (I : Nat → Nat → Int32) (V : Nat → Nat → Nat) (L : Nat → Int64) (A : Nat → Nat → Int32) (K : Value → Prop), pget (mkH dSh I V L A) 0 9 14 K = K (.ref 10)) ∧
  (∀ (I : Nat → Nat → Int32) (V : Nat → Nat → Nat) (L : Nat → Int64) (A : Nat → Nat → Int32) (K : Value → Prop), pget (mkH dSh I V L A) 0 9 15 K = K (.ref 11)) ∧
  (∀ (I : Nat → Nat → Int32) (V : Nat → Nat → Nat) (L : Nat → Int64) (A : Nat → Nat → Int32) (K : Value → Prop), pget (mkH dSh I V L A) 0 9 16 K = K (.int (I 0 16))) ∧
  (∀ (I : Nat → Nat → Int32) (V : Nat → Nat → Nat) (L : Nat → Int64) (A : Nat → Nat → Int32) (K : Value → Prop), pget (mkH dSh I V L A) 0 9 17 K = K (.int (I 0 17))) ∧
  (∀ (I : Nat → Nat → Int32) (V : Nat → Nat → Nat) (L : Nat → Int64) (A : Nat → Nat → Int32) (K : Value → Prop), pget (mkH dSh I V L A) 0 9 18 K = K (.int (I 0 18))) ∧
  (∀ (I : Nat → Nat → Int32) (V : Nat → Nat → Nat) (L : Nat → Int64) (A : Nat → Nat → Int32) (K : Value → Prop), pget (mkH dSh I V L A) 0 9 19 K = K (.int (I 0 19))) ∧
  (∀ (I : Nat → Nat → Int32) (V : Nat → Nat → Nat) (L : Nat → Int64) (A : Nat → Nat → Int32) (K : Value → Prop), pget (mkH dSh I V L A) 0 9 20 K = K (.int (I 0 20))) ∧
  (∀ (I : Nat → Nat → Int32) (V : Nat → Nat → Nat) (L : Nat → Int64) (A : Nat → Nat → Int32) (K : Value → Prop), pget (mkH dSh I V L A) 0 9 21 K = K (.long (L 0))) ∧
  (∀ (I : Nat → Nat → Int32) (V : Nat → Nat → Nat) (L : Nat → Int64) (A : Nat → Nat → Int32) (K : Value → Prop), pget (mkH dSh I V L A) 0 9 22 K = K (.ref 12)) ∧
  (∀ (I : Nat → Nat → Int32) (V : Nat → Nat → Nat) (L : Nat → Int64) (A : Nat → Nat → Int32) (K : Value → Prop), pget (mkH dSh I V L A) 0 9 23 K = K (.int (I 0 23))) ∧
  (∀ (I : Nat → Nat → Int32) (V : Nat → Nat → Nat) (L : Nat → Int64) (A : Nat → Nat → Int32) (K : Value → Prop), pget (mkH dSh I V L A) 0 9 24 K = K (.int (I 0 24))) ∧
  (∀ (I : Nat → Nat → Int32) (V : Nat → Nat → Nat) (L : Nat → Int64) (A : Nat → Nat → Int32) (K : Value → Prop), pget (mkH dSh I V L A) 0 9 25 K = K (.int (I 0 25))) ∧
  (∀ (I : Nat → Nat → Int32) (V : Nat → Nat → Nat) (L : Nat → Int64) (A : Nat → Nat → Int32) (K : Value → Prop), pget (mkH dSh I V L A) 0 9 26 K = K (.int (I 0 26))) ∧
  (∀ (I : Nat → Nat → Int32) (V : Nat → Nat → Nat) (L : Nat → Int64) (A : Nat → Nat → Int32) (K : Value → Prop), pget (mkH dSh I V L A) 0 9 27 K = K (.int (I 0 27))) ∧
  (∀ (I : Nat → Nat → Int32) (V : Nat → Nat → Nat) (L : Nat → Int64) (A : Nat → Nat → Int32) (K : Value → Prop), pget (mkH dSh I V L A) 0 9 28 K = K (.ref 13)) ∧
  (∀ (I : Nat → Nat → Int32) (V : Nat → Nat → Nat) (L : Nat → Int64) (A : Nat → Nat → Int32) (K : Value → Prop), pget (mkH dSh I V L A) 0 9 29 K = K (.ref 14)) ∧
  (∀ (I : Nat → Nat → Int32) (V : Nat → Nat → Nat) (L : Nat → Int64) (A : Nat → Nat → Int32) (K : Value → Prop), pget (mkH dSh I V L A) 0 9 30 K = K (.int (I 0 30))) ∧
  (∀ (I : Nat → Nat → Int32) (V : Nat → Nat → Nat) (L : Nat → Int64) (A : Nat → Nat → Int32) (K : Value → Prop), pget (mkH dSh I V L A) 0 9 31 K = K (.int (I 0 31))) ∧
  (∀ (I : Nat → Nat → Int32) (V : Nat → Nat → Nat) (L : Nat → Int64) (A : Nat → Nat → Int32) (K : Value → Prop), pget (mkH dSh I V L A) 0 9 32 K = K (.int (I 0 32))) ∧
  (∀ (I : Nat → Nat → Int32) (V : Nat → Nat → Nat) (L : Nat → Int64) (A : Nat → Nat → Int32) (K : Value → Prop), pget (mkH dSh I V L A) 0 9 33 K = K (.int (I 0 33))) ∧
  (∀ (I : Nat → Nat → Int32) (V : Nat → Nat → Nat) (L : Nat → Int64) (A : Nat → Nat → Int32) (K : Value → Prop), pget (mkH dSh I V L A) 0 9 34 K = K (.int (I 0 34))) ∧
  (∀ (I : Nat → Nat → Int32) (V : Nat → Nat → Nat) (L : Nat → Int64) (A : Nat → Nat → Int32) (K : Value → Prop), pget (mkH dSh I V L A) 0 9 35 K = K (.int (I 0 35))) ∧
  (∀ (I : Nat → Nat → Int32) (V : Nat → Nat → Nat) (L : Nat → Int64) (A : Nat → Nat → Int32) (K : Value → Prop), pget (mkH dSh I V L A) 0 9 36 K = K (.int (I 0 36))) ∧
  (∀ (I : Nat → Nat → Int32) (V : Nat → Nat → Nat) (L : Nat → Int64) (A : Nat → Nat → Int32) (K : Value → Prop), pget (mkH dSh I V L A) 0 9 37 K = K (.ref 15)) ∧
  (∀ (I : Nat → Nat → Int32) (V : Nat → Nat → Nat) (L : Nat → Int64) (A : Nat → Nat → Int32) (K : Value → Prop), pget (mkH dSh I V L A) 0 9 38 K = K (.ref 16)) ∧
  (∀ (I : Nat → Nat → Int32) (V : Nat → Nat → Nat) (L : Nat → Int64) (A : Nat → Nat → Int32) (K : Value → Prop), pget (mkH dSh I V L A) 0 9 39 K = K (.ref 17)) ∧
  (∀ (I : Nat → Nat → Int32) (V : Nat → Nat → Nat) (L : Nat → Int64) (A : Nat → Nat → Int32) (K : Value → Prop), pget (mkH dSh I V L A) 0 9 40 K = K (.int (I 0 40))) ∧
  (∀ (I : Nat → Nat → Int32) (V : Nat → Nat → Nat) (L : Nat → Int64) (A : Nat → Nat → Int32) (K : Value → Prop), pget (mkH dSh I V L A) 0 9 41 K = K (.int (I 0 41))) ∧
  (∀ (I : Nat → Nat → Int32) (V : Nat → Nat → Nat) (L : Nat → Int64) (A : Nat → Nat → Int32) (K : Value → Prop), pget (mkH dSh I V L A) 0 9 42 K = K (.int (I 0 42))) ∧
  (∀ (I : Nat → Nat → Int32) (V : Nat → Nat → Nat) (L : Nat → Int64) (A : Nat → Nat → Int32) (K : Value → Prop), pget (mkH dSh I V L A) 0 9 43 K = K (.int (I 0 43))) ∧
  (∀ (I : Nat → Nat → Int32) (V : Nat → Nat → Nat) (L : Nat → Int64) (A : Nat → Nat → Int32) (K : Value → Prop), pget (mkH dSh I V L A) 0 9 44 K = K (.ref 18)) ∧
  (∀ (I : Nat → Nat → Int32) (V : Nat → Nat → Nat) (L : Nat → Int64) (A : Nat → Nat → Int32) (K : Value → Prop), pget (mkH dSh I V L A) 0 9 45 K = K (.ref 19)) ∧
  (∀ (I : Nat → Nat → Int32) (V : Nat → Nat → Nat) (L : Nat → Int64) (A : Nat → Nat → Int32) (K : Value → Prop), pget (mkH dSh I V L A) 0 9 46 K = K (.ref 20)) ∧
  (∀ (I : Nat → Nat → Int32) (V : Nat → Nat → Nat) (L : Nat → Int64) (A : Nat → Nat → Int32) (K : Value → Prop), pget (mkH dSh I V L A) 0 9 47 K = K (.ref 21)) ∧
  (∀ (I : Nat → Nat → Int32) (V : Nat → Nat → Nat) (L : Nat → Int64) (A : Nat → Nat → Int32) (K : Value → Prop), pget (mkH dSh I V L A) 0 9 48 K = K (.ref 22)) ∧
  (∀ (I : Nat → Nat → Int32) (V : Nat → Nat → Nat) (L : Nat → Int64) (A : Nat → Nat → Int32), mrcv (mkH dSh I V L A) 0 9 = true) :=
  ⟨fun _ _ _ _ _ => H_get (c := 0) rfl rfl,
  fun _ _ _ _ _ => H_get (c := 5) rfl rfl,
  fun _ _ _ _ _ => H_get (c := 0) rfl rfl,
  fun _ _ _ _ _ => H_get (c := 6) rfl rfl,
  fun _ _ _ _ _ => H_get (c := 7) rfl rfl,
  fun _ _ _ _ _ => H_get (c := 8) rfl rfl,
  fun _ _ _ _ _ => H_get (c := 9) rfl rfl,
  fun _ _ _ _ _ => H_get (c := 10) rfl rfl,
  fun _ _ _ _ _ => H_get (c := 11) rfl rfl,
  fun _ _ _ _ _ => H_get (c := 0) rfl rfl,
  fun _ _ _ _ _ => H_get (c := 0) rfl rfl,
  fun _ _ _ _ _ => H_get (c := 12) rfl rfl,
  fun _ _ _ _ _ => H_get (c := 0) rfl rfl,
  fun _ _ _ _ _ => H_get (c := 13) rfl rfl,
  fun _ _ _ _ _ => H_get (c := 14) rfl rfl,
  fun _ _ _ _ _ => H_get (c := 15) rfl rfl,
  fun _ _ _ _ _ => H_get (c := 0) rfl rfl,
  fun _ _ _ _ _ => H_get (c := 0) rfl rfl,
  fun _ _ _ _ _ => H_get (c := 0) rfl rfl,
  fun _ _ _ _ _ => H_get (c := 0) rfl rfl,
  fun _ _ _ _ _ => H_get (c := 0) rfl rfl,
  fun _ _ _ _ _ => H_get (c := 2) rfl rfl,
  fun _ _ _ _ _ => H_get (c := 16) rfl rfl,
  fun _ _ _ _ _ => H_get (c := 0) rfl rfl,
  fun _ _ _ _ _ => H_get (c := 0) rfl rfl,
  fun _ _ _ _ _ => H_get (c := 0) rfl rfl,
  fun _ _ _ _ _ => H_get (c := 0) rfl rfl,
  fun _ _ _ _ _ => H_get (c := 0) rfl rfl,
  fun _ _ _ _ _ => H_get (c := 17) rfl rfl,
  fun _ _ _ _ _ => H_get (c := 18) rfl rfl,
  fun _ _ _ _ _ => H_get (c := 0) rfl rfl,
  fun _ _ _ _ _ => H_get (c := 0) rfl rfl,
  fun _ _ _ _ _ => H_get (c := 0) rfl rfl,
  fun _ _ _ _ _ => H_get (c := 0) rfl rfl,
  fun _ _ _ _ _ => H_get (c := 0) rfl rfl,
  fun _ _ _ _ _ => H_get (c := 0) rfl rfl,
  fun _ _ _ _ _ => H_get (c := 0) rfl rfl,
  fun _ _ _ _ _ => H_get (c := 19) rfl rfl,
  fun _ _ _ _ _ => H_get (c := 20) rfl rfl,
  fun _ _ _ _ _ => H_get (c := 21) rfl rfl,
  fun _ _ _ _ _ => H_get (c := 0) rfl rfl,
  fun _ _ _ _ _ => H_get (c := 0) rfl rfl,
  fun _ _ _ _ _ => H_get (c := 0) rfl rfl,
  fun _ _ _ _ _ => H_get (c := 0) rfl rfl,
  fun _ _ _ _ _ => H_get (c := 22) rfl rfl,
  fun _ _ _ _ _ => H_get (c := 23) rfl rfl,
  fun _ _ _ _ _ => H_get (c := 24) rfl rfl,
  fun _ _ _ _ _ => H_get (c := 25) rfl rfl,
  fun _ _ _ _ _ => H_get (c := 26) rfl rfl,
  fun _ _ _ _ => H_rcv rfl (by decide) (by decide)⟩
theorem dShP : (∀ (I : Nat → Nat → Int32) (V : Nat → Nat → Nat) (L : Nat → Int64) (A : Nat → Nat → Int32) (v : Int32) (K : MH → Prop), pput (mkH dSh I V L A) 0 9 0 (.int v) K = K (mkH dSh (up2 I 0 0 v) V L A)) ∧
  (∀ (I : Nat → Nat → Int32) (V : Nat → Nat → Nat) (L : Nat → Int64) (A : Nat → Nat → Int32) (v : Int32) (K : MH → Prop), pput (mkH dSh I V L A) 0 9 2 (.int v) K = K (mkH dSh (up2 I 0 2 v) V L A)) ∧
  (∀ (I : Nat → Nat → Int32) (V : Nat → Nat → Nat) (L : Nat → Int64) (A : Nat → Nat → Int32) (v : Int32) (K : MH → Prop), pput (mkH dSh I V L A) 0 9 9 (.int v) K = K (mkH dSh (up2 I 0 9 v) V L A)) ∧
  (∀ (I : Nat → Nat → Int32) (V : Nat → Nat → Nat) (L : Nat → Int64) (A : Nat → Nat → Int32) (v : Int32) (K : MH → Prop), pput (mkH dSh I V L A) 0 9 10 (.int v) K = K (mkH dSh (up2 I 0 10 v) V L A)) ∧
  (∀ (I : Nat → Nat → Int32) (V : Nat → Nat → Nat) (L : Nat → Int64) (A : Nat → Nat → Int32) (v : Int32) (K : MH → Prop), pput (mkH dSh I V L A) 0 9 12 (.int v) K = K (mkH dSh (up2 I 0 12 v) V L A)) ∧
  (∀ (I : Nat → Nat → Int32) (V : Nat → Nat → Nat) (L : Nat → Int64) (A : Nat → Nat → Int32) (v : Int32) (K : MH → Prop), pput (mkH dSh I V L A) 0 9 16 (.int v) K = K (mkH dSh (up2 I 0 16 v) V L A)) ∧
  (∀ (I : Nat → Nat → Int32) (V : Nat → Nat → Nat) (L : Nat → Int64) (A : Nat → Nat → Int32) (v : Int32) (K : MH → Prop), pput (mkH dSh I V L A) 0 9 17 (.int v) K = K (mkH dSh (up2 I 0 17 v) V L A)) ∧
  (∀ (I : Nat → Nat → Int32) (V : Nat → Nat → Nat) (L : Nat → Int64) (A : Nat → Nat → Int32) (v : Int32) (K : MH → Prop), pput (mkH dSh I V L A) 0 9 18 (.int v) K = K (mkH dSh (up2 I 0 18 v) V L A)) ∧
  (∀ (I : Nat → Nat → Int32) (V : Nat → Nat → Nat) (L : Nat → Int64) (A : Nat → Nat → Int32) (v : Int32) (K : MH → Prop), pput (mkH dSh I V L A) 0 9 19 (.int v) K = K (mkH dSh (up2 I 0 19 v) V L A)) ∧
  (∀ (I : Nat → Nat → Int32) (V : Nat → Nat → Nat) (L : Nat → Int64) (A : Nat → Nat → Int32) (v : Int32) (K : MH → Prop), pput (mkH dSh I V L A) 0 9 20 (.int v) K = K (mkH dSh (up2 I 0 20 v) V L A)) ∧
  (∀ (I : Nat → Nat → Int32) (V : Nat → Nat → Nat) (L : Nat → Int64) (A : Nat → Nat → Int32) (v : Int64) (K : MH → Prop), pput (mkH dSh I V L A) 0 9 21 (.long v) K = K (mkH dSh I V (upL L 0 v) A)) ∧
  (∀ (I : Nat → Nat → Int32) (V : Nat → Nat → Nat) (L : Nat → Int64) (A : Nat → Nat → Int32) (v : Int32) (K : MH → Prop), pput (mkH dSh I V L A) 0 9 23 (.int v) K = K (mkH dSh (up2 I 0 23 v) V L A)) ∧
  (∀ (I : Nat → Nat → Int32) (V : Nat → Nat → Nat) (L : Nat → Int64) (A : Nat → Nat → Int32) (v : Int32) (K : MH → Prop), pput (mkH dSh I V L A) 0 9 24 (.int v) K = K (mkH dSh (up2 I 0 24 v) V L A)) ∧
  (∀ (I : Nat → Nat → Int32) (V : Nat → Nat → Nat) (L : Nat → Int64) (A : Nat → Nat → Int32) (K : MH → Prop), pput (mkH dSh I V L A) 0 9 25 (.int 0) K = K (mkH dSh (up2 I 0 25 0) V L A)) ∧
  (∀ (I : Nat → Nat → Int32) (V : Nat → Nat → Nat) (L : Nat → Int64) (A : Nat → Nat → Int32) (K : MH → Prop), pput (mkH dSh I V L A) 0 9 25 (.int 1) K = K (mkH dSh (up2 I 0 25 1) V L A)) ∧
  (∀ (I : Nat → Nat → Int32) (V : Nat → Nat → Nat) (L : Nat → Int64) (A : Nat → Nat → Int32) (K : MH → Prop), pput (mkH dSh I V L A) 0 9 26 (.int 0) K = K (mkH dSh (up2 I 0 26 0) V L A)) ∧
  (∀ (I : Nat → Nat → Int32) (V : Nat → Nat → Nat) (L : Nat → Int64) (A : Nat → Nat → Int32) (K : MH → Prop), pput (mkH dSh I V L A) 0 9 26 (.int 1) K = K (mkH dSh (up2 I 0 26 1) V L A)) ∧
  (∀ (I : Nat → Nat → Int32) (V : Nat → Nat → Nat) (L : Nat → Int64) (A : Nat → Nat → Int32) (K : MH → Prop), pput (mkH dSh I V L A) 0 9 27 (.int 0) K = K (mkH dSh (up2 I 0 27 0) V L A)) ∧
  (∀ (I : Nat → Nat → Int32) (V : Nat → Nat → Nat) (L : Nat → Int64) (A : Nat → Nat → Int32) (K : MH → Prop), pput (mkH dSh I V L A) 0 9 27 (.int 1) K = K (mkH dSh (up2 I 0 27 1) V L A)) ∧
  (∀ (I : Nat → Nat → Int32) (V : Nat → Nat → Nat) (L : Nat → Int64) (A : Nat → Nat → Int32) (v : Int32) (K : MH → Prop), pput (mkH dSh I V L A) 0 9 30 (.int v) K = K (mkH dSh (up2 I 0 30 v) V L A)) ∧
  (∀ (I : Nat → Nat → Int32) (V : Nat → Nat → Nat) (L : Nat → Int64) (A : Nat → Nat → Int32) (v : Int32) (K : MH → Prop), pput (mkH dSh I V L A) 0 9 31 (.int v) K = K (mkH dSh (up2 I 0 31 v) V L A)) ∧
  (∀ (I : Nat → Nat → Int32) (V : Nat → Nat → Nat) (L : Nat → Int64) (A : Nat → Nat → Int32) (v : Int32) (K : MH → Prop), pput (mkH dSh I V L A) 0 9 32 (.int v) K = K (mkH dSh (up2 I 0 32 v) V L A)) ∧
  (∀ (I : Nat → Nat → Int32) (V : Nat → Nat → Nat) (L : Nat → Int64) (A : Nat → Nat → Int32) (v : Int32) (K : MH → Prop), pput (mkH dSh I V L A) 0 9 33 (.int v) K = K (mkH dSh (up2 I 0 33 v) V L A)) ∧
  (∀ (I : Nat → Nat → Int32) (V : Nat → Nat → Nat) (L : Nat → Int64) (A : Nat → Nat → Int32) (v : Int32) (K : MH → Prop), pput (mkH dSh I V L A) 0 9 34 (.int v) K = K (mkH dSh (up2 I 0 34 v) V L A)) ∧
  (∀ (I : Nat → Nat → Int32) (V : Nat → Nat → Nat) (L : Nat → Int64) (A : Nat → Nat → Int32) (v : Int32) (K : MH → Prop), pput (mkH dSh I V L A) 0 9 35 (.int v) K = K (mkH dSh (up2 I 0 35 v) V L A)) ∧
  (∀ (I : Nat → Nat → Int32) (V : Nat → Nat → Nat) (L : Nat → Int64) (A : Nat → Nat → Int32) (v : Int32) (K : MH → Prop), pput (mkH dSh I V L A) 0 9 36 (.int v) K = K (mkH dSh (up2 I 0 36 v) V L A)) ∧
  (∀ (I : Nat → Nat → Int32) (V : Nat → Nat → Nat) (L : Nat → Int64) (A : Nat → Nat → Int32) (K : MH → Prop), pput (mkH dSh I V L A) 0 9 40 (.int 0) K = K (mkH dSh (up2 I 0 40 0) V L A)) ∧
  (∀ (I : Nat → Nat → Int32) (V : Nat → Nat → Nat) (L : Nat → Int64) (A : Nat → Nat → Int32) (K : MH → Prop), pput (mkH dSh I V L A) 0 9 40 (.int 1) K = K (mkH dSh (up2 I 0 40 1) V L A)) ∧
  (∀ (I : Nat → Nat → Int32) (V : Nat → Nat → Nat) (L : Nat → Int64) (A : Nat → Nat → Int32) (v : Int32) (K : MH → Prop), pput (mkH dSh I V L A) 0 9 41 (.int v) K = K (mkH dSh (up2 I 0 41 v) V L A)) ∧
  (∀ (I : Nat → Nat → Int32) (V : Nat → Nat → Nat) (L : Nat → Int64) (A : Nat → Nat → Int32) (v : Int32) (K : MH → Prop), pput (mkH dSh I V L A) 0 9 42 (.int v) K = K (mkH dSh (up2 I 0 42 v) V L A)) ∧
  (∀ (I : Nat → Nat → Int32) (V : Nat → Nat → Nat) (L : Nat → Int64) (A : Nat → Nat → Int32) (v : Int32) (K : MH → Prop), pput (mkH dSh I V L A) 0 9 43 (.int v) K = K (mkH dSh (up2 I 0 43 v) V L A)) :=
  ⟨fun _ _ _ _ _ _ => H_put rfl rfl (by decide) ⟨rfl, rfl⟩,
  fun _ _ _ _ _ _ => H_put rfl rfl (by decide) ⟨rfl, rfl⟩,
  fun _ _ _ _ _ _ => H_put rfl rfl (by decide) ⟨rfl, rfl⟩,
  fun _ _ _ _ _ _ => H_put rfl rfl (by decide) ⟨rfl, rfl⟩,
  fun _ _ _ _ _ _ => H_put rfl rfl (by decide) ⟨rfl, rfl⟩,
  fun _ _ _ _ _ _ => H_put rfl rfl (by decide) ⟨rfl, rfl⟩,
  fun _ _ _ _ _ _ => H_put rfl rfl (by decide) ⟨rfl, rfl⟩,
  fun _ _ _ _ _ _ => H_put rfl rfl (by decide) ⟨rfl, rfl⟩,
  fun _ _ _ _ _ _ => H_put rfl rfl (by decide) ⟨rfl, rfl⟩,
  fun _ _ _ _ _ _ => H_put rfl rfl (by decide) ⟨rfl, rfl⟩,
  fun _ _ _ _ _ _ => H_putL rfl rfl (by decide) (by decide) ⟨rfl, rfl⟩,
  fun _ _ _ _ _ _ => H_put rfl rfl (by decide) ⟨rfl, rfl⟩,
  fun _ _ _ _ _ _ => H_put rfl rfl (by decide) ⟨rfl, rfl⟩,
  fun _ _ _ _ _ => H_put rfl rfl (by decide) ⟨rfl, rfl⟩,
  fun _ _ _ _ _ => H_put rfl rfl (by decide) ⟨rfl, rfl⟩,
  fun _ _ _ _ _ => H_put rfl rfl (by decide) ⟨rfl, rfl⟩,
  fun _ _ _ _ _ => H_put rfl rfl (by decide) ⟨rfl, rfl⟩,
  fun _ _ _ _ _ => H_put rfl rfl (by decide) ⟨rfl, rfl⟩,
  fun _ _ _ _ _ => H_put rfl rfl (by decide) ⟨rfl, rfl⟩,
  fun _ _ _ _ _ _ => H_put rfl rfl (by decide) ⟨rfl, rfl⟩,
  fun _ _ _ _ _ _ => H_put rfl rfl (by decide) ⟨rfl, rfl⟩,
  fun _ _ _ _ _ _ => H_put rfl rfl (by decide) ⟨rfl, rfl⟩,
  fun _ _ _ _ _ _ => H_put rfl rfl (by decide) ⟨rfl, rfl⟩,
  fun _ _ _ _ _ _ => H_put rfl rfl (by decide) ⟨rfl, rfl⟩,
  fun _ _ _ _ _ _ => H_put rfl rfl (by decide) ⟨rfl, rfl⟩,
  fun _ _ _ _ _ _ => H_put rfl rfl (by decide) ⟨rfl, rfl⟩,
  fun _ _ _ _ _ => H_put rfl rfl (by decide) ⟨rfl, rfl⟩,
  fun _ _ _ _ _ => H_put rfl rfl (by decide) ⟨rfl, rfl⟩,
  fun _ _ _ _ _ _ => H_put rfl rfl (by decide) ⟨rfl, rfl⟩,
  fun _ _ _ _ _ _ => H_put rfl rfl (by decide) ⟨rfl, rfl⟩,
  fun _ _ _ _ _ _ => H_put rfl rfl (by decide) ⟨rfl, rfl⟩⟩
theorem dShR : (∀ (I : Nat → Nat → Int32) (V : Nat → Nat → Nat) (L : Nat → Int64) (A : Nat → Nat → Int32) (i : Int32) (K : Int32 → Prop), pial (mkH dSh I V L A) 1 i K = pix i 24 (fun j => K (A 1 j))) ∧
  (∀ (I : Nat → Nat → Int32) (V : Nat → Nat → Nat) (L : Nat → Int64) (A : Nat → Nat → Int32) (i x : Int32) (K : MH → Prop), pias (mkH dSh I V L A) 1 i x K = pix i 24 (fun j => K (mkH dSh I V L (upA A 1 (upd (A 1) j x))))) ∧
  (∀ (I : Nat → Nat → Int32) (V : Nat → Nat → Nat) (L : Nat → Int64) (A : Nat → Nat → Int32) (K : Nat → Prop), palen (mkH dSh I V L A) 1 K = K 24) ∧
  (∀ (I : Nat → Nat → Int32) (V : Nat → Nat → Nat) (L : Nat → Int64) (A : Nat → Nat → Int32) (i : Int32) (K : Int32 → Prop), pial (mkH dSh I V L A) 2 i K = pix i 5 (fun j => K (A 2 j))) ∧
  (∀ (I : Nat → Nat → Int32) (V : Nat → Nat → Nat) (L : Nat → Int64) (A : Nat → Nat → Int32) (i x : Int32) (K : MH → Prop), pias (mkH dSh I V L A) 2 i x K = pix i 5 (fun j => K (mkH dSh I V L (upA A 2 (upd (A 2) j x))))) ∧
  (∀ (I : Nat → Nat → Int32) (V : Nat → Nat → Nat) (L : Nat → Int64) (A : Nat → Nat → Int32) (K : Nat → Prop), palen (mkH dSh I V L A) 2 K = K 5) ∧
  (∀ (I : Nat → Nat → Int32) (V : Nat → Nat → Nat) (L : Nat → Int64) (A : Nat → Nat → Int32) (i : Int32) (K : Int32 → Prop), pial (mkH dSh I V L A) 3 i K = pix i 5 (fun j => K (A 3 j))) ∧
  (∀ (I : Nat → Nat → Int32) (V : Nat → Nat → Nat) (L : Nat → Int64) (A : Nat → Nat → Int32) (i x : Int32) (K : MH → Prop), pias (mkH dSh I V L A) 3 i x K = pix i 5 (fun j => K (mkH dSh I V L (upA A 3 (upd (A 3) j x))))) ∧
  (∀ (I : Nat → Nat → Int32) (V : Nat → Nat → Nat) (L : Nat → Int64) (A : Nat → Nat → Int32) (K : Nat → Prop), palen (mkH dSh I V L A) 3 K = K 5) ∧
  (∀ (I : Nat → Nat → Int32) (V : Nat → Nat → Nat) (L : Nat → Int64) (A : Nat → Nat → Int32) (i : Int32) (K : Int32 → Prop), pial (mkH dSh I V L A) 4 i K = pix i 5 (fun j => K (A 4 j))) ∧
  (∀ (I : Nat → Nat → Int32) (V : Nat → Nat → Nat) (L : Nat → Int64) (A : Nat → Nat → Int32) (i x : Int32) (K : MH → Prop), pias (mkH dSh I V L A) 4 i x K = pix i 5 (fun j => K (mkH dSh I V L (upA A 4 (upd (A 4) j x))))) ∧
  (∀ (I : Nat → Nat → Int32) (V : Nat → Nat → Nat) (L : Nat → Int64) (A : Nat → Nat → Int32) (K : Nat → Prop), palen (mkH dSh I V L A) 4 K = K 5) ∧
  (∀ (I : Nat → Nat → Int32) (V : Nat → Nat → Nat) (L : Nat → Int64) (A : Nat → Nat → Int32) (i : Int32) (K : Int32 → Prop), pial (mkH dSh I V L A) 5 i K = pix i 5 (fun j => K (A 5 j))) ∧
  (∀ (I : Nat → Nat → Int32) (V : Nat → Nat → Nat) (L : Nat → Int64) (A : Nat → Nat → Int32) (i x : Int32) (K : MH → Prop), pias (mkH dSh I V L A) 5 i x K = pix i 5 (fun j => K (mkH dSh I V L (upA A 5 (upd (A 5) j x))))) ∧
  (∀ (I : Nat → Nat → Int32) (V : Nat → Nat → Nat) (L : Nat → Int64) (A : Nat → Nat → Int32) (K : Nat → Prop), palen (mkH dSh I V L A) 5 K = K 5) ∧
  (∀ (I : Nat → Nat → Int32) (V : Nat → Nat → Nat) (L : Nat → Int64) (A : Nat → Nat → Int32) (i : Int32) (K : Int32 → Prop), pial (mkH dSh I V L A) 6 i K = pix i 5 (fun j => K (A 6 j))) ∧
  (∀ (I : Nat → Nat → Int32) (V : Nat → Nat → Nat) (L : Nat → Int64) (A : Nat → Nat → Int32) (i x : Int32) (K : MH → Prop), pias (mkH dSh I V L A) 6 i x K = pix i 5 (fun j => K (mkH dSh I V L (upA A 6 (upd (A 6) j x))))) ∧
  (∀ (I : Nat → Nat → Int32) (V : Nat → Nat → Nat) (L : Nat → Int64) (A : Nat → Nat → Int32) (K : Nat → Prop), palen (mkH dSh I V L A) 6 K = K 5) ∧
  (∀ (I : Nat → Nat → Int32) (V : Nat → Nat → Nat) (L : Nat → Int64) (A : Nat → Nat → Int32) (i : Int32) (K : Int32 → Prop), pial (mkH dSh I V L A) 7 i K = pix i 5 (fun j => K (A 7 j))) ∧
  (∀ (I : Nat → Nat → Int32) (V : Nat → Nat → Nat) (L : Nat → Int64) (A : Nat → Nat → Int32) (i x : Int32) (K : MH → Prop), pias (mkH dSh I V L A) 7 i x K = pix i 5 (fun j => K (mkH dSh I V L (upA A 7 (upd (A 7) j x))))) ∧
  (∀ (I : Nat → Nat → Int32) (V : Nat → Nat → Nat) (L : Nat → Int64) (A : Nat → Nat → Int32) (K : Nat → Prop), palen (mkH dSh I V L A) 7 K = K 5) ∧
  (∀ (I : Nat → Nat → Int32) (V : Nat → Nat → Nat) (L : Nat → Int64) (A : Nat → Nat → Int32) (i : Int32) (K : Int32 → Prop), pial (mkH dSh I V L A) 8 i K = pix i 160 (fun j => K (A 8 j))) ∧
  (∀ (I : Nat → Nat → Int32) (V : Nat → Nat → Nat) (L : Nat → Int64) (A : Nat → Nat → Int32) (i x : Int32) (K : MH → Prop), pias (mkH dSh I V L A) 8 i x K = pix i 160 (fun j => K (mkH dSh I V L (upA A 8 (upd (A 8) j x))))) ∧
  (∀ (I : Nat → Nat → Int32) (V : Nat → Nat → Nat) (L : Nat → Int64) (A : Nat → Nat → Int32) (K : Nat → Prop), palen (mkH dSh I V L A) 8 K = K 160) ∧
  (∀ (I : Nat → Nat → Int32) (V : Nat → Nat → Nat) (L : Nat → Int64) (A : Nat → Nat → Int32) (i : Int32) (K : Int32 → Prop), pial (mkH dSh I V L A) 9 i K = pix i 18 (fun j => K (A 9 j))) ∧
  (∀ (I : Nat → Nat → Int32) (V : Nat → Nat → Nat) (L : Nat → Int64) (A : Nat → Nat → Int32) (i x : Int32) (K : MH → Prop), pias (mkH dSh I V L A) 9 i x K = pix i 18 (fun j => K (mkH dSh I V L (upA A 9 (upd (A 9) j x))))) ∧
  (∀ (I : Nat → Nat → Int32) (V : Nat → Nat → Nat) (L : Nat → Int64) (A : Nat → Nat → Int32) (K : Nat → Prop), palen (mkH dSh I V L A) 9 K = K 18) ∧
  (∀ (I : Nat → Nat → Int32) (V : Nat → Nat → Nat) (L : Nat → Int64) (A : Nat → Nat → Int32) (i : Int32) (K : Int32 → Prop), pial (mkH dSh I V L A) 10 i K = pix i 18 (fun j => K (A 10 j))) ∧
  (∀ (I : Nat → Nat → Int32) (V : Nat → Nat → Nat) (L : Nat → Int64) (A : Nat → Nat → Int32) (i x : Int32) (K : MH → Prop), pias (mkH dSh I V L A) 10 i x K = pix i 18 (fun j => K (mkH dSh I V L (upA A 10 (upd (A 10) j x))))) ∧
  (∀ (I : Nat → Nat → Int32) (V : Nat → Nat → Nat) (L : Nat → Int64) (A : Nat → Nat → Int32) (K : Nat → Prop), palen (mkH dSh I V L A) 10 K = K 18) ∧
  (∀ (I : Nat → Nat → Int32) (V : Nat → Nat → Nat) (L : Nat → Int64) (A : Nat → Nat → Int32) (i : Int32) (K : Int32 → Prop), pial (mkH dSh I V L A) 11 i K = pix i 3000 (fun j => K (A 11 j))) ∧
  (∀ (I : Nat → Nat → Int32) (V : Nat → Nat → Nat) (L : Nat → Int64) (A : Nat → Nat → Int32) (i x : Int32) (K : MH → Prop), pias (mkH dSh I V L A) 11 i x K = pix i 3000 (fun j => K (mkH dSh I V L (upA A 11 (upd (A 11) j x))))) ∧
  (∀ (I : Nat → Nat → Int32) (V : Nat → Nat → Nat) (L : Nat → Int64) (A : Nat → Nat → Int32) (K : Nat → Prop), palen (mkH dSh I V L A) 11 K = K 3000) ∧
  (∀ (I : Nat → Nat → Int32) (V : Nat → Nat → Nat) (L : Nat → Int64) (A : Nat → Nat → Int32) (i : Int32) (K : Int32 → Prop), pial (mkH dSh I V L A) 12 i K = pix i 200 (fun j => K (A 12 j))) ∧
  (∀ (I : Nat → Nat → Int32) (V : Nat → Nat → Nat) (L : Nat → Int64) (A : Nat → Nat → Int32) (i x : Int32) (K : MH → Prop), pias (mkH dSh I V L A) 12 i x K = pix i 200 (fun j => K (mkH dSh I V L (upA A 12 (upd (A 12) j x))))) ∧
  (∀ (I : Nat → Nat → Int32) (V : Nat → Nat → Nat) (L : Nat → Int64) (A : Nat → Nat → Int32) (K : Nat → Prop), palen (mkH dSh I V L A) 12 K = K 200) ∧
  (∀ (I : Nat → Nat → Int32) (V : Nat → Nat → Nat) (L : Nat → Int64) (A : Nat → Nat → Int32) (i : Int32) (K : Int32 → Prop), pial (mkH dSh I V L A) 13 i K = pix i 200 (fun j => K (A 13 j))) ∧
  (∀ (I : Nat → Nat → Int32) (V : Nat → Nat → Nat) (L : Nat → Int64) (A : Nat → Nat → Int32) (i x : Int32) (K : MH → Prop), pias (mkH dSh I V L A) 13 i x K = pix i 200 (fun j => K (mkH dSh I V L (upA A 13 (upd (A 13) j x))))) ∧
  (∀ (I : Nat → Nat → Int32) (V : Nat → Nat → Nat) (L : Nat → Int64) (A : Nat → Nat → Int32) (K : Nat → Prop), palen (mkH dSh I V L A) 13 K = K 200) ∧
  (∀ (I : Nat → Nat → Int32) (V : Nat → Nat → Nat) (L : Nat → Int64) (A : Nat → Nat → Int32) (i : Int32) (K : Int32 → Prop), pial (mkH dSh I V L A) 14 i K = pix i 6 (fun j => K (A 14 j))) ∧
  (∀ (I : Nat → Nat → Int32) (V : Nat → Nat → Nat) (L : Nat → Int64) (A : Nat → Nat → Int32) (i x : Int32) (K : MH → Prop), pias (mkH dSh I V L A) 14 i x K = pix i 6 (fun j => K (mkH dSh I V L (upA A 14 (upd (A 14) j x))))) ∧
  (∀ (I : Nat → Nat → Int32) (V : Nat → Nat → Nat) (L : Nat → Int64) (A : Nat → Nat → Int32) (K : Nat → Prop), palen (mkH dSh I V L A) 14 K = K 6) ∧
  (∀ (I : Nat → Nat → Int32) (V : Nat → Nat → Nat) (L : Nat → Int64) (A : Nat → Nat → Int32) (i : Int32) (K : Int32 → Prop), pial (mkH dSh I V L A) 15 i K = pix i 24 (fun j => K (A 15 j))) ∧
  (∀ (I : Nat → Nat → Int32) (V : Nat → Nat → Nat) (L : Nat → Int64) (A : Nat → Nat → Int32) (i x : Int32) (K : MH → Prop), pias (mkH dSh I V L A) 15 i x K = pix i 24 (fun j => K (mkH dSh I V L (upA A 15 (upd (A 15) j x))))) ∧
  (∀ (I : Nat → Nat → Int32) (V : Nat → Nat → Nat) (L : Nat → Int64) (A : Nat → Nat → Int32) (K : Nat → Prop), palen (mkH dSh I V L A) 15 K = K 24) ∧
  (∀ (I : Nat → Nat → Int32) (V : Nat → Nat → Nat) (L : Nat → Int64) (A : Nat → Nat → Int32) (i : Int32) (K : Int32 → Prop), pial (mkH dSh I V L A) 16 i K = pix i 24 (fun j => K (A 16 j))) ∧
  (∀ (I : Nat → Nat → Int32) (V : Nat → Nat → Nat) (L : Nat → Int64) (A : Nat → Nat → Int32) (i x : Int32) (K : MH → Prop), pias (mkH dSh I V L A) 16 i x K = pix i 24 (fun j => K (mkH dSh I V L (upA A 16 (upd (A 16) j x))))) ∧
  (∀ (I : Nat → Nat → Int32) (V : Nat → Nat → Nat) (L : Nat → Int64) (A : Nat → Nat → Int32) (K : Nat → Prop), palen (mkH dSh I V L A) 16 K = K 24) ∧
  (∀ (I : Nat → Nat → Int32) (V : Nat → Nat → Nat) (L : Nat → Int64) (A : Nat → Nat → Int32) (i : Int32) (K : Int32 → Prop), pial (mkH dSh I V L A) 17 i K = pix i 3 (fun j => K (A 17 j))) ∧
  (∀ (I : Nat → Nat → Int32) (V : Nat → Nat → Nat) (L : Nat → Int64) (A : Nat → Nat → Int32) (i x : Int32) (K : MH → Prop), pias (mkH dSh I V L A) 17 i x K = pix i 3 (fun j => K (mkH dSh I V L (upA A 17 (upd (A 17) j x))))) ∧
  (∀ (I : Nat → Nat → Int32) (V : Nat → Nat → Nat) (L : Nat → Int64) (A : Nat → Nat → Int32) (K : Nat → Prop), palen (mkH dSh I V L A) 17 K = K 3) ∧
  (∀ (I : Nat → Nat → Int32) (V : Nat → Nat → Nat) (L : Nat → Int64) (A : Nat → Nat → Int32) (i : Int32) (K : Int32 → Prop), pial (mkH dSh I V L A) 18 i K = pix i 24 (fun j => K (A 18 j))) ∧
  (∀ (I : Nat → Nat → Int32) (V : Nat → Nat → Nat) (L : Nat → Int64) (A : Nat → Nat → Int32) (i x : Int32) (K : MH → Prop), pias (mkH dSh I V L A) 18 i x K = pix i 24 (fun j => K (mkH dSh I V L (upA A 18 (upd (A 18) j x))))) ∧
  (∀ (I : Nat → Nat → Int32) (V : Nat → Nat → Nat) (L : Nat → Int64) (A : Nat → Nat → Int32) (K : Nat → Prop), palen (mkH dSh I V L A) 18 K = K 24) ∧
  (∀ (I : Nat → Nat → Int32) (V : Nat → Nat → Nat) (L : Nat → Int64) (A : Nat → Nat → Int32) (i : Int32) (K : Int32 → Prop), pial (mkH dSh I V L A) 19 i K = pix i 25 (fun j => K (A 19 j))) ∧
  (∀ (I : Nat → Nat → Int32) (V : Nat → Nat → Nat) (L : Nat → Int64) (A : Nat → Nat → Int32) (i x : Int32) (K : MH → Prop), pias (mkH dSh I V L A) 19 i x K = pix i 25 (fun j => K (mkH dSh I V L (upA A 19 (upd (A 19) j x))))) ∧
  (∀ (I : Nat → Nat → Int32) (V : Nat → Nat → Nat) (L : Nat → Int64) (A : Nat → Nat → Int32) (K : Nat → Prop), palen (mkH dSh I V L A) 19 K = K 25) ∧
  (∀ (I : Nat → Nat → Int32) (V : Nat → Nat → Nat) (L : Nat → Int64) (A : Nat → Nat → Int32) (i : Int32) (K : Int32 → Prop), pial (mkH dSh I V L A) 20 i K = pix i 4 (fun j => K (A 20 j))) ∧
  (∀ (I : Nat → Nat → Int32) (V : Nat → Nat → Nat) (L : Nat → Int64) (A : Nat → Nat → Int32) (i x : Int32) (K : MH → Prop), pias (mkH dSh I V L A) 20 i x K = pix i 4 (fun j => K (mkH dSh I V L (upA A 20 (upd (A 20) j x))))) ∧
  (∀ (I : Nat → Nat → Int32) (V : Nat → Nat → Nat) (L : Nat → Int64) (A : Nat → Nat → Int32) (K : Nat → Prop), palen (mkH dSh I V L A) 20 K = K 4) ∧
  (∀ (I : Nat → Nat → Int32) (V : Nat → Nat → Nat) (L : Nat → Int64) (A : Nat → Nat → Int32) (i : Int32) (K : Int32 → Prop), pial (mkH dSh I V L A) 21 i K = pix i 4 (fun j => K (A 21 j))) ∧
  (∀ (I : Nat → Nat → Int32) (V : Nat → Nat → Nat) (L : Nat → Int64) (A : Nat → Nat → Int32) (i x : Int32) (K : MH → Prop), pias (mkH dSh I V L A) 21 i x K = pix i 4 (fun j => K (mkH dSh I V L (upA A 21 (upd (A 21) j x))))) ∧
  (∀ (I : Nat → Nat → Int32) (V : Nat → Nat → Nat) (L : Nat → Int64) (A : Nat → Nat → Int32) (K : Nat → Prop), palen (mkH dSh I V L A) 21 K = K 4) ∧
  (∀ (I : Nat → Nat → Int32) (V : Nat → Nat → Nat) (L : Nat → Int64) (A : Nat → Nat → Int32) (i : Int32) (K : Int32 → Prop), pial (mkH dSh I V L A) 22 i K = pix i 160 (fun j => K (A 22 j))) ∧
  (∀ (I : Nat → Nat → Int32) (V : Nat → Nat → Nat) (L : Nat → Int64) (A : Nat → Nat → Int32) (i x : Int32) (K : MH → Prop), pias (mkH dSh I V L A) 22 i x K = pix i 160 (fun j => K (mkH dSh I V L (upA A 22 (upd (A 22) j x))))) ∧
  (∀ (I : Nat → Nat → Int32) (V : Nat → Nat → Nat) (L : Nat → Int64) (A : Nat → Nat → Int32) (K : Nat → Prop), palen (mkH dSh I V L A) 22 K = K 160) :=
  ⟨fun _ _ _ _ _ _ => H_iald rfl (by decide),
  fun _ _ _ _ _ _ _ => H_iast rfl,
  fun _ _ _ _ _ => H_alenI rfl (by decide),
  fun _ _ _ _ _ _ => H_iald rfl (by decide),
  fun _ _ _ _ _ _ _ => H_iast rfl,
  fun _ _ _ _ _ => H_alenI rfl (by decide),
  fun _ _ _ _ _ _ => H_iald rfl (by decide),
  fun _ _ _ _ _ _ _ => H_iast rfl,
  fun _ _ _ _ _ => H_alenI rfl (by decide),
  fun _ _ _ _ _ _ => H_iald rfl (by decide),
  fun _ _ _ _ _ _ _ => H_iast rfl,
  fun _ _ _ _ _ => H_alenI rfl (by decide),
  fun _ _ _ _ _ _ => H_iald rfl (by decide),
  fun _ _ _ _ _ _ _ => H_iast rfl,
  fun _ _ _ _ _ => H_alenI rfl (by decide),
  fun _ _ _ _ _ _ => H_iald rfl (by decide),
  fun _ _ _ _ _ _ _ => H_iast rfl,
  fun _ _ _ _ _ => H_alenI rfl (by decide),
  fun _ _ _ _ _ _ => H_iald rfl (by decide),
  fun _ _ _ _ _ _ _ => H_iast rfl,
  fun _ _ _ _ _ => H_alenI rfl (by decide),
  fun _ _ _ _ _ _ => H_iald rfl (by decide),
  fun _ _ _ _ _ _ _ => H_iast rfl,
  fun _ _ _ _ _ => H_alenI rfl (by decide),
  fun _ _ _ _ _ _ => H_iald rfl (by decide),
  fun _ _ _ _ _ _ _ => H_iast rfl,
  fun _ _ _ _ _ => H_alenI rfl (by decide),
  fun _ _ _ _ _ _ => H_iald rfl (by decide),
  fun _ _ _ _ _ _ _ => H_iast rfl,
  fun _ _ _ _ _ => H_alenI rfl (by decide),
  fun _ _ _ _ _ _ => H_iald rfl (by decide),
  fun _ _ _ _ _ _ _ => H_iast rfl,
  fun _ _ _ _ _ => H_alenI rfl (by decide),
  fun _ _ _ _ _ _ => H_iald rfl (by decide),
  fun _ _ _ _ _ _ _ => H_iast rfl,
  fun _ _ _ _ _ => H_alenI rfl (by decide),
  fun _ _ _ _ _ _ => H_iald rfl (by decide),
  fun _ _ _ _ _ _ _ => H_iast rfl,
  fun _ _ _ _ _ => H_alenI rfl (by decide),
  fun _ _ _ _ _ _ => H_iald rfl (by decide),
  fun _ _ _ _ _ _ _ => H_iast rfl,
  fun _ _ _ _ _ => H_alenI rfl (by decide),
  fun _ _ _ _ _ _ => H_iald rfl (by decide),
  fun _ _ _ _ _ _ _ => H_iast rfl,
  fun _ _ _ _ _ => H_alenI rfl (by decide),
  fun _ _ _ _ _ _ => H_iald rfl (by decide),
  fun _ _ _ _ _ _ _ => H_iast rfl,
  fun _ _ _ _ _ => H_alenI rfl (by decide),
  fun _ _ _ _ _ _ => H_iald rfl (by decide),
  fun _ _ _ _ _ _ _ => H_iast rfl,
  fun _ _ _ _ _ => H_alenI rfl (by decide),
  fun _ _ _ _ _ _ => H_iald rfl (by decide),
  fun _ _ _ _ _ _ _ => H_iast rfl,
  fun _ _ _ _ _ => H_alenI rfl (by decide),
  fun _ _ _ _ _ _ => H_iald rfl (by decide),
  fun _ _ _ _ _ _ _ => H_iast rfl,
  fun _ _ _ _ _ => H_alenI rfl (by decide),
  fun _ _ _ _ _ _ => H_iald rfl (by decide),
  fun _ _ _ _ _ _ _ => H_iast rfl,
  fun _ _ _ _ _ => H_alenI rfl (by decide),
  fun _ _ _ _ _ _ => H_iald rfl (by decide),
  fun _ _ _ _ _ _ _ => H_iast rfl,
  fun _ _ _ _ _ => H_alenI rfl (by decide),
  fun _ _ _ _ _ _ => H_iald rfl (by decide),
  fun _ _ _ _ _ _ _ => H_iast rfl,
  fun _ _ _ _ _ => H_alenI rfl (by decide)⟩
theorem cSh_lt {a : Nat} {c : SC} (h : cSh[a]? = some c) : a < 900 := by
  have h1 := (List.getElem?_eq_some_iff.mp h).1
  have h2 : cSh.length = 65 := rfl
  omega
theorem kRider : (∀ (I : Nat → Nat → Int32) (V : Nat → Nat → Nat) (L : Nat → Int64) (A : Nat → Nat → Int32) (a : Nat) (K : Value → Prop), cSh[a]? = some sRider → pget (mkH cSh I V L A) a 1 0 K = K (.int (I a 0))) ∧
  (∀ (I : Nat → Nat → Int32) (V : Nat → Nat → Nat) (L : Nat → Int64) (A : Nat → Nat → Int32) (a : Nat) (v : Int32) (K : MH → Prop), cSh[a]? = some sRider → pput (mkH cSh I V L A) a 1 0 (.int v) K = K (mkH cSh (up2 I a 0 v) V L A)) ∧
  (∀ (I : Nat → Nat → Int32) (V : Nat → Nat → Nat) (L : Nat → Int64) (A : Nat → Nat → Int32) (a : Nat) (K : Value → Prop), cSh[a]? = some sRider → pget (mkH cSh I V L A) a 1 1 K = K (.int (I a 1))) ∧
  (∀ (I : Nat → Nat → Int32) (V : Nat → Nat → Nat) (L : Nat → Int64) (A : Nat → Nat → Int32) (a : Nat) (v : Int32) (K : MH → Prop), cSh[a]? = some sRider → pput (mkH cSh I V L A) a 1 1 (.int v) K = K (mkH cSh (up2 I a 1 v) V L A)) ∧
  (∀ (I : Nat → Nat → Int32) (V : Nat → Nat → Nat) (L : Nat → Int64) (A : Nat → Nat → Int32) (a : Nat) (K : Value → Prop), cSh[a]? = some sRider → pget (mkH cSh I V L A) a 1 2 K = K (.int (I a 2))) ∧
  (∀ (I : Nat → Nat → Int32) (V : Nat → Nat → Nat) (L : Nat → Int64) (A : Nat → Nat → Int32) (a : Nat) (v : Int32) (K : MH → Prop), cSh[a]? = some sRider → pput (mkH cSh I V L A) a 1 2 (.int v) K = K (mkH cSh (up2 I a 2 v) V L A)) ∧
  (∀ (I : Nat → Nat → Int32) (V : Nat → Nat → Nat) (L : Nat → Int64) (A : Nat → Nat → Int32) (a : Nat) (K : Value → Prop), cSh[a]? = some sRider → pget (mkH cSh I V L A) a 1 3 K = K (.int (I a 3))) ∧
  (∀ (I : Nat → Nat → Int32) (V : Nat → Nat → Nat) (L : Nat → Int64) (A : Nat → Nat → Int32) (a : Nat) (v : Int32) (K : MH → Prop), cSh[a]? = some sRider → pput (mkH cSh I V L A) a 1 3 (.int v) K = K (mkH cSh (up2 I a 3 v) V L A)) ∧
  (∀ (I : Nat → Nat → Int32) (V : Nat → Nat → Nat) (L : Nat → Int64) (A : Nat → Nat → Int32) (a : Nat) (K : Value → Prop), cSh[a]? = some sRider → pget (mkH cSh I V L A) a 1 4 K = K (.int (I a 4))) ∧
  (∀ (I : Nat → Nat → Int32) (V : Nat → Nat → Nat) (L : Nat → Int64) (A : Nat → Nat → Int32) (a : Nat) (v : Int32) (K : MH → Prop), cSh[a]? = some sRider → pput (mkH cSh I V L A) a 1 4 (.int v) K = K (mkH cSh (up2 I a 4 v) V L A)) ∧
  (∀ (I : Nat → Nat → Int32) (V : Nat → Nat → Nat) (L : Nat → Int64) (A : Nat → Nat → Int32) (a : Nat) (K : Value → Prop), cSh[a]? = some sRider → pget (mkH cSh I V L A) a 1 5 K = K (.int (I a 5))) ∧
  (∀ (I : Nat → Nat → Int32) (V : Nat → Nat → Nat) (L : Nat → Int64) (A : Nat → Nat → Int32) (a : Nat) (v : Int32) (K : MH → Prop), cSh[a]? = some sRider → pput (mkH cSh I V L A) a 1 5 (.int v) K = K (mkH cSh (up2 I a 5 v) V L A)) ∧
  (∀ (I : Nat → Nat → Int32) (V : Nat → Nat → Nat) (L : Nat → Int64) (A : Nat → Nat → Int32) (a : Nat), cSh[a]? = some sRider → mrcv (mkH cSh I V L A) a 1 = true) :=
  ⟨fun _ _ _ _ _ _ h => H_get (c := 0) h rfl,
  fun _ _ _ _ _ _ _ h => H_put h rfl (by decide) ⟨rfl, rfl⟩,
  fun _ _ _ _ _ _ h => H_get (c := 0) h rfl,
  fun _ _ _ _ _ _ _ h => H_put h rfl (by decide) ⟨rfl, rfl⟩,
  fun _ _ _ _ _ _ h => H_get (c := 0) h rfl,
  fun _ _ _ _ _ _ _ h => H_put h rfl (by decide) ⟨rfl, rfl⟩,
  fun _ _ _ _ _ _ h => H_get (c := 0) h rfl,
  fun _ _ _ _ _ _ _ h => H_put h rfl (by decide) ⟨rfl, rfl⟩,
  fun _ _ _ _ _ _ h => H_get (c := 0) h rfl,
  fun _ _ _ _ _ _ _ h => H_put h rfl (by decide) ⟨rfl, rfl⟩,
  fun _ _ _ _ _ _ h => H_get (c := 0) h rfl,
  fun _ _ _ _ _ _ _ h => H_put h rfl (by decide) ⟨rfl, rfl⟩,
  fun _ _ _ _ _ h => H_rcv h (cSh_lt h) (by decide)⟩
theorem kRoad : (∀ (I : Nat → Nat → Int32) (V : Nat → Nat → Nat) (L : Nat → Int64) (A : Nat → Nat → Int32) (a : Nat) (K : Value → Prop), cSh[a]? = some sRoad → pget (mkH cSh I V L A) a 2 0 K = K (.ref (a + 1))) ∧
  (∀ (I : Nat → Nat → Int32) (V : Nat → Nat → Nat) (L : Nat → Int64) (A : Nat → Nat → Int32) (a : Nat) (K : Value → Prop), cSh[a]? = some sRoad → pget (mkH cSh I V L A) a 2 1 K = K (.int (I a 1))) ∧
  (∀ (I : Nat → Nat → Int32) (V : Nat → Nat → Nat) (L : Nat → Int64) (A : Nat → Nat → Int32) (a : Nat) (v : Int32) (K : MH → Prop), cSh[a]? = some sRoad → pput (mkH cSh I V L A) a 2 1 (.int v) K = K (mkH cSh (up2 I a 1 v) V L A)) ∧
  (∀ (I : Nat → Nat → Int32) (V : Nat → Nat → Nat) (L : Nat → Int64) (A : Nat → Nat → Int32) (a : Nat) (K : Value → Prop), cSh[a]? = some sRoad → pget (mkH cSh I V L A) a 2 2 K = K (.ref (V a 2))) ∧
  (∀ (I : Nat → Nat → Int32) (V : Nat → Nat → Nat) (L : Nat → Int64) (A : Nat → Nat → Int32) (a : Nat) (v : Nat) (K : MH → Prop), cSh[a]? = some sRoad → pput (mkH cSh I V L A) a 2 2 (.ref v) K = K (mkH cSh I (up2 V a 2 v) L A)) ∧
  (∀ (I : Nat → Nat → Int32) (V : Nat → Nat → Nat) (L : Nat → Int64) (A : Nat → Nat → Int32) (a : Nat), cSh[a]? = some sRoad → mrcv (mkH cSh I V L A) a 2 = true) :=
  ⟨fun _ _ _ _ _ _ h => H_get (c := 1001) h rfl,
  fun _ _ _ _ _ _ h => H_get (c := 0) h rfl,
  fun _ _ _ _ _ _ _ h => H_put h rfl (by decide) ⟨rfl, rfl⟩,
  fun _ _ _ _ _ _ h => H_get (c := 1) h rfl,
  fun _ _ _ _ _ _ _ h => H_putV h rfl (by decide) ⟨rfl, rfl⟩,
  fun _ _ _ _ _ h => H_rcv h (cSh_lt h) (by decide)⟩
theorem kSheet : (∀ (I : Nat → Nat → Int32) (V : Nat → Nat → Nat) (L : Nat → Int64) (A : Nat → Nat → Int32) (a : Nat) (K : Value → Prop), cSh[a]? = some sSheet → pget (mkH cSh I V L A) a 3 0 K = K (.ref (a + 1))) ∧
  (∀ (I : Nat → Nat → Int32) (V : Nat → Nat → Nat) (L : Nat → Int64) (A : Nat → Nat → Int32) (a : Nat) (K : Value → Prop), cSh[a]? = some sSheet → pget (mkH cSh I V L A) a 3 1 K = K (.int (I a 1))) ∧
  (∀ (I : Nat → Nat → Int32) (V : Nat → Nat → Nat) (L : Nat → Int64) (A : Nat → Nat → Int32) (a : Nat) (v : Int32) (K : MH → Prop), cSh[a]? = some sSheet → pput (mkH cSh I V L A) a 3 1 (.int v) K = K (mkH cSh (up2 I a 1 v) V L A)) ∧
  (∀ (I : Nat → Nat → Int32) (V : Nat → Nat → Nat) (L : Nat → Int64) (A : Nat → Nat → Int32) (a : Nat) (K : Value → Prop), cSh[a]? = some sSheet → pget (mkH cSh I V L A) a 3 2 K = K (.int (I a 2))) ∧
  (∀ (I : Nat → Nat → Int32) (V : Nat → Nat → Nat) (L : Nat → Int64) (A : Nat → Nat → Int32) (a : Nat) (v : Int32) (K : MH → Prop), cSh[a]? = some sSheet → pput (mkH cSh I V L A) a 3 2 (.int v) K = K (mkH cSh (up2 I a 2 v) V L A)) ∧
  (∀ (I : Nat → Nat → Int32) (V : Nat → Nat → Nat) (L : Nat → Int64) (A : Nat → Nat → Int32) (a : Nat), cSh[a]? = some sSheet → mrcv (mkH cSh I V L A) a 3 = true) :=
  ⟨fun _ _ _ _ _ _ h => H_get (c := 1001) h rfl,
  fun _ _ _ _ _ _ h => H_get (c := 0) h rfl,
  fun _ _ _ _ _ _ _ h => H_put h rfl (by decide) ⟨rfl, rfl⟩,
  fun _ _ _ _ _ _ h => H_get (c := 0) h rfl,
  fun _ _ _ _ _ _ _ h => H_put h rfl (by decide) ⟨rfl, rfl⟩,
  fun _ _ _ _ _ h => H_rcv h (cSh_lt h) (by decide)⟩
theorem kText : (∀ (I : Nat → Nat → Int32) (V : Nat → Nat → Nat) (L : Nat → Int64) (A : Nat → Nat → Int32) (a : Nat) (K : Value → Prop), cSh[a]? = some sText → pget (mkH cSh I V L A) a 5 0 K = K (.int (I a 0))) ∧
  (∀ (I : Nat → Nat → Int32) (V : Nat → Nat → Nat) (L : Nat → Int64) (A : Nat → Nat → Int32) (a : Nat) (v : Int32) (K : MH → Prop), cSh[a]? = some sText → pput (mkH cSh I V L A) a 5 0 (.int v) K = K (mkH cSh (up2 I a 0 v) V L A)) ∧
  (∀ (I : Nat → Nat → Int32) (V : Nat → Nat → Nat) (L : Nat → Int64) (A : Nat → Nat → Int32) (a : Nat) (K : Value → Prop), cSh[a]? = some sText → pget (mkH cSh I V L A) a 5 1 K = K (.ref (a + 1))) ∧
  (∀ (I : Nat → Nat → Int32) (V : Nat → Nat → Nat) (L : Nat → Int64) (A : Nat → Nat → Int32) (a : Nat) (K : Value → Prop), cSh[a]? = some sText → pget (mkH cSh I V L A) a 5 2 K = K (.ref (a + 2))) ∧
  (∀ (I : Nat → Nat → Int32) (V : Nat → Nat → Nat) (L : Nat → Int64) (A : Nat → Nat → Int32) (a : Nat) (K : Value → Prop), cSh[a]? = some sText → pget (mkH cSh I V L A) a 5 3 K = K (.ref (a + 3))) ∧
  (∀ (I : Nat → Nat → Int32) (V : Nat → Nat → Nat) (L : Nat → Int64) (A : Nat → Nat → Int32) (a : Nat) (K : Value → Prop), cSh[a]? = some sText → pget (mkH cSh I V L A) a 5 4 K = K (.int (I a 4))) ∧
  (∀ (I : Nat → Nat → Int32) (V : Nat → Nat → Nat) (L : Nat → Int64) (A : Nat → Nat → Int32) (a : Nat) (v : Int32) (K : MH → Prop), cSh[a]? = some sText → pput (mkH cSh I V L A) a 5 4 (.int v) K = K (mkH cSh (up2 I a 4 v) V L A)) ∧
  (∀ (I : Nat → Nat → Int32) (V : Nat → Nat → Nat) (L : Nat → Int64) (A : Nat → Nat → Int32) (a : Nat), cSh[a]? = some sText → mrcv (mkH cSh I V L A) a 5 = true) :=
  ⟨fun _ _ _ _ _ _ h => H_get (c := 0) h rfl,
  fun _ _ _ _ _ _ _ h => H_put h rfl (by decide) ⟨rfl, rfl⟩,
  fun _ _ _ _ _ _ h => H_get (c := 1001) h rfl,
  fun _ _ _ _ _ _ h => H_get (c := 1002) h rfl,
  fun _ _ _ _ _ _ h => H_get (c := 1003) h rfl,
  fun _ _ _ _ _ _ h => H_get (c := 0) h rfl,
  fun _ _ _ _ _ _ _ h => H_put h rfl (by decide) ⟨rfl, rfl⟩,
  fun _ _ _ _ _ h => H_rcv h (cSh_lt h) (by decide)⟩
theorem kArr : (∀ (I : Nat → Nat → Int32) (V : Nat → Nat → Nat) (L : Nat → Int64) (A : Nat → Nat → Int32) (a : Nat) (n : Nat) (i : Int32) (K : Int32 → Prop), cSh[a]? = some (sArr n) → pial (mkH cSh I V L A) a i K = pix i n (fun j => K (A a j))) ∧ (∀ (I : Nat → Nat → Int32) (V : Nat → Nat → Nat) (L : Nat → Int64) (A : Nat → Nat → Int32) (a : Nat) (n : Nat) (i x : Int32) (K : MH → Prop), cSh[a]? = some (sArr n) → pias (mkH cSh I V L A) a i x K = pix i n (fun j => K (mkH cSh I V L (upA A a (upd (A a) j x))))) ∧ (∀ (I : Nat → Nat → Int32) (V : Nat → Nat → Nat) (L : Nat → Int64) (A : Nat → Nat → Int32) (a : Nat) (n : Nat) (K : Nat → Prop), cSh[a]? = some (sArr n) → palen (mkH cSh I V L A) a K = K n) :=
  ⟨fun _ _ _ _ _ _ _ _ h => H_iald h (cSh_lt h), fun _ _ _ _ _ _ _ _ _ h => H_iast h, fun _ _ _ _ _ _ _ h => H_alenI h (cSh_lt h)⟩
