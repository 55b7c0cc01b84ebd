/-! small numbers as ints: rules for simp, literals on either side -/
theorem kA {a n : Nat} (h : cSh[a]? = some (sArr n)) : (∀ (I : Nat → Nat → Int32) (V : Nat → Nat → Nat) (L : Nat → Int64) (A : Nat → Nat → Int32) (i : Int32) (K : Int32 → Prop), pial (mkH cSh I V L A) a i K = pix i n (fun j => K (A a j))) ∧
    (∀ (I : Nat → Nat → Int32) (V : Nat → Nat → Nat) (L : Nat → Int64) (A : Nat → Nat → Int32) (i x : Int32) (K : MH → Prop), pias (mkH cSh I V L A) a i x K = pix i n (fun j => K (mkH cSh I V L (upA A a (upd (A a) j x))))) ∧
    ∀ (I : Nat → Nat → Int32) (V : Nat → Nat → Nat) (L : Nat → Int64) (A : Nat → Nat → Int32) (K : Nat → Prop), palen (mkH cSh I V L A) a K = K n :=
  ⟨fun _ _ _ _ _ _ => H_iald h (cSh_lt h), fun _ _ _ _ _ _ _ => H_iast h, fun _ _ _ _ _ => H_alenI h (cSh_lt h)⟩
theorem upA_s {A : Nat → Nat → Int32} {a : Nat} {f : Nat → Int32} : upA A a f a = f := if_pos rfl
theorem upA_n {A : Nat → Nat → Int32} {a b : Nat} {f : Nat → Int32} (h : b ≠ a) : upA A a f b = A b := if_neg h
theorem upA_u {A : Nat → Nat → Int32} {a : Nat} {f g : Nat → Int32} : upA (upA A a f) a g = upA A a g := by
  funext b
  unfold upA
  split <;> rfl
theorem upA_self {A : Nat → Nat → Int32} {a : Nat} : upA A a (A a) = A := by
  funext b
  unfold upA
  split
  · rename_i h; rw [h]
  · rfl
theorem up2_s {α : Type} {I : Nat → Nat → α} {a f : Nat} {v : α} : up2 I a f v a f = v := if_pos ⟨rfl, rfl⟩
theorem up2_a {α : Type} {I : Nat → Nat → α} {a f b g : Nat} {v : α} (h : b ≠ a) : up2 I a f v b g = I b g := if_neg (fun z => h z.1)
theorem up2_f {α : Type} {I : Nat → Nat → α} {a f b g : Nat} {v : α} (h : g ≠ f) : up2 I a f v b g = I b g := if_neg (fun z => h z.2)
theorem upd_s {f : Nat → Int32} {k : Nat} {x : Int32} : upd f k x k = x := if_pos rfl
theorem upd_n {f : Nat → Int32} {k j : Nat} {x : Int32} (h : j ≠ k) : upd f k x j = f j := if_neg h
theorem nI_d (n : Nat) : Int32.ofNat n = nI n := rfl
theorem nI_L (n : Nat) [OfNat Int32 n] (h : (OfNat.ofNat n : Int32) = nI n) : (OfNat.ofNat n : Int32) = nI n := h
theorem q_lt {a n : Nat} (ha : a < 2 ^ 31) (hn : n < 2 ^ 31) : (nI a < (OfNat.ofNat n : Int32)) = (a < n) := propext (nI_ltI ha hn)
theorem q_gt {a n : Nat} (ha : a < 2 ^ 31) (hn : n < 2 ^ 31) : ((OfNat.ofNat n : Int32) < nI a) = (n < a) := propext (nI_ltI hn ha)
theorem q_ll {a b : Nat} (ha : a < 2 ^ 31) (hb : b < 2 ^ 31) : (nI a < nI b) = (a < b) := propext (nI_ltI ha hb)
theorem q_eq {a n : Nat} (ha : a < 2 ^ 31) (hn : n < 2 ^ 31) : (nI a = (OfNat.ofNat n : Int32)) = (a = n) := propext (nI_eq ha hn)
theorem q_ee {a b : Nat} (ha : a < 2 ^ 31) (hb : b < 2 ^ 31) : (nI a = nI b) = (a = b) := propext (nI_eq ha hb)
theorem q_add {a n : Nat} : nI a + (OfNat.ofNat n : Int32) = nI (a + n) := nI_add a n
theorem q_addm {a : Nat} (h : 1 ≤ a) : nI a + (-1) = nI (a - 1) := by
  obtain ⟨b, rfl⟩ : ∃ b, a = b + 1 := ⟨a - 1, by omega⟩
  exact pk_m1 b
theorem q_aa {a b : Nat} : nI a + nI b = nI (a + b) := nI_add a b
theorem q_sub {a n : Nat} (h : n ≤ a) : nI a - (OfNat.ofNat n : Int32) = nI (a - n) := pk_sub h
theorem q_ss {a b : Nat} (h : b ≤ a) : nI a - nI b = nI (a - b) := pk_sub h
theorem q_mul {a n : Nat} : (OfNat.ofNat n : Int32) * nI a = nI (n * a) := pk_mul n a
theorem q_mulr {a n : Nat} : nI a * (OfNat.ofNat n : Int32) = nI (a * n) := pk_mul a n
theorem q_div {a n : Nat} (ha : a < 2 ^ 31) (h0 : 0 < n) (hn : n < 2 ^ 31) : nI a / (OfNat.ofNat n : Int32) = nI (a / n) := pk_div ha h0 hn
theorem q_rem {a n : Nat} (ha : a < 2 ^ 31) (h0 : 0 < n) (hn : n < 2 ^ 31) : nI a - nI a / (OfNat.ofNat n : Int32) * (OfNat.ofNat n : Int32) = nI (a % n) := pk_rem ha h0 hn
theorem q_neg {a : Nat} (ha : a < 2 ^ 31) : (nI a < 0) = False := propext ⟨fun h => nI_pos ha h, False.elim⟩
theorem ne0 (n : Nat) : (nI (n + 1) = 0) = False ∨ True := Or.inr trivial
def clamp99 (v : Int32) : Nat := if v < 0 then 0 else if 99 < v then 99 else v.toNatClampNeg
theorem i32_lt {x y : Int32} : x < y ↔ x.toInt < y.toInt := Int32.lt_iff_toInt_lt
theorem clamp99_le (v : Int32) : clamp99 v ≤ 99 := by
  unfold clamp99
  split
  · omega
  · split
    · omega
    · rename_i h1 h2
      rw [i32_lt] at h1 h2
      have e99 : (99 : Int32).toInt = 99 := by decide
      have e0 : (0 : Int32).toInt = 0 := by decide
      have : v.toNatClampNeg = v.toInt.toNat := rfl
      omega
theorem clamp99_eq (v : Int32) : (if (0 : Int32) < (if (99 : Int32) < v then (99 : Int32) else v) then (if (99 : Int32) < v then (99 : Int32) else v) else 0) = nI (clamp99 v) := by
  unfold clamp99
  have e99 : (99 : Int32).toInt = 99 := by decide
  have e0 : (0 : Int32).toInt = 0 := by decide
  by_cases h1 : v < 0
  · have h2 : ¬ (99 : Int32) < v := by rw [i32_lt] at h1 ⊢; omega
    have h3 : ¬ (0 : Int32) < v := by rw [i32_lt] at h1 ⊢; omega
    simp only [h1, h2, h3, if_true, if_false]
    rfl
  · by_cases h2 : (99 : Int32) < v
    · have h3 : (0 : Int32) < 99 := by decide
      simp only [h1, h2, h3, if_true, if_false]
      rfl
    · simp only [h1, h2, if_false]
      obtain ⟨j, hj, rfl⟩ := nI_of h1
      rw [nI_clamp hj]
      by_cases h3 : (0 : Int32) < nI j
      · rw [if_pos h3]
      · rw [if_neg h3]
        have : j = 0 := by
          rw [i32_lt, nI_toInt hj] at h3
          omega
        rw [this]; rfl
