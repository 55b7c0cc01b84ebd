/-! TEXTS, told by a stack of what waits: tokens are the class's (numbers from 100 on); 112: a ( behind a comparison -/
def rk (x : Nat) : Nat := if x = 9 then 1 else if x = 10 then 2 else if x = 11 then 3 else if x = 18 ∨ x = 19 then 4 else if x = 15 ∨ x = 16 then 5 else if x = 17 then 6 else if x = 22 then 7 else 0
def opn (x : Nat) : Nat := if rk x = 0 ∨ x = 11 ∨ x = 22 then 1 else 0
def cnt : List Nat → Nat
  | [] => 0
  | x :: l => opn x + cnt l
def layc (l : Nat) : List Nat → List Nat
  | [] => []
  | x :: w => if l ≤ rk x then x :: layc l w else []
def layr (l : Nat) : List Nat → List Nat
  | [] => []
  | x :: w => if l ≤ rk x then layr l w else x :: w
def hdk : List Nat → Nat
  | [] => 0
  | x :: _ => rk x
theorem lay_app {l : Nat} {ws : List Nat} (h : hdk ws < l) : ∀ p : List Nat, (∀ x, x ∈ p → l ≤ rk x) → layc l (p ++ ws) = p ∧ layr l (p ++ ws) = ws := by
  intro p
  induction p with
  | nil =>
    intro _
    cases ws with
    | nil => exact ⟨rfl, rfl⟩
    | cons x w =>
      have h1 : ¬ l ≤ rk x := by have h9 : rk x < l := h; omega
      simp only [List.nil_append, layc, layr, if_neg h1, and_self]
  | cons y p ih =>
    intro hp
    have h1 := hp y (List.mem_cons_self ..)
    obtain ⟨g1, g2⟩ := ih (fun x hx => hp x (List.mem_cons_of_mem _ hx))
    simp only [List.cons_append, layc, layr, if_pos h1, g1, g2, and_self]
theorem lay_len (l : Nat) : ∀ w, (layc l w).length + (layr l w).length = w.length := by
  intro w
  induction w with
  | nil => rfl
  | cons x w ih =>
    simp only [layc, layr]
    split
    · simp only [List.length_cons]; omega
    · simp only [List.length_cons, List.length_nil]; omega
abbrev SYS : Type := List Nat × List Nat × Bool × Bool × Bool
def sgn (cm : Bool) (t : Nat) : Nat := if t = 17 ∨ t = 15 ∨ t = 16 ∨ t = 9 ∨ t = 10 then t else if (t = 18 ∨ t = 19) ∧ cm = false then t else 0
def sstep (s : SYS) (t : Nat) : Option SYS := match s with
  | (c, ws, cm, false, st) => if t ≤ 5 ∨ 100 ≤ t then some (c ++ t :: layc 7 ws, layr 7 ws, cm, true, st)
      else if (t = 12 ∨ t = 16 ∨ (t = 11 ∧ st = true)) ∧ cnt ws < 5 then (if t = 12 then some (c, (if cm = true then 112 else 12) :: ws, false, false, true) else if t = 16 then some (c, 22 :: ws, cm, false, false) else some (c, 11 :: ws, cm, false, true)) else none
  | (c, ws, cm, true, st) => if t = 13 then (match layr 1 ws with
      | [] => none
      | b :: w => some (c ++ layc 1 ws ++ layc 7 w, layr 7 w, decide (b = 112), true, st)) else
      if sgn cm t = 0 then none else some (c ++ layc (rk t) ws, t :: layr (rk t) ws, (if rk t < 3 then false else if rk t = 4 then true else cm), false, decide (rk t < 3))
def syN (T : Nat → Nat) : Nat → Nat → SYS → Option SYS
  | 0, _, s => some s
  | n + 1, i, s => match sstep s (T i) with
    | none => none
    | some s' => syN T n (i + 1) s'
def SR (T : Nat → Nat) (i : Nat) (s : SYS) (i' : Nat) (s' : SYS) : Prop := ∃ n, i' = i + n ∧ syN T n i s = some s'
theorem SR_refl {T : Nat → Nat} {i : Nat} {s : SYS} : SR T i s i s := ⟨0, rfl, rfl⟩
theorem syN_add {T : Nat → Nat} : ∀ (n m i : Nat) (s s1 : SYS), syN T n i s = some s1 → syN T (n + m) i s = syN T m (i + n) s1 := by
  intro n
  induction n with
  | zero => intro m i s s1 h; cases h; rw [Nat.zero_add, Nat.add_zero]
  | succ n ih =>
    intro m i s s1 h
    rw [show n + 1 + m = (n + m) + 1 by omega]
    simp only [syN] at h ⊢
    split at h
    · cases h
    · rename_i s' hs
      rw [ih m (i + 1) s' s1 h, show i + 1 + n = i + (n + 1) by omega]
theorem SR_trans {T : Nat → Nat} {i j k : Nat} {s s1 s2 : SYS} (h : SR T i s j s1) (g : SR T j s1 k s2) : SR T i s k s2 := by
  obtain ⟨n, rfl, h⟩ := h
  obtain ⟨m, rfl, g⟩ := g
  exact ⟨n + m, by omega, by rw [syN_add n m i s s1 h]; exact g⟩
theorem SR_one {T : Nat → Nat} {i : Nat} {s s1 : SYS} (h : sstep s (T i) = some s1) : SR T i s (i + 1) s1 := ⟨1, rfl, by simp only [syN, h]⟩
theorem SR_le {T : Nat → Nat} {i j : Nat} {s s1 : SYS} (h : SR T i s j s1) : i ≤ j := by obtain ⟨n, rfl, _⟩ := h; omega
def szS (s : SYS) : Nat := s.1.length + s.2.1.length
theorem sstep_sz {s s1 : SYS} {t : Nat} (h : sstep s t = some s1) : szS s1 ≤ szS s + 1 := by
  obtain ⟨c, ws, cm, bh, st⟩ := s
  cases bh
  · simp only [sstep] at h
    split at h
    · cases h
      have := lay_len 7 ws
      simp only [szS, List.length_append, List.length_cons]; omega
    · split at h
      · split at h
        · cases h; simp only [szS, List.length_cons]; omega
        · split at h
          · cases h; simp only [szS, List.length_cons]; omega
          · cases h; simp only [szS, List.length_cons]; omega
      · cases h
  · simp only [sstep] at h
    split at h
    · split at h
      · cases h
      · rename_i b w hb
        cases h
        have h1 := lay_len 1 ws
        have h2 := lay_len 7 w
        rw [hb, List.length_cons] at h1
        simp only [szS, List.length_append]; omega
    · split at h
      · cases h
      · cases h
        have := lay_len (rk t) ws
        simp only [szS, List.length_append, List.length_cons]; omega
theorem SR_sz {T : Nat → Nat} {j : Nat} {s1 : SYS} : ∀ {i : Nat} {s : SYS}, SR T i s j s1 → szS s1 + i ≤ szS s + j := by
  intro i s h
  obtain ⟨n, rfl, h⟩ := h
  induction n generalizing i s with
  | zero => cases h; omega
  | succ n ih =>
    simp only [syN] at h
    split at h
    · cases h
    · rename_i s' hs
      have h1 := sstep_sz hs
      have h2 := ih h
      omega
/-- 20 (the tape's end), 21 (none), 14 (;), 6 .. 8 stand nowhere -/
theorem sstep_no {s : SYS} {t : Nat} (h : t = 20 ∨ t = 21 ∨ t = 14 ∨ t = 6 ∨ t = 7 ∨ t = 8) : sstep s t = none := by
  obtain ⟨c, ws, cm, bh, st⟩ := s
  have h1 : ¬ (t ≤ 5 ∨ 100 ≤ t) := by omega
  have h2 : ¬ ((t = 12 ∨ t = 16 ∨ (t = 11 ∧ st = true)) ∧ cnt ws < 5) := by rintro ⟨z | z | z, _⟩ <;> omega
  have h3 : ¬ t = 13 := by omega
  have h4 : sgn cm t = 0 := by
    unfold sgn
    rw [if_neg (by omega), if_neg (by rintro ⟨z, _⟩; omega)]
  cases bh
  · simp only [sstep, if_neg h1, if_neg h2]
  · simp only [sstep, if_neg h3, if_pos h4]
theorem SR_end {T : Nat → Nat} {cn : Nat} (hT : ∀ i, cn ≤ i → T i = 20) {i j : Nat} {s s1 : SYS} (h : SR T i s j s1) (hi : i ≤ cn) : j ≤ cn := by
  obtain ⟨n, rfl, h⟩ := h
  induction n generalizing i s with
  | zero => exact hi
  | succ n ih =>
    simp only [syN] at h
    split at h
    · cases h
    · rename_i s' hs
      by_cases c : i = cn
      · rw [hT i (by omega), sstep_no (Or.inl rfl)] at hs; cases hs
      · have := ih (by omega) h; omega
/-- here the reader stops -/
def bad (s : SYS) (t : Nat) : Prop := sstep s t = none ∧ ¬ (s.2.2.2.1 = true ∧ t = 14 ∧ layr 1 s.2.1 = [])
theorem bad_bh {c ws : List Nat} {cm st : Bool} {t : Nat} (h13 : t ≠ 13) (h14 : t ≠ 14) (hs : sgn cm t = 0) : bad (c, ws, cm, true, st) t := ⟨by simp only [sstep, if_neg h13, if_pos hs], fun z => h14 z.2.1⟩
theorem bad_nb {c ws : List Nat} {cm st : Bool} {t : Nat} (h1 : ¬ (t ≤ 5 ∨ 100 ≤ t)) (h2 : ¬ ((t = 12 ∨ t = 16 ∨ (t = 11 ∧ st = true)) ∧ cnt ws < 5)) : bad (c, ws, cm, false, st) t := ⟨by simp only [sstep, if_neg h1, if_neg h2], fun z => by cases z.1⟩
/-- code of ones and signs -/
def nT (x : Nat) : Int32 := nI x
def wfx (e : List Nat) : Prop := ∀ (n : Nat) (l : List Int32), wf l (n + 1) → wf (e.map nT ++ l) n
theorem wfx_one {t : Nat} (h : t ≤ 5 ∨ (100 ≤ t ∧ t < 10100)) : wfx [t] := by
  intro n l hl
  refine Or.inl ⟨?_, hl⟩
  rcases h with h | ⟨h, h2⟩
  · exact Or.inr ⟨t, h, rfl⟩
  · exact Or.inl ⟨t - 100, by omega, by show nI t = nI (100 + (t - 100)); rw [show 100 + (t - 100) = t by omega]⟩
theorem wfx_un {e : List Nat} {t : Nat} (h : wfx e) (ht : t = 11 ∨ t = 22) : wfx (e ++ [t]) := by
  intro n l hl
  rw [List.map_append, List.append_assoc]
  refine h n _ (Or.inr (Or.inl ⟨?_, by omega, hl⟩))
  rcases ht with rfl | rfl
  · exact Or.inl rfl
  · exact Or.inr rfl
theorem wfx_bin {e f : List Nat} {t : Nat} (h : wfx e) (g : wfx f) (ht : t = 9 ∨ t = 10 ∨ t = 15 ∨ t = 16 ∨ t = 17 ∨ t = 18 ∨ t = 19) : wfx (e ++ f ++ [t]) := by
  intro n l hl
  rw [List.map_append, List.map_append, List.append_assoc, List.append_assoc]
  refine h n _ (g (n + 1) _ (Or.inr (Or.inr ⟨?_, by omega, hl⟩)))
  rcases ht with rfl | rfl | rfl | rfl | rfl | rfl | rfl
  · exact Or.inl rfl
  · exact Or.inr (Or.inl rfl)
  · exact Or.inr (Or.inr (Or.inl rfl))
  · exact Or.inr (Or.inr (Or.inr (Or.inl rfl)))
  · exact Or.inr (Or.inr (Or.inr (Or.inr (Or.inl rfl))))
  · exact Or.inr (Or.inr (Or.inr (Or.inr (Or.inr (Or.inl rfl)))))
  · exact Or.inr (Or.inr (Or.inr (Or.inr (Or.inr (Or.inr rfl)))))
theorem wfx_wf {e : List Nat} (h : wfx e) : wf (e.map nT) 0 := by
  have := h 0 [] rfl
  rwa [List.append_nil] at this
