/-! the constructors, run by the kernel: what stands behind them (written by gen99o4.py) -/
def cI0 : TI := fun a f => if a = 0 ∧ f = 3 then 1 else if 23 ≤ a ∧ a ≤ 43 ∧ a % 4 = 3 ∧ f = 0 then nI ((a - 23) / 4) else if a = 23 ∧ f = 4 then 5 else if 47 ≤ a ∧ a ≤ 53 ∧ a % 2 = 1 ∧ f = 1 then -1 else if a = 55 ∧ f = 2 then 12 else if a = 55 ∧ f = 3 then 20 else if a = 55 ∧ f = 5 then -1 else if a = 56 ∧ f = 2 then 11 else 0
def cV0 : TV := fun _ _ => 23
def cL0 : Nat → Int64 := fun _ => 0
def cR0 (a : Nat) : List Int32 := if a = 3 then [108, 101, 116, 115, 32, 116, 104, 111, 117, 103, 104, 116, 32, 42, 32, 55, 32, 59, 32, 104, 111, 108, 100, 115, 32, 52, 48, 32, 59, 32, 112, 117, 109, 112, 115, 32, 49, 32, 59] else if a = 24 then [0, 107, 17, 140, 101] else if a = 26 then [3, 4, 5] else if a = 57 then [6, 0, 17, 107, 14, 7, 140, 14, 8, 101, 14] else if a = 58 then [0, 5, 13, 15, 17, 19, 25, 28, 30, 36, 38] else []
def cA0 : TI := fun a j => (cR0 a).getD j 0
def dI0 : TI := fun a f => if a = 0 ∧ f = 12 then 1 else if a = 0 ∧ f = 16 then 5 else 0
def dR0 (a : Nat) : List Int32 := if a = 9 then [0, 3, 4] else if a = 10 then [3, 1, 1] else if a = 11 then [0, 22, 8, 55, 16] else if a = 20 then [-1, -1, -1, -1] else []
def dA0 : TI := fun a j => (dR0 a).getD j 0
def hC0 : MH := mkH cSh cI0 cV0 cL0 cA0
def hM0 : MH := mkH dSh dI0 cV0 cL0 dA0
theorem mz_mkH {sh : List SC} {I : TI} {V : TV} {L : Nat → Int64} {A : TI} (h : ∀ a n, sh[a]? = some (.inr (.inl n)) → ∀ j, n ≤ j → A a j = 0) : mz (mkH sh I V L A) := by
  intro c hc
  obtain ⟨a, ha⟩ := List.mem_iff_getElem?.mp hc
  cases hs : sh[a]? with
  | none => rw [mkH_none hs] at ha; cases ha
  | some x =>
    rw [mkH_at hs] at ha
    cases ha
    match x, hs with
    | .inl (ci, cs), _ => exact cz_o
    | .inr (.inl n), hs => exact cz_i (h a n hs)
    | .inr (.inr (ci, n, b, s)), _ => exact cz_r (fun j hj => if_neg (Nat.not_lt.mpr hj))
def shchk (sh : List SC) (r : Nat → List Int32) : Bool := (List.range sh.length).all (fun a => match sh[a]? with
  | some (.inr (.inl n)) => decide ((r a).length ≤ n)
  | _ => true)
theorem shchk_z {sh : List SC} {r : Nat → List Int32} (h : shchk sh r = true) : ∀ a n, sh[a]? = some (.inr (.inl n)) → ∀ j, n ≤ j → (r a).getD j 0 = 0 := by
  intro a n ha j hj
  have h1 := List.all_eq_true.mp h a (List.mem_range.mpr (List.getElem?_eq_some_iff.mp ha).1)
  simp only [ha, decide_eq_true_eq] at h1
  rw [List.getD_eq_getElem?_getD, List.getElem?_eq_none (Nat.le_trans h1 hj)]
  rfl
theorem mz_new {ci : Nat} : mz [mnew ci] := fun c hc => by rw [List.mem_singleton.mp hc]; exact cz_o
theorem mz_C0 : mz hC0 := mz_mkH (shchk_z (by decide +kernel))
theorem mz_M0 : mz hM0 := mz_mkH (shchk_z (by decide +kernel))
/-- the reference's constructor -/
theorem run113 : mcall 20 3000 113 [.ref 0] [mnew 9] = some (none, hM0) := f_run mz_new mz_M0 (by decide +kernel)
