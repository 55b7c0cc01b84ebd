/-! which steps end a method, which call -/
def mNR (o : MR) : Prop := ∀ r, o = some r → ∃ x, r = .inl x
theorem nr_none : mNR none := fun _ h => by cases h
theorem nr_go {pc : Nat} {loc : List (Option Value)} {st : List Value} {h : MH} : mNR (mgo pc loc st h) := fun _ e => ⟨_, mgo_inv e⟩
theorem nr_i1 {st : List Value} {f : Int32 → List Value → MR} (h : ∀ x r, mNR (f x r)) : mNR (mi1 st f) := fun _ e => by obtain ⟨x, r, -, e2⟩ := mi1_inv e; exact h _ _ _ e2
theorem nr_i2 {st : List Value} {f : Int32 → Int32 → List Value → MR} (h : ∀ x y r, mNR (f x y r)) : mNR (mi2 st f) := fun _ e => by obtain ⟨x, y, r, -, e2⟩ := mi2_inv e; exact h _ _ _ _ e2
theorem nr_l1 {st : List Value} {f : Int64 → List Value → MR} (h : ∀ x r, mNR (f x r)) : mNR (ml1 st f) := fun _ e => by obtain ⟨x, r, -, e2⟩ := ml1_inv e; exact h _ _ _ e2
theorem nr_l2 {st : List Value} {f : Int64 → Int64 → List Value → MR} (h : ∀ x y r, mNR (f x y r)) : mNR (ml2 st f) := fun _ e => by obtain ⟨x, y, r, -, e2⟩ := ml2_inv e; exact h _ _ _ _ e2
theorem nr_r1 {st : List Value} {f : Nat → List Value → MR} (h : ∀ x r, mNR (f x r)) : mNR (mr1 st f) := fun _ e => by obtain ⟨x, r, -, e2⟩ := mr1_inv e; exact h _ _ _ e2
theorem nr_v1 {st : List Value} {f : Value → List Value → MR} (h : ∀ x r, mNR (f x r)) : mNR (mv1 st f) := fun _ e => by obtain ⟨x, r, -, -, e2⟩ := mv1_inv e; exact h _ _ _ e2
theorem nr_j {pc : Nat} {off : Int} {f : Nat → MR} (h : ∀ t, mNR (f t)) : mNR (mj pc off f) := fun _ e => by obtain ⟨t, -, e2⟩ := mj_inv e; exact h _ _ e2
theorem nr_if {c : Prop} [Decidable c] {pc : Nat} {off : Int} {loc : List (Option Value)} {st : List Value} {h : MH} : mNR (mif c pc off loc st h) := fun _ e => by obtain ⟨t, -, e2⟩ := mif_inv e; exact ⟨_, e2⟩
theorem nr_ld {loc : List (Option Value)} {i : Nat} {f : Value → MR} (h : ∀ v, mNR (f v)) : mNR (mld loc i f) := fun _ e => by obtain ⟨v, -, e2⟩ := mld_inv e; exact h _ _ e2
theorem nr_st {loc : List (Option Value)} {i : Nat} {v : Value} {f : List (Option Value) → MR} (h : ∀ l, mNR (f l)) : mNR (mst loc i v f) := fun _ e => h _ _ (mst_inv e).2.2
theorem nr_st2 {loc : List (Option Value)} {i : Nat} {v : Value} {f : List (Option Value) → MR} (h : ∀ l, mNR (f l)) : mNR (mst2 loc i v f) := fun _ e => h _ _ (mst2_inv e).2.2
theorem nr_ilo {loc : List (Option Value)} {i pc : Nat} {st : List Value} {h : MH} : mNR (milo loc i pc st h) := fun _ e => by obtain ⟨x, -, e2⟩ := milo_inv e; exact ⟨_, e2⟩
theorem nr_llo {loc : List (Option Value)} {i pc : Nat} {st : List Value} {h : MH} : mNR (mllo loc i pc st h) := fun _ e => by obtain ⟨x, -, e2⟩ := mllo_inv e; exact ⟨_, e2⟩
theorem nr_alo {loc : List (Option Value)} {i pc : Nat} {st : List Value} {h : MH} : mNR (malo loc i pc st h) := fun _ e => by obtain ⟨x, -, -, e2⟩ := malo_inv e; exact ⟨_, e2⟩
theorem nr_ast {loc : List (Option Value)} {i pc : Nat} {st : List Value} {h : MH} : mNR (mast loc i pc st h) := fun _ e => by obtain ⟨x, r, -, -, -, -, e2⟩ := mast_inv e; exact ⟨_, e2⟩
theorem nr_get {h : MH} {a ci k : Nat} {f : Value → MR} (hf : ∀ v, mNR (f v)) : mNR (mget h a ci k f) := fun _ e => by obtain ⟨fs, v, -, -, e2⟩ := mget_inv e; exact hf _ _ e2
theorem nr_put {h : MH} {a ci k : Nat} {v : Value} {f : MH → MR} (hf : ∀ h, mNR (f h)) : mNR (mput h a ci k v f) := fun _ e => by obtain ⟨fs, -, -, -, -, -, e2⟩ := mput_inv e; exact hf _ _ e2
theorem nr_ial {h : MH} {a : Nat} {i : Int32} {f : Int32 → MR} (hf : ∀ v, mNR (f v)) : mNR (mial h a i f) := fun _ e => by rcases mial_inv e with ⟨-, -, e2⟩ | ⟨n, g, -, -, e2⟩ <;> exact hf _ _ e2
theorem nr_ias {h : MH} {a : Nat} {i x : Int32} {f : MH → MR} (hf : ∀ h, mNR (f h)) : mNR (mias h a i x f) := fun _ e => by obtain ⟨n, g, -, -, e2⟩ := mias_inv e; exact hf _ _ e2
theorem nr_bal {a : Nat} {i : Int32} {f : Int32 → MR} (hf : ∀ v, mNR (f v)) : mNR (mbal a i f) := fun _ e => hf _ _ (mbal_inv e).2.2.2
theorem nr_aal {h : MH} {a : Nat} {i : Int32} {f : Value → MR} (hf : ∀ v, mNR (f v)) : mNR (maal h a i f) := fun _ e => by obtain ⟨c, n, g, -, -, e2⟩ := maal_inv e; exact hf _ _ e2
theorem nr_aas {h : MH} {a : Nat} {i : Int32} {v : Nat} {f : MH → MR} (hf : ∀ h, mNR (f h)) : mNR (maas h a i v f) := fun _ e => by obtain ⟨c, n, g, fs, -, -, -, -, e2⟩ := maas_inv e; exact hf _ _ e2
theorem nr_aln {h : MH} {a : Nat} {f : Nat → MR} (hf : ∀ v, mNR (f v)) : mNR (malen h a f) := fun _ e => by rcases malen_inv e with ⟨-, -, e2⟩ | ⟨-, e2⟩ | ⟨n, g, -, e2⟩ | ⟨c, n, g, -, e2⟩ <;> exact hf _ _ e2
theorem nr_cpy {h : MH} {pc : Nat} {loc : List (Option Value)} {st : List Value} : mNR (mcopy h pc loc st) := fun _ e => by
  obtain ⟨n, dp, b, sp, a, rest, n0, f, n1, g, -, -, -, -, -, -, -, -, -, e2⟩ := mcopy_inv e
  exact ⟨_, e2⟩
theorem nr_ite {c : Prop} [Decidable c] {a b : MR} (ha : mNR a) (hb : mNR b) : mNR (if c then a else b) := by split <;> assumption
/-- a return -/
def mRetS (i : Instr) (rt : Option FieldType) (st : List Value) (v : Option Value) : Prop :=
  (i = .ireturn ∧ ∃ x t, st = [.int x] ∧ rt = some t ∧ narrow t (.int x) = .int x ∧ v = some (.int x)) ∨ (i = .lreturn ∧ ∃ x, st = [.long x] ∧ rt = some .long ∧ v = some (.long x)) ∨
  (i = .areturn ∧ ∃ w t, st = [w] ∧ rt = some (.object t) ∧ (w = .null ∨ ∃ a, w = .ref a) ∧ v = some w) ∨ (i = .return_ ∧ st = [] ∧ rt = none ∧ v = none)
def mInvS (cn : Nat) (i : Instr) (md : Nat) : Prop := ∃ idx i0 id, mlkf cn idx = some (i0, 6, id, md) ∧ ((i = .invokevirtual idx ∧ (md = 0 ∨ md = 1)) ∨ (i = .invokestatic idx ∧ (md = 2 ∨ md = 3)) ∨ (i = .invokespecial idx ∧ (md = 4 ∨ md = 5)))
set_option maxHeartbeats 2000000 in
theorem mstep_nr {cn : Nat} {rt : Option FieldType} {ini : Bool} {i : Instr} {pc : Nat} {loc : List (Option Value)} {st : List Value} {h : MH} {o} (E : mstep cn rt ini i pc loc st h = some o) : (∃ x, o = .inl x) ∨ (∃ v, o = .inr (.inl (v, h)) ∧ mRetS i rt st v) ∨
    (∃ idx i0 id md, mlkf cn idx = some (i0, 6, id, md) ∧ ((i = .invokevirtual idx ∧ (md = 0 ∨ md = 1)) ∨ (i = .invokestatic idx ∧ (md = 2 ∨ md = 3)) ∨ (i = .invokespecial idx ∧ (md = 4 ∨ md = 5))) ∧ minv h md id pc loc st = some o) := by
  cases i
  case ireturn =>
    simp only [mstep] at E
    split at E
    · split at E
      · rw [mret_inv E]; exact Or.inr (Or.inl ⟨_, rfl, Or.inl ⟨rfl, _, _, rfl, rfl, by assumption, rfl⟩⟩)
      · cases E
    · cases E
  case lreturn =>
    simp only [mstep] at E
    split at E
    · split at E
      · rw [mret_inv E]; exact Or.inr (Or.inl ⟨_, rfl, Or.inr (Or.inl ⟨rfl, _, rfl, by assumption, rfl⟩)⟩)
      · cases E
    · cases E
  case areturn =>
    simp only [mstep] at E
    split at E
    · rw [mret_inv E]; exact Or.inr (Or.inl ⟨_, rfl, Or.inr (Or.inr (Or.inl ⟨rfl, _, _, rfl, rfl, Or.inr ⟨_, rfl⟩, rfl⟩))⟩)
    · rw [mret_inv E]; exact Or.inr (Or.inl ⟨_, rfl, Or.inr (Or.inr (Or.inl ⟨rfl, _, _, rfl, rfl, Or.inl rfl, rfl⟩))⟩)
    · cases E
  case return_ =>
    simp only [mstep] at E
    split at E
    · split at E
      · rw [mret_inv E]; exact Or.inr (Or.inl ⟨_, rfl, Or.inr (Or.inr (Or.inr ⟨rfl, rfl, by assumption, rfl⟩))⟩)
      · cases E
    · cases E
  case invokevirtual =>
    simp only [mstep] at E
    split at E
    · split at E
      · exact Or.inr (Or.inr ⟨_, _, _, _, by assumption, Or.inl ⟨rfl, by assumption⟩, E⟩)
      · cases E
    · cases E
  case invokestatic =>
    simp only [mstep] at E
    split at E
    · split at E
      · exact Or.inr (Or.inr ⟨_, _, _, _, by assumption, Or.inr (Or.inl ⟨rfl, by assumption⟩), E⟩)
      · cases E
    · exact Or.inl (nr_cpy _ E)
    · exact Or.inl (nr_i2 (fun _ _ _ => nr_ite nr_go nr_none) _ E)
    · exact Or.inl (nr_i2 (fun _ _ _ => nr_ite nr_go nr_none) _ E)
    · cases E
  case invokespecial =>
    simp only [mstep] at E
    split at E
    · split at E
      · exact Or.inr (Or.inr ⟨_, _, _, _, by assumption, Or.inr (Or.inr ⟨rfl, by assumption⟩), E⟩)
      · cases E
    · exact Or.inl (nr_r1 (fun _ _ => nr_ite nr_go nr_none) _ E)
    · cases E
  all_goals first
    | (cases E; done)
    | skip
  all_goals left
  all_goals revert o
  all_goals show mNR _
  all_goals simp only [mstep]
  all_goals repeat' (first | exact nr_go | exact nr_none | exact nr_if | exact nr_ilo | exact nr_llo | exact nr_alo | exact nr_ast | (apply nr_i1; intro _ _) | (apply nr_i2; intro _ _ _) | (apply nr_l1; intro _ _) | (apply nr_l2; intro _ _ _) | (apply nr_r1; intro _ _) | (apply nr_v1; intro _ _) | (apply nr_j; intro _) | (apply nr_ld; intro _) | (apply nr_st; intro _) | (apply nr_st2; intro _) | (apply nr_get; intro _) | (apply nr_put; intro _) | (apply nr_ial; intro _) | (apply nr_ias; intro _) | (apply nr_bal; intro _) | (apply nr_aal; intro _) | (apply nr_aas; intro _) | (apply nr_aln; intro _) | apply nr_ite | split)
